def k_X6_write : List (Nat × aI) := [
  (0, i_iload 1 1),
  (1, i_push (.int 32) 2),
  (3, i_push (.int 126) 2),
  (5, i_callS 114 3),
  (8, i_if (fun x => x = 0) 11 13),
  (11, i_push (.int (-1)) 1),
  (12, i_iret),
  (13, i_aload 0 1),
  (14, i_get 6 0),
  (17, i_iload 1 1),
  (18, i_callV 11 2 1),
  (21, i_if (fun x => x = 0) 34 24),
  (24, i_aload 0 1),
  (25, i_get 6 0),
  (28, i_callV 9 1 1),
  (31, i_goto 36),
  (34, i_push (.int (-3)) 2),
  (36, i_iret)]
theorem s_X6_write : ∀ q ∈ k_X6_write, Snd RX6 cX6_write (some .int) false q.1 q.2 := by
  unfold k_X6_write
  refine List.forall_mem_cons.mpr ⟨snd_iload_n (by decide +kernel : decode cX6_write 0 = .ok (.iload_n 1, 1)) rfl, ?_⟩
  refine List.forall_mem_cons.mpr ⟨snd_bipush (by decide +kernel : decode cX6_write 1 = .ok (.bipush 32, 2)) (by decide +kernel), ?_⟩
  refine List.forall_mem_cons.mpr ⟨snd_bipush (by decide +kernel : decode cX6_write 3 = .ok (.bipush 126, 2)) (by decide +kernel), ?_⟩
  refine List.forall_mem_cons.mpr ⟨snd_callS mok_114 wd_378 wd_137 (by decide +kernel : decode cX6_write 5 = .ok (.invokestatic 82, 3)), ?_⟩
  refine List.forall_mem_cons.mpr ⟨snd_if_ne (by decide +kernel : decode cX6_write 8 = .ok (.ifCond .ne 5, 3)) (by decide +kernel), ?_⟩
  refine List.forall_mem_cons.mpr ⟨snd_iconst (by decide +kernel : decode cX6_write 11 = .ok (.iconst (-1), 1)) (by decide +kernel), ?_⟩
  refine List.forall_mem_cons.mpr ⟨snd_iret (by decide +kernel : decode cX6_write 12 = .ok (.ireturn, 1)), ?_⟩
  refine List.forall_mem_cons.mpr ⟨snd_aload_n (by decide +kernel : decode cX6_write 13 = .ok (.aload_n 0, 1)) rfl, ?_⟩
  refine List.forall_mem_cons.mpr ⟨snd_get fl_6_10 (by decide +kernel : decode cX6_write 14 = .ok (.getfield 10, 3)), ?_⟩
  refine List.forall_mem_cons.mpr ⟨snd_iload_n (by decide +kernel : decode cX6_write 17 = .ok (.iload_n 1, 1)) rfl, ?_⟩
  refine List.forall_mem_cons.mpr ⟨snd_callV mok_11 wd_363 wd_366 wd_367 rfl rfl (by decide +kernel : decode cX6_write 18 = .ok (.invokevirtual 71, 3)), ?_⟩
  refine List.forall_mem_cons.mpr ⟨snd_if_eq (by decide +kernel : decode cX6_write 21 = .ok (.ifCond .eq 13, 3)) (by decide +kernel), ?_⟩
  refine List.forall_mem_cons.mpr ⟨snd_aload_n (by decide +kernel : decode cX6_write 24 = .ok (.aload_n 0, 1)) rfl, ?_⟩
  refine List.forall_mem_cons.mpr ⟨snd_get fl_6_10 (by decide +kernel : decode cX6_write 25 = .ok (.getfield 10, 3)), ?_⟩
  refine List.forall_mem_cons.mpr ⟨snd_callV mok_9 wd_379 wd_382 wd_383 rfl rfl (by decide +kernel : decode cX6_write 28 = .ok (.invokevirtual 86, 3)), ?_⟩
  refine List.forall_mem_cons.mpr ⟨snd_goto (by decide +kernel : decode cX6_write 31 = .ok (.goto 5, 3)) (by decide +kernel), ?_⟩
  refine List.forall_mem_cons.mpr ⟨snd_bipush (by decide +kernel : decode cX6_write 34 = .ok (.bipush (-3), 2)) (by decide +kernel), ?_⟩
  refine List.forall_mem_cons.mpr ⟨snd_iret (by decide +kernel : decode cX6_write 36 = .ok (.ireturn, 1)), ?_⟩
  exact fun _ h => absurd h List.not_mem_nil
theorem m_X6_write : ∀ q ∈ k_X6_write, Mono q.2 := by
  unfold k_X6_write
  refine List.forall_mem_cons.mpr ⟨mo_iload _ _, ?_⟩
  refine List.forall_mem_cons.mpr ⟨mo_push _ _, ?_⟩
  refine List.forall_mem_cons.mpr ⟨mo_push _ _, ?_⟩
  refine List.forall_mem_cons.mpr ⟨mo_call _ _ _, ?_⟩
  refine List.forall_mem_cons.mpr ⟨mo_if _ _ _, ?_⟩
  refine List.forall_mem_cons.mpr ⟨mo_push _ _, ?_⟩
  refine List.forall_mem_cons.mpr ⟨mo_iret, ?_⟩
  refine List.forall_mem_cons.mpr ⟨mo_aload _ _, ?_⟩
  refine List.forall_mem_cons.mpr ⟨mo_get _ _, ?_⟩
  refine List.forall_mem_cons.mpr ⟨mo_iload _ _, ?_⟩
  refine List.forall_mem_cons.mpr ⟨mo_call _ _ _, ?_⟩
  refine List.forall_mem_cons.mpr ⟨mo_if _ _ _, ?_⟩
  refine List.forall_mem_cons.mpr ⟨mo_aload _ _, ?_⟩
  refine List.forall_mem_cons.mpr ⟨mo_get _ _, ?_⟩
  refine List.forall_mem_cons.mpr ⟨mo_call _ _ _, ?_⟩
  refine List.forall_mem_cons.mpr ⟨mo_goto _, ?_⟩
  refine List.forall_mem_cons.mpr ⟨mo_push _ _, ?_⟩
  refine List.forall_mem_cons.mpr ⟨mo_iret, ?_⟩
  exact fun _ h => absurd h List.not_mem_nil
def k_X6_wipe : List (Nat × aI) := [
  (0, i_aload 0 1),
  (1, i_get 6 0),
  (4, i_callV 9 1 1),
  (7, i_istore 1 1),
  (8, i_aload 0 1),
  (9, i_get 6 0),
  (12, i_callV 10 1 1),
  (15, i_iload 1 1),
  (16, i_iret)]
theorem s_X6_wipe : ∀ q ∈ k_X6_wipe, Snd RX6 cX6_wipe (some .int) false q.1 q.2 := by
  unfold k_X6_wipe
  refine List.forall_mem_cons.mpr ⟨snd_aload_n (by decide +kernel : decode cX6_wipe 0 = .ok (.aload_n 0, 1)) rfl, ?_⟩
  refine List.forall_mem_cons.mpr ⟨snd_get fl_6_10 (by decide +kernel : decode cX6_wipe 1 = .ok (.getfield 10, 3)), ?_⟩
  refine List.forall_mem_cons.mpr ⟨snd_callV mok_9 wd_379 wd_382 wd_383 rfl rfl (by decide +kernel : decode cX6_wipe 4 = .ok (.invokevirtual 86, 3)), ?_⟩
  refine List.forall_mem_cons.mpr ⟨snd_istore_n (by decide +kernel : decode cX6_wipe 7 = .ok (.istore_n 1, 1)) rfl, ?_⟩
  refine List.forall_mem_cons.mpr ⟨snd_aload_n (by decide +kernel : decode cX6_wipe 8 = .ok (.aload_n 0, 1)) rfl, ?_⟩
  refine List.forall_mem_cons.mpr ⟨snd_get fl_6_10 (by decide +kernel : decode cX6_wipe 9 = .ok (.getfield 10, 3)), ?_⟩
  refine List.forall_mem_cons.mpr ⟨snd_callV mok_10 wd_373 wd_376 wd_377 rfl rfl (by decide +kernel : decode cX6_wipe 12 = .ok (.invokevirtual 79, 3)), ?_⟩
  refine List.forall_mem_cons.mpr ⟨snd_iload_n (by decide +kernel : decode cX6_wipe 15 = .ok (.iload_n 1, 1)) rfl, ?_⟩
  refine List.forall_mem_cons.mpr ⟨snd_iret (by decide +kernel : decode cX6_wipe 16 = .ok (.ireturn, 1)), ?_⟩
  exact fun _ h => absurd h List.not_mem_nil
theorem m_X6_wipe : ∀ q ∈ k_X6_wipe, Mono q.2 := by
  unfold k_X6_wipe
  refine List.forall_mem_cons.mpr ⟨mo_aload _ _, ?_⟩
  refine List.forall_mem_cons.mpr ⟨mo_get _ _, ?_⟩
  refine List.forall_mem_cons.mpr ⟨mo_call _ _ _, ?_⟩
  refine List.forall_mem_cons.mpr ⟨mo_istore _ _, ?_⟩
  refine List.forall_mem_cons.mpr ⟨mo_aload _ _, ?_⟩
  refine List.forall_mem_cons.mpr ⟨mo_get _ _, ?_⟩
  refine List.forall_mem_cons.mpr ⟨mo_call _ _ _, ?_⟩
  refine List.forall_mem_cons.mpr ⟨mo_iload _ _, ?_⟩
  refine List.forall_mem_cons.mpr ⟨mo_iret, ?_⟩
  exact fun _ h => absurd h List.not_mem_nil
def k_X6_fault : List (Nat × aI) := [
  (0, i_aload 0 1),
  (1, i_get 6 0),
  (4, i_aload 0 1),
  (5, i_get 6 2),
  (8, i_callV 12 2 1),
  (11, i_iret)]
theorem s_X6_fault : ∀ q ∈ k_X6_fault, Snd RX6 cX6_fault (some .int) false q.1 q.2 := by
  unfold k_X6_fault
  refine List.forall_mem_cons.mpr ⟨snd_aload_n (by decide +kernel : decode cX6_fault 0 = .ok (.aload_n 0, 1)) rfl, ?_⟩
  refine List.forall_mem_cons.mpr ⟨snd_get fl_6_10 (by decide +kernel : decode cX6_fault 1 = .ok (.getfield 10, 3)), ?_⟩
  refine List.forall_mem_cons.mpr ⟨snd_aload_n (by decide +kernel : decode cX6_fault 4 = .ok (.aload_n 0, 1)) rfl, ?_⟩
  refine List.forall_mem_cons.mpr ⟨snd_get fl_6_23 (by decide +kernel : decode cX6_fault 5 = .ok (.getfield 23, 3)), ?_⟩
  refine List.forall_mem_cons.mpr ⟨snd_callV mok_12 wd_368 wd_371 wd_372 rfl rfl (by decide +kernel : decode cX6_fault 8 = .ok (.invokevirtual 75, 3)), ?_⟩
  refine List.forall_mem_cons.mpr ⟨snd_iret (by decide +kernel : decode cX6_fault 11 = .ok (.ireturn, 1)), ?_⟩
  exact fun _ h => absurd h List.not_mem_nil
theorem m_X6_fault : ∀ q ∈ k_X6_fault, Mono q.2 := by
  unfold k_X6_fault
  refine List.forall_mem_cons.mpr ⟨mo_aload _ _, ?_⟩
  refine List.forall_mem_cons.mpr ⟨mo_get _ _, ?_⟩
  refine List.forall_mem_cons.mpr ⟨mo_aload _ _, ?_⟩
  refine List.forall_mem_cons.mpr ⟨mo_get _ _, ?_⟩
  refine List.forall_mem_cons.mpr ⟨mo_call _ _ _, ?_⟩
  refine List.forall_mem_cons.mpr ⟨mo_iret, ?_⟩
  exact fun _ h => absurd h List.not_mem_nil
def k_X6_lay : List (Nat × aI) := [
  (0, i_aload 0 1),
  (1, i_get 6 0),
  (4, i_aload 0 1),
  (5, i_get 6 2),
  (8, i_callV 12 2 1),
  (11, i_push (.int (-4)) 2),
  (13, i_icmp (fun x y => x = y) 16 27),
  (16, i_aload 0 1),
  (17, i_get 6 2),
  (20, i_callV 25 1 2),
  (23, i_push (.int 2) 1),
  (24, i_icmp (fun x y => x < y) 27 30),
  (27, i_push (.int (-2)) 2),
  (29, i_iret),
  (30, i_aload 0 1),
  (31, i_get 6 1),
  (34, i_aload 0 1),
  (35, i_get 6 2),
  (38, i_callV 22 2 2),
  (41, i_aload 0 1),
  (42, i_get 6 3),
  (45, i_callV 66 1 4),
  (48, i_aload 0 1),
  (49, i_get 6 4),
  (52, i_callV 66 1 4),
  (55, i_aload 0 1),
  (56, i_get 6 5),
  (59, i_callV 74 1 5),
  (62, i_aload 0 1),
  (63, i_get 6 1),
  (66, i_callV 25 1 2),
  (69, i_iret)]
theorem s_X6_lay : ∀ q ∈ k_X6_lay, Snd RX6 cX6_lay (some .int) false q.1 q.2 := by
  unfold k_X6_lay
  refine List.forall_mem_cons.mpr ⟨snd_aload_n (by decide +kernel : decode cX6_lay 0 = .ok (.aload_n 0, 1)) rfl, ?_⟩
  refine List.forall_mem_cons.mpr ⟨snd_get fl_6_10 (by decide +kernel : decode cX6_lay 1 = .ok (.getfield 10, 3)), ?_⟩
  refine List.forall_mem_cons.mpr ⟨snd_aload_n (by decide +kernel : decode cX6_lay 4 = .ok (.aload_n 0, 1)) rfl, ?_⟩
  refine List.forall_mem_cons.mpr ⟨snd_get fl_6_23 (by decide +kernel : decode cX6_lay 5 = .ok (.getfield 23, 3)), ?_⟩
  refine List.forall_mem_cons.mpr ⟨snd_callV mok_12 wd_368 wd_371 wd_372 rfl rfl (by decide +kernel : decode cX6_lay 8 = .ok (.invokevirtual 75, 3)), ?_⟩
  refine List.forall_mem_cons.mpr ⟨snd_bipush (by decide +kernel : decode cX6_lay 11 = .ok (.bipush (-4), 2)) (by decide +kernel), ?_⟩
  refine List.forall_mem_cons.mpr ⟨snd_icmp_ne (by decide +kernel : decode cX6_lay 13 = .ok (.if_icmp .ne 14, 3)) (by decide +kernel), ?_⟩
  refine List.forall_mem_cons.mpr ⟨snd_aload_n (by decide +kernel : decode cX6_lay 16 = .ok (.aload_n 0, 1)) rfl, ?_⟩
  refine List.forall_mem_cons.mpr ⟨snd_get fl_6_23 (by decide +kernel : decode cX6_lay 17 = .ok (.getfield 23, 3)), ?_⟩
  refine List.forall_mem_cons.mpr ⟨snd_callV mok_25 wd_384 wd_13 wd_14 rfl rfl (by decide +kernel : decode cX6_lay 20 = .ok (.invokevirtual 87, 3)), ?_⟩
  refine List.forall_mem_cons.mpr ⟨snd_iconst (by decide +kernel : decode cX6_lay 23 = .ok (.iconst 2, 1)) (by decide +kernel), ?_⟩
  refine List.forall_mem_cons.mpr ⟨snd_icmp_ge (by decide +kernel : decode cX6_lay 24 = .ok (.if_icmp .ge 6, 3)) (by decide +kernel), ?_⟩
  refine List.forall_mem_cons.mpr ⟨snd_bipush (by decide +kernel : decode cX6_lay 27 = .ok (.bipush (-2), 2)) (by decide +kernel), ?_⟩
  refine List.forall_mem_cons.mpr ⟨snd_iret (by decide +kernel : decode cX6_lay 29 = .ok (.ireturn, 1)), ?_⟩
  refine List.forall_mem_cons.mpr ⟨snd_aload_n (by decide +kernel : decode cX6_lay 30 = .ok (.aload_n 0, 1)) rfl, ?_⟩
  refine List.forall_mem_cons.mpr ⟨snd_get fl_6_19 (by decide +kernel : decode cX6_lay 31 = .ok (.getfield 19, 3)), ?_⟩
  refine List.forall_mem_cons.mpr ⟨snd_aload_n (by decide +kernel : decode cX6_lay 34 = .ok (.aload_n 0, 1)) rfl, ?_⟩
  refine List.forall_mem_cons.mpr ⟨snd_get fl_6_23 (by decide +kernel : decode cX6_lay 35 = .ok (.getfield 23, 3)), ?_⟩
  refine List.forall_mem_cons.mpr ⟨snd_callV mok_22 wd_385 wd_38 wd_39 rfl rfl (by decide +kernel : decode cX6_lay 38 = .ok (.invokevirtual 90, 3)), ?_⟩
  refine List.forall_mem_cons.mpr ⟨snd_aload_n (by decide +kernel : decode cX6_lay 41 = .ok (.aload_n 0, 1)) rfl, ?_⟩
  refine List.forall_mem_cons.mpr ⟨snd_get fl_6_31 (by decide +kernel : decode cX6_lay 42 = .ok (.getfield 31, 3)), ?_⟩
  refine List.forall_mem_cons.mpr ⟨snd_callV mok_66 wd_386 wd_389 wd_390 rfl rfl (by decide +kernel : decode cX6_lay 45 = .ok (.invokevirtual 94, 3)), ?_⟩
  refine List.forall_mem_cons.mpr ⟨snd_aload_n (by decide +kernel : decode cX6_lay 48 = .ok (.aload_n 0, 1)) rfl, ?_⟩
  refine List.forall_mem_cons.mpr ⟨snd_get fl_6_35 (by decide +kernel : decode cX6_lay 49 = .ok (.getfield 35, 3)), ?_⟩
  refine List.forall_mem_cons.mpr ⟨snd_callV mok_66 wd_386 wd_389 wd_390 rfl rfl (by decide +kernel : decode cX6_lay 52 = .ok (.invokevirtual 94, 3)), ?_⟩
  refine List.forall_mem_cons.mpr ⟨snd_aload_n (by decide +kernel : decode cX6_lay 55 = .ok (.aload_n 0, 1)) rfl, ?_⟩
  refine List.forall_mem_cons.mpr ⟨snd_get fl_6_41 (by decide +kernel : decode cX6_lay 56 = .ok (.getfield 41, 3)), ?_⟩
  refine List.forall_mem_cons.mpr ⟨snd_callV mok_74 wd_391 wd_394 wd_395 rfl rfl (by decide +kernel : decode cX6_lay 59 = .ok (.invokevirtual 95, 3)), ?_⟩
  refine List.forall_mem_cons.mpr ⟨snd_aload_n (by decide +kernel : decode cX6_lay 62 = .ok (.aload_n 0, 1)) rfl, ?_⟩
  refine List.forall_mem_cons.mpr ⟨snd_get fl_6_19 (by decide +kernel : decode cX6_lay 63 = .ok (.getfield 19, 3)), ?_⟩
  refine List.forall_mem_cons.mpr ⟨snd_callV mok_25 wd_384 wd_13 wd_14 rfl rfl (by decide +kernel : decode cX6_lay 66 = .ok (.invokevirtual 87, 3)), ?_⟩
  refine List.forall_mem_cons.mpr ⟨snd_iret (by decide +kernel : decode cX6_lay 69 = .ok (.ireturn, 1)), ?_⟩
  exact fun _ h => absurd h List.not_mem_nil
theorem m_X6_lay : ∀ q ∈ k_X6_lay, Mono q.2 := by
  unfold k_X6_lay
  refine List.forall_mem_cons.mpr ⟨mo_aload _ _, ?_⟩
  refine List.forall_mem_cons.mpr ⟨mo_get _ _, ?_⟩
  refine List.forall_mem_cons.mpr ⟨mo_aload _ _, ?_⟩
  refine List.forall_mem_cons.mpr ⟨mo_get _ _, ?_⟩
  refine List.forall_mem_cons.mpr ⟨mo_call _ _ _, ?_⟩
  refine List.forall_mem_cons.mpr ⟨mo_push _ _, ?_⟩
  refine List.forall_mem_cons.mpr ⟨mo_icmp _ _ _, ?_⟩
  refine List.forall_mem_cons.mpr ⟨mo_aload _ _, ?_⟩
  refine List.forall_mem_cons.mpr ⟨mo_get _ _, ?_⟩
  refine List.forall_mem_cons.mpr ⟨mo_call _ _ _, ?_⟩
  refine List.forall_mem_cons.mpr ⟨mo_push _ _, ?_⟩
  refine List.forall_mem_cons.mpr ⟨mo_icmp _ _ _, ?_⟩
  refine List.forall_mem_cons.mpr ⟨mo_push _ _, ?_⟩
  refine List.forall_mem_cons.mpr ⟨mo_iret, ?_⟩
  refine List.forall_mem_cons.mpr ⟨mo_aload _ _, ?_⟩
  refine List.forall_mem_cons.mpr ⟨mo_get _ _, ?_⟩
  refine List.forall_mem_cons.mpr ⟨mo_aload _ _, ?_⟩
  refine List.forall_mem_cons.mpr ⟨mo_get _ _, ?_⟩
  refine List.forall_mem_cons.mpr ⟨mo_call _ _ _, ?_⟩
  refine List.forall_mem_cons.mpr ⟨mo_aload _ _, ?_⟩
  refine List.forall_mem_cons.mpr ⟨mo_get _ _, ?_⟩
  refine List.forall_mem_cons.mpr ⟨mo_call _ _ _, ?_⟩
  refine List.forall_mem_cons.mpr ⟨mo_aload _ _, ?_⟩
  refine List.forall_mem_cons.mpr ⟨mo_get _ _, ?_⟩
  refine List.forall_mem_cons.mpr ⟨mo_call _ _ _, ?_⟩
  refine List.forall_mem_cons.mpr ⟨mo_aload _ _, ?_⟩
  refine List.forall_mem_cons.mpr ⟨mo_get _ _, ?_⟩
  refine List.forall_mem_cons.mpr ⟨mo_call _ _ _, ?_⟩
  refine List.forall_mem_cons.mpr ⟨mo_aload _ _, ?_⟩
  refine List.forall_mem_cons.mpr ⟨mo_get _ _, ?_⟩
  refine List.forall_mem_cons.mpr ⟨mo_call _ _ _, ?_⟩
  refine List.forall_mem_cons.mpr ⟨mo_iret, ?_⟩
  exact fun _ h => absurd h List.not_mem_nil
def k_X6_room : List (Nat × aI) := [
  (0, i_aload 0 1),
  (1, i_get 6 1),
  (4, i_iload 1 1),
  (5, i_callV 28 2 2),
  (8, i_if (fun x => x = 0) 34 11),
  (11, i_aload 0 1),
  (12, i_get 6 1),
  (15, i_iload 2 1),
  (16, i_callV 29 2 2),
  (19, i_if (fun x => x = 0) 34 22),
  (22, i_aload 0 1),
  (23, i_get 6 1),
  (26, i_iload 1 1),
  (27, i_iload 2 1),
  (28, i_callV 30 3 2),
  (31, i_goto 35),
  (34, i_push (.int (-1)) 1),
  (35, i_iret)]
theorem s_X6_room : ∀ q ∈ k_X6_room, Snd RX6 cX6_room (some .int) false q.1 q.2 := by
  unfold k_X6_room
  refine List.forall_mem_cons.mpr ⟨snd_aload_n (by decide +kernel : decode cX6_room 0 = .ok (.aload_n 0, 1)) rfl, ?_⟩
  refine List.forall_mem_cons.mpr ⟨snd_get fl_6_19 (by decide +kernel : decode cX6_room 1 = .ok (.getfield 19, 3)), ?_⟩
  refine List.forall_mem_cons.mpr ⟨snd_iload_n (by decide +kernel : decode cX6_room 4 = .ok (.iload_n 1, 1)) rfl, ?_⟩
  refine List.forall_mem_cons.mpr ⟨snd_callV mok_28 wd_396 wd_153 wd_154 rfl rfl (by decide +kernel : decode cX6_room 5 = .ok (.invokevirtual 96, 3)), ?_⟩
  refine List.forall_mem_cons.mpr ⟨snd_if_eq (by decide +kernel : decode cX6_room 8 = .ok (.ifCond .eq 26, 3)) (by decide +kernel), ?_⟩
  refine List.forall_mem_cons.mpr ⟨snd_aload_n (by decide +kernel : decode cX6_room 11 = .ok (.aload_n 0, 1)) rfl, ?_⟩
  refine List.forall_mem_cons.mpr ⟨snd_get fl_6_19 (by decide +kernel : decode cX6_room 12 = .ok (.getfield 19, 3)), ?_⟩
  refine List.forall_mem_cons.mpr ⟨snd_iload_n (by decide +kernel : decode cX6_room 15 = .ok (.iload_n 2, 1)) rfl, ?_⟩
  refine List.forall_mem_cons.mpr ⟨snd_callV mok_29 wd_397 wd_164 wd_165 rfl rfl (by decide +kernel : decode cX6_room 16 = .ok (.invokevirtual 99, 3)), ?_⟩
  refine List.forall_mem_cons.mpr ⟨snd_if_eq (by decide +kernel : decode cX6_room 19 = .ok (.ifCond .eq 15, 3)) (by decide +kernel), ?_⟩
  refine List.forall_mem_cons.mpr ⟨snd_aload_n (by decide +kernel : decode cX6_room 22 = .ok (.aload_n 0, 1)) rfl, ?_⟩
  refine List.forall_mem_cons.mpr ⟨snd_get fl_6_19 (by decide +kernel : decode cX6_room 23 = .ok (.getfield 19, 3)), ?_⟩
  refine List.forall_mem_cons.mpr ⟨snd_iload_n (by decide +kernel : decode cX6_room 26 = .ok (.iload_n 1, 1)) rfl, ?_⟩
  refine List.forall_mem_cons.mpr ⟨snd_iload_n (by decide +kernel : decode cX6_room 27 = .ok (.iload_n 2, 1)) rfl, ?_⟩
  refine List.forall_mem_cons.mpr ⟨snd_callV mok_30 wd_398 wd_58 wd_59 rfl rfl (by decide +kernel : decode cX6_room 28 = .ok (.invokevirtual 102, 3)), ?_⟩
  refine List.forall_mem_cons.mpr ⟨snd_goto (by decide +kernel : decode cX6_room 31 = .ok (.goto 4, 3)) (by decide +kernel), ?_⟩
  refine List.forall_mem_cons.mpr ⟨snd_iconst (by decide +kernel : decode cX6_room 34 = .ok (.iconst (-1), 1)) (by decide +kernel), ?_⟩
  refine List.forall_mem_cons.mpr ⟨snd_iret (by decide +kernel : decode cX6_room 35 = .ok (.ireturn, 1)), ?_⟩
  exact fun _ h => absurd h List.not_mem_nil
theorem m_X6_room : ∀ q ∈ k_X6_room, Mono q.2 := by
  unfold k_X6_room
  refine List.forall_mem_cons.mpr ⟨mo_aload _ _, ?_⟩
  refine List.forall_mem_cons.mpr ⟨mo_get _ _, ?_⟩
  refine List.forall_mem_cons.mpr ⟨mo_iload _ _, ?_⟩
  refine List.forall_mem_cons.mpr ⟨mo_call _ _ _, ?_⟩
  refine List.forall_mem_cons.mpr ⟨mo_if _ _ _, ?_⟩
  refine List.forall_mem_cons.mpr ⟨mo_aload _ _, ?_⟩
  refine List.forall_mem_cons.mpr ⟨mo_get _ _, ?_⟩
  refine List.forall_mem_cons.mpr ⟨mo_iload _ _, ?_⟩
  refine List.forall_mem_cons.mpr ⟨mo_call _ _ _, ?_⟩
  refine List.forall_mem_cons.mpr ⟨mo_if _ _ _, ?_⟩
  refine List.forall_mem_cons.mpr ⟨mo_aload _ _, ?_⟩
  refine List.forall_mem_cons.mpr ⟨mo_get _ _, ?_⟩
  refine List.forall_mem_cons.mpr ⟨mo_iload _ _, ?_⟩
  refine List.forall_mem_cons.mpr ⟨mo_iload _ _, ?_⟩
  refine List.forall_mem_cons.mpr ⟨mo_call _ _ _, ?_⟩
  refine List.forall_mem_cons.mpr ⟨mo_goto _, ?_⟩
  refine List.forall_mem_cons.mpr ⟨mo_push _ _, ?_⟩
  refine List.forall_mem_cons.mpr ⟨mo_iret, ?_⟩
  exact fun _ h => absurd h List.not_mem_nil
def k_X6_house : List (Nat × aI) := [
  (0, i_aload 0 1),
  (1, i_get 6 1),
  (4, i_iload 1 1),
  (5, i_callV 28 2 2),
  (8, i_if (fun x => x = 0) 20 11),
  (11, i_iload 2 1),
  (12, i_push (.int 0) 1),
  (13, i_push (.int 1) 1),
  (14, i_callS 114 3),
  (17, i_if (fun x => x = 0) 20 22),
  (20, i_push (.int (-1)) 1),
  (21, i_iret),
  (22, i_iload 2 1),
  (23, i_if (fun x => x = 0) 26 35),
  (26, i_aload 0 1),
  (27, i_get 6 1),
  (30, i_iload 1 1),
  (31, i_callV 33 2 2),
  (34, i_iret),
  (35, i_aload 0 1),
  (36, i_get 6 1),
  (39, i_iload 1 1),
  (40, i_callV 35 2 2),
  (43, i_if (fun x => x = 0) 50 46),
  (46, i_push (.int 1) 1),
  (47, i_goto 51),
  (50, i_push (.int 0) 1),
  (51, i_iret)]
theorem s_X6_house : ∀ q ∈ k_X6_house, Snd RX6 cX6_house (some .int) false q.1 q.2 := by
  unfold k_X6_house
  refine List.forall_mem_cons.mpr ⟨snd_aload_n (by decide +kernel : decode cX6_house 0 = .ok (.aload_n 0, 1)) rfl, ?_⟩
  refine List.forall_mem_cons.mpr ⟨snd_get fl_6_19 (by decide +kernel : decode cX6_house 1 = .ok (.getfield 19, 3)), ?_⟩
  refine List.forall_mem_cons.mpr ⟨snd_iload_n (by decide +kernel : decode cX6_house 4 = .ok (.iload_n 1, 1)) rfl, ?_⟩
  refine List.forall_mem_cons.mpr ⟨snd_callV mok_28 wd_396 wd_153 wd_154 rfl rfl (by decide +kernel : decode cX6_house 5 = .ok (.invokevirtual 96, 3)), ?_⟩
  refine List.forall_mem_cons.mpr ⟨snd_if_eq (by decide +kernel : decode cX6_house 8 = .ok (.ifCond .eq 12, 3)) (by decide +kernel), ?_⟩
  refine List.forall_mem_cons.mpr ⟨snd_iload_n (by decide +kernel : decode cX6_house 11 = .ok (.iload_n 2, 1)) rfl, ?_⟩
  refine List.forall_mem_cons.mpr ⟨snd_iconst (by decide +kernel : decode cX6_house 12 = .ok (.iconst 0, 1)) (by decide +kernel), ?_⟩
  refine List.forall_mem_cons.mpr ⟨snd_iconst (by decide +kernel : decode cX6_house 13 = .ok (.iconst 1, 1)) (by decide +kernel), ?_⟩
  refine List.forall_mem_cons.mpr ⟨snd_callS mok_114 wd_378 wd_137 (by decide +kernel : decode cX6_house 14 = .ok (.invokestatic 82, 3)), ?_⟩
  refine List.forall_mem_cons.mpr ⟨snd_if_ne (by decide +kernel : decode cX6_house 17 = .ok (.ifCond .ne 5, 3)) (by decide +kernel), ?_⟩
  refine List.forall_mem_cons.mpr ⟨snd_iconst (by decide +kernel : decode cX6_house 20 = .ok (.iconst (-1), 1)) (by decide +kernel), ?_⟩
  refine List.forall_mem_cons.mpr ⟨snd_iret (by decide +kernel : decode cX6_house 21 = .ok (.ireturn, 1)), ?_⟩
  refine List.forall_mem_cons.mpr ⟨snd_iload_n (by decide +kernel : decode cX6_house 22 = .ok (.iload_n 2, 1)) rfl, ?_⟩
  refine List.forall_mem_cons.mpr ⟨snd_if_ne (by decide +kernel : decode cX6_house 23 = .ok (.ifCond .ne 12, 3)) (by decide +kernel), ?_⟩
  refine List.forall_mem_cons.mpr ⟨snd_aload_n (by decide +kernel : decode cX6_house 26 = .ok (.aload_n 0, 1)) rfl, ?_⟩
  refine List.forall_mem_cons.mpr ⟨snd_get fl_6_19 (by decide +kernel : decode cX6_house 27 = .ok (.getfield 19, 3)), ?_⟩
  refine List.forall_mem_cons.mpr ⟨snd_iload_n (by decide +kernel : decode cX6_house 30 = .ok (.iload_n 1, 1)) rfl, ?_⟩
  refine List.forall_mem_cons.mpr ⟨snd_callV mok_33 wd_399 wd_216 wd_217 rfl rfl (by decide +kernel : decode cX6_house 31 = .ok (.invokevirtual 106, 3)), ?_⟩
  refine List.forall_mem_cons.mpr ⟨snd_iret (by decide +kernel : decode cX6_house 34 = .ok (.ireturn, 1)), ?_⟩
  refine List.forall_mem_cons.mpr ⟨snd_aload_n (by decide +kernel : decode cX6_house 35 = .ok (.aload_n 0, 1)) rfl, ?_⟩
  refine List.forall_mem_cons.mpr ⟨snd_get fl_6_19 (by decide +kernel : decode cX6_house 36 = .ok (.getfield 19, 3)), ?_⟩
  refine List.forall_mem_cons.mpr ⟨snd_iload_n (by decide +kernel : decode cX6_house 39 = .ok (.iload_n 1, 1)) rfl, ?_⟩
  refine List.forall_mem_cons.mpr ⟨snd_callV mok_35 wd_400 wd_158 wd_159 rfl rfl (by decide +kernel : decode cX6_house 40 = .ok (.invokevirtual 110, 3)), ?_⟩
  refine List.forall_mem_cons.mpr ⟨snd_if_eq (by decide +kernel : decode cX6_house 43 = .ok (.ifCond .eq 7, 3)) (by decide +kernel), ?_⟩
  refine List.forall_mem_cons.mpr ⟨snd_iconst (by decide +kernel : decode cX6_house 46 = .ok (.iconst 1, 1)) (by decide +kernel), ?_⟩
  refine List.forall_mem_cons.mpr ⟨snd_goto (by decide +kernel : decode cX6_house 47 = .ok (.goto 4, 3)) (by decide +kernel), ?_⟩
  refine List.forall_mem_cons.mpr ⟨snd_iconst (by decide +kernel : decode cX6_house 50 = .ok (.iconst 0, 1)) (by decide +kernel), ?_⟩
  refine List.forall_mem_cons.mpr ⟨snd_iret (by decide +kernel : decode cX6_house 51 = .ok (.ireturn, 1)), ?_⟩
  exact fun _ h => absurd h List.not_mem_nil
theorem m_X6_house : ∀ q ∈ k_X6_house, Mono q.2 := by
  unfold k_X6_house
  refine List.forall_mem_cons.mpr ⟨mo_aload _ _, ?_⟩
  refine List.forall_mem_cons.mpr ⟨mo_get _ _, ?_⟩
  refine List.forall_mem_cons.mpr ⟨mo_iload _ _, ?_⟩
  refine List.forall_mem_cons.mpr ⟨mo_call _ _ _, ?_⟩
  refine List.forall_mem_cons.mpr ⟨mo_if _ _ _, ?_⟩
  refine List.forall_mem_cons.mpr ⟨mo_iload _ _, ?_⟩
  refine List.forall_mem_cons.mpr ⟨mo_push _ _, ?_⟩
  refine List.forall_mem_cons.mpr ⟨mo_push _ _, ?_⟩
  refine List.forall_mem_cons.mpr ⟨mo_call _ _ _, ?_⟩
  refine List.forall_mem_cons.mpr ⟨mo_if _ _ _, ?_⟩
  refine List.forall_mem_cons.mpr ⟨mo_push _ _, ?_⟩
  refine List.forall_mem_cons.mpr ⟨mo_iret, ?_⟩
  refine List.forall_mem_cons.mpr ⟨mo_iload _ _, ?_⟩
  refine List.forall_mem_cons.mpr ⟨mo_if _ _ _, ?_⟩
  refine List.forall_mem_cons.mpr ⟨mo_aload _ _, ?_⟩
  refine List.forall_mem_cons.mpr ⟨mo_get _ _, ?_⟩
  refine List.forall_mem_cons.mpr ⟨mo_iload _ _, ?_⟩
  refine List.forall_mem_cons.mpr ⟨mo_call _ _ _, ?_⟩
  refine List.forall_mem_cons.mpr ⟨mo_iret, ?_⟩
  refine List.forall_mem_cons.mpr ⟨mo_aload _ _, ?_⟩
  refine List.forall_mem_cons.mpr ⟨mo_get _ _, ?_⟩
  refine List.forall_mem_cons.mpr ⟨mo_iload _ _, ?_⟩
  refine List.forall_mem_cons.mpr ⟨mo_call _ _ _, ?_⟩
  refine List.forall_mem_cons.mpr ⟨mo_if _ _ _, ?_⟩
  refine List.forall_mem_cons.mpr ⟨mo_push _ _, ?_⟩
  refine List.forall_mem_cons.mpr ⟨mo_goto _, ?_⟩
  refine List.forall_mem_cons.mpr ⟨mo_push _ _, ?_⟩
  refine List.forall_mem_cons.mpr ⟨mo_iret, ?_⟩
  exact fun _ h => absurd h List.not_mem_nil
def k_X6_wanted : List (Nat × aI) := [
  (0, i_aload 0 1),
  (1, i_get 6 1),
  (4, i_iload 1 1),
  (5, i_callV 29 2 2),
  (8, i_if (fun x => x = 0) 25 11),
  (11, i_aload 0 1),
  (12, i_get 6 1),
  (15, i_iload 1 1),
  (16, i_callV 38 2 2),
  (19, i_callS 112 1),
  (22, i_goto 26),
  (25, i_push (.int (-1)) 1),
  (26, i_iret)]
theorem s_X6_wanted : ∀ q ∈ k_X6_wanted, Snd RX6 cX6_wanted (some .int) false q.1 q.2 := by
  unfold k_X6_wanted
  refine List.forall_mem_cons.mpr ⟨snd_aload_n (by decide +kernel : decode cX6_wanted 0 = .ok (.aload_n 0, 1)) rfl, ?_⟩
  refine List.forall_mem_cons.mpr ⟨snd_get fl_6_19 (by decide +kernel : decode cX6_wanted 1 = .ok (.getfield 19, 3)), ?_⟩
  refine List.forall_mem_cons.mpr ⟨snd_iload_n (by decide +kernel : decode cX6_wanted 4 = .ok (.iload_n 1, 1)) rfl, ?_⟩
  refine List.forall_mem_cons.mpr ⟨snd_callV mok_29 wd_397 wd_164 wd_165 rfl rfl (by decide +kernel : decode cX6_wanted 5 = .ok (.invokevirtual 99, 3)), ?_⟩
  refine List.forall_mem_cons.mpr ⟨snd_if_eq (by decide +kernel : decode cX6_wanted 8 = .ok (.ifCond .eq 17, 3)) (by decide +kernel), ?_⟩
  refine List.forall_mem_cons.mpr ⟨snd_aload_n (by decide +kernel : decode cX6_wanted 11 = .ok (.aload_n 0, 1)) rfl, ?_⟩
  refine List.forall_mem_cons.mpr ⟨snd_get fl_6_19 (by decide +kernel : decode cX6_wanted 12 = .ok (.getfield 19, 3)), ?_⟩
  refine List.forall_mem_cons.mpr ⟨snd_iload_n (by decide +kernel : decode cX6_wanted 15 = .ok (.iload_n 1, 1)) rfl, ?_⟩
  refine List.forall_mem_cons.mpr ⟨snd_callV mok_38 wd_401 wd_198 wd_199 rfl rfl (by decide +kernel : decode cX6_wanted 16 = .ok (.invokevirtual 113, 3)), ?_⟩
  refine List.forall_mem_cons.mpr ⟨snd_callS mok_112 wd_402 wd_405 (by decide +kernel : decode cX6_wanted 19 = .ok (.invokestatic 116, 3)), ?_⟩
  refine List.forall_mem_cons.mpr ⟨snd_goto (by decide +kernel : decode cX6_wanted 22 = .ok (.goto 4, 3)) (by decide +kernel), ?_⟩
  refine List.forall_mem_cons.mpr ⟨snd_iconst (by decide +kernel : decode cX6_wanted 25 = .ok (.iconst (-1), 1)) (by decide +kernel), ?_⟩
  refine List.forall_mem_cons.mpr ⟨snd_iret (by decide +kernel : decode cX6_wanted 26 = .ok (.ireturn, 1)), ?_⟩
  exact fun _ h => absurd h List.not_mem_nil
theorem m_X6_wanted : ∀ q ∈ k_X6_wanted, Mono q.2 := by
  unfold k_X6_wanted
  refine List.forall_mem_cons.mpr ⟨mo_aload _ _, ?_⟩
  refine List.forall_mem_cons.mpr ⟨mo_get _ _, ?_⟩
  refine List.forall_mem_cons.mpr ⟨mo_iload _ _, ?_⟩
  refine List.forall_mem_cons.mpr ⟨mo_call _ _ _, ?_⟩
  refine List.forall_mem_cons.mpr ⟨mo_if _ _ _, ?_⟩
  refine List.forall_mem_cons.mpr ⟨mo_aload _ _, ?_⟩
  refine List.forall_mem_cons.mpr ⟨mo_get _ _, ?_⟩
  refine List.forall_mem_cons.mpr ⟨mo_iload _ _, ?_⟩
  refine List.forall_mem_cons.mpr ⟨mo_call _ _ _, ?_⟩
  refine List.forall_mem_cons.mpr ⟨mo_call _ _ _, ?_⟩
  refine List.forall_mem_cons.mpr ⟨mo_goto _, ?_⟩
  refine List.forall_mem_cons.mpr ⟨mo_push _ _, ?_⟩
  refine List.forall_mem_cons.mpr ⟨mo_iret, ?_⟩
  exact fun _ h => absurd h List.not_mem_nil
def k_X6_pass : List (Nat × aI) := [
  (0, i_iload 1 1),
  (1, i_push (.int 1) 1),
  (2, i_push (.int 20) 2),
  (4, i_callS 114 3),
  (7, i_if (fun x => x = 0) 10 12),
  (10, i_push (.int (-1)) 1),
  (11, i_iret),
  (12, i_aload 0 1),
  (13, i_get 6 1),
  (16, i_callV 42 1 2),
  (19, i_iload 1 1),
  (20, i_bin (fun x y => x + y)),
  (21, i_push (.int 999) 3),
  (24, i_icmp (fun x y => y < x) 27 30),
  (27, i_push (.int (-2)) 2),
  (29, i_iret),
  (30, i_aload 0 1),
  (31, i_get 6 3),
  (34, i_aload 0 1),
  (35, i_get 6 1),
  (38, i_callV 69 2 4),
  (41, i_aload 0 1),
  (42, i_get 6 1),
  (45, i_iload 1 1),
  (46, i_callV 46 2 2),
  (49, i_aload 0 1),
  (50, i_get 6 1),
  (53, i_iload 1 1),
  (54, i_callV 43 2 2),
  (57, i_aload 0 1),
  (58, i_get 6 1),
  (61, i_callV 42 1 2),
  (64, i_iret)]
theorem s_X6_pass : ∀ q ∈ k_X6_pass, Snd RX6 cX6_pass (some .int) false q.1 q.2 := by
  unfold k_X6_pass
  refine List.forall_mem_cons.mpr ⟨snd_iload_n (by decide +kernel : decode cX6_pass 0 = .ok (.iload_n 1, 1)) rfl, ?_⟩
  refine List.forall_mem_cons.mpr ⟨snd_iconst (by decide +kernel : decode cX6_pass 1 = .ok (.iconst 1, 1)) (by decide +kernel), ?_⟩
  refine List.forall_mem_cons.mpr ⟨snd_bipush (by decide +kernel : decode cX6_pass 2 = .ok (.bipush 20, 2)) (by decide +kernel), ?_⟩
  refine List.forall_mem_cons.mpr ⟨snd_callS mok_114 wd_378 wd_137 (by decide +kernel : decode cX6_pass 4 = .ok (.invokestatic 82, 3)), ?_⟩
  refine List.forall_mem_cons.mpr ⟨snd_if_ne (by decide +kernel : decode cX6_pass 7 = .ok (.ifCond .ne 5, 3)) (by decide +kernel), ?_⟩
  refine List.forall_mem_cons.mpr ⟨snd_iconst (by decide +kernel : decode cX6_pass 10 = .ok (.iconst (-1), 1)) (by decide +kernel), ?_⟩
  refine List.forall_mem_cons.mpr ⟨snd_iret (by decide +kernel : decode cX6_pass 11 = .ok (.ireturn, 1)), ?_⟩
  refine List.forall_mem_cons.mpr ⟨snd_aload_n (by decide +kernel : decode cX6_pass 12 = .ok (.aload_n 0, 1)) rfl, ?_⟩
  refine List.forall_mem_cons.mpr ⟨snd_get fl_6_19 (by decide +kernel : decode cX6_pass 13 = .ok (.getfield 19, 3)), ?_⟩
  refine List.forall_mem_cons.mpr ⟨snd_callV mok_42 wd_406 wd_409 wd_410 rfl rfl (by decide +kernel : decode cX6_pass 16 = .ok (.invokevirtual 119, 3)), ?_⟩
  refine List.forall_mem_cons.mpr ⟨snd_iload_n (by decide +kernel : decode cX6_pass 19 = .ok (.iload_n 1, 1)) rfl, ?_⟩
  refine List.forall_mem_cons.mpr ⟨snd_iadd (by decide +kernel : decode cX6_pass 20 = .ok (.iadd, 1)), ?_⟩
  refine List.forall_mem_cons.mpr ⟨snd_sipush (by decide +kernel : decode cX6_pass 21 = .ok (.sipush 999, 3)) (by decide +kernel), ?_⟩
  refine List.forall_mem_cons.mpr ⟨snd_icmp_le (by decide +kernel : decode cX6_pass 24 = .ok (.if_icmp .le 6, 3)) (by decide +kernel), ?_⟩
  refine List.forall_mem_cons.mpr ⟨snd_bipush (by decide +kernel : decode cX6_pass 27 = .ok (.bipush (-2), 2)) (by decide +kernel), ?_⟩
  refine List.forall_mem_cons.mpr ⟨snd_iret (by decide +kernel : decode cX6_pass 29 = .ok (.ireturn, 1)), ?_⟩
  refine List.forall_mem_cons.mpr ⟨snd_aload_n (by decide +kernel : decode cX6_pass 30 = .ok (.aload_n 0, 1)) rfl, ?_⟩
  refine List.forall_mem_cons.mpr ⟨snd_get fl_6_31 (by decide +kernel : decode cX6_pass 31 = .ok (.getfield 31, 3)), ?_⟩
  refine List.forall_mem_cons.mpr ⟨snd_aload_n (by decide +kernel : decode cX6_pass 34 = .ok (.aload_n 0, 1)) rfl, ?_⟩
  refine List.forall_mem_cons.mpr ⟨snd_get fl_6_19 (by decide +kernel : decode cX6_pass 35 = .ok (.getfield 19, 3)), ?_⟩
  refine List.forall_mem_cons.mpr ⟨snd_callV mok_69 wd_411 wd_414 wd_415 rfl rfl (by decide +kernel : decode cX6_pass 38 = .ok (.invokevirtual 122, 3)), ?_⟩
  refine List.forall_mem_cons.mpr ⟨snd_aload_n (by decide +kernel : decode cX6_pass 41 = .ok (.aload_n 0, 1)) rfl, ?_⟩
  refine List.forall_mem_cons.mpr ⟨snd_get fl_6_19 (by decide +kernel : decode cX6_pass 42 = .ok (.getfield 19, 3)), ?_⟩
  refine List.forall_mem_cons.mpr ⟨snd_iload_n (by decide +kernel : decode cX6_pass 45 = .ok (.iload_n 1, 1)) rfl, ?_⟩
  refine List.forall_mem_cons.mpr ⟨snd_callV mok_46 wd_416 wd_236 wd_237 rfl rfl (by decide +kernel : decode cX6_pass 46 = .ok (.invokevirtual 125, 3)), ?_⟩
  refine List.forall_mem_cons.mpr ⟨snd_aload_n (by decide +kernel : decode cX6_pass 49 = .ok (.aload_n 0, 1)) rfl, ?_⟩
  refine List.forall_mem_cons.mpr ⟨snd_get fl_6_19 (by decide +kernel : decode cX6_pass 50 = .ok (.getfield 19, 3)), ?_⟩
  refine List.forall_mem_cons.mpr ⟨snd_iload_n (by decide +kernel : decode cX6_pass 53 = .ok (.iload_n 1, 1)) rfl, ?_⟩
  refine List.forall_mem_cons.mpr ⟨snd_callV mok_43 wd_417 wd_420 wd_421 rfl rfl (by decide +kernel : decode cX6_pass 54 = .ok (.invokevirtual 128, 3)), ?_⟩
  refine List.forall_mem_cons.mpr ⟨snd_aload_n (by decide +kernel : decode cX6_pass 57 = .ok (.aload_n 0, 1)) rfl, ?_⟩
  refine List.forall_mem_cons.mpr ⟨snd_get fl_6_19 (by decide +kernel : decode cX6_pass 58 = .ok (.getfield 19, 3)), ?_⟩
  refine List.forall_mem_cons.mpr ⟨snd_callV mok_42 wd_406 wd_409 wd_410 rfl rfl (by decide +kernel : decode cX6_pass 61 = .ok (.invokevirtual 119, 3)), ?_⟩
  refine List.forall_mem_cons.mpr ⟨snd_iret (by decide +kernel : decode cX6_pass 64 = .ok (.ireturn, 1)), ?_⟩
  exact fun _ h => absurd h List.not_mem_nil
theorem m_X6_pass : ∀ q ∈ k_X6_pass, Mono q.2 := by
  unfold k_X6_pass
  refine List.forall_mem_cons.mpr ⟨mo_iload _ _, ?_⟩
  refine List.forall_mem_cons.mpr ⟨mo_push _ _, ?_⟩
  refine List.forall_mem_cons.mpr ⟨mo_push _ _, ?_⟩
  refine List.forall_mem_cons.mpr ⟨mo_call _ _ _, ?_⟩
  refine List.forall_mem_cons.mpr ⟨mo_if _ _ _, ?_⟩
  refine List.forall_mem_cons.mpr ⟨mo_push _ _, ?_⟩
  refine List.forall_mem_cons.mpr ⟨mo_iret, ?_⟩
  refine List.forall_mem_cons.mpr ⟨mo_aload _ _, ?_⟩
  refine List.forall_mem_cons.mpr ⟨mo_get _ _, ?_⟩
  refine List.forall_mem_cons.mpr ⟨mo_call _ _ _, ?_⟩
  refine List.forall_mem_cons.mpr ⟨mo_iload _ _, ?_⟩
  refine List.forall_mem_cons.mpr ⟨mo_bin _, ?_⟩
  refine List.forall_mem_cons.mpr ⟨mo_push _ _, ?_⟩
  refine List.forall_mem_cons.mpr ⟨mo_icmp _ _ _, ?_⟩
  refine List.forall_mem_cons.mpr ⟨mo_push _ _, ?_⟩
  refine List.forall_mem_cons.mpr ⟨mo_iret, ?_⟩
  refine List.forall_mem_cons.mpr ⟨mo_aload _ _, ?_⟩
  refine List.forall_mem_cons.mpr ⟨mo_get _ _, ?_⟩
  refine List.forall_mem_cons.mpr ⟨mo_aload _ _, ?_⟩
  refine List.forall_mem_cons.mpr ⟨mo_get _ _, ?_⟩
  refine List.forall_mem_cons.mpr ⟨mo_call _ _ _, ?_⟩
  refine List.forall_mem_cons.mpr ⟨mo_aload _ _, ?_⟩
  refine List.forall_mem_cons.mpr ⟨mo_get _ _, ?_⟩
  refine List.forall_mem_cons.mpr ⟨mo_iload _ _, ?_⟩
  refine List.forall_mem_cons.mpr ⟨mo_call _ _ _, ?_⟩
  refine List.forall_mem_cons.mpr ⟨mo_aload _ _, ?_⟩
  refine List.forall_mem_cons.mpr ⟨mo_get _ _, ?_⟩
  refine List.forall_mem_cons.mpr ⟨mo_iload _ _, ?_⟩
  refine List.forall_mem_cons.mpr ⟨mo_call _ _ _, ?_⟩
  refine List.forall_mem_cons.mpr ⟨mo_aload _ _, ?_⟩
  refine List.forall_mem_cons.mpr ⟨mo_get _ _, ?_⟩
  refine List.forall_mem_cons.mpr ⟨mo_call _ _ _, ?_⟩
  refine List.forall_mem_cons.mpr ⟨mo_iret, ?_⟩
  exact fun _ h => absurd h List.not_mem_nil
def k_X6_pin : List (Nat × aI) := [
  (0, i_aload 0 1),
  (1, i_get 6 1),
  (4, i_iload 1 1),
  (5, i_callV 28 2 2),
  (8, i_if (fun x => x = 0) 29 11),
  (11, i_aload 0 1),
  (12, i_get 6 1),
  (15, i_iload 2 1),
  (16, i_callV 29 2 2),
  (19, i_if (fun x => x = 0) 29 22),
  (22, i_iload 3 1),
  (23, i_callS 113 1),
  (26, i_if (fun x => x = 0) 29 31),
  (29, i_push (.int (-1)) 1),
  (30, i_iret),
  (31, i_aload 0 1),
  (32, i_get 6 1),
  (35, i_iload 1 1),
  (36, i_iload 2 1),
  (37, i_callV 30 3 2),
  (40, i_istore 4 2),
  (42, i_iload 4 2),
  (44, i_iload 3 1),
  (45, i_icmp (fun x y => x = y) 48 51),
  (48, i_push (.int (-2)) 2),
  (50, i_iret),
  (51, i_aload 0 1),
  (52, i_get 6 3),
  (55, i_aload 0 1),
  (56, i_get 6 1),
  (59, i_callV 69 2 4),
  (62, i_aload 0 1),
  (63, i_get 6 1),
  (66, i_iload 1 1),
  (67, i_iload 2 1),
  (68, i_iload 3 1),
  (69, i_callV 31 4 2),
  (72, i_iload 4 2),
  (74, i_iret)]
theorem s_X6_pin : ∀ q ∈ k_X6_pin, Snd RX6 cX6_pin (some .int) false q.1 q.2 := by
  unfold k_X6_pin
  refine List.forall_mem_cons.mpr ⟨snd_aload_n (by decide +kernel : decode cX6_pin 0 = .ok (.aload_n 0, 1)) rfl, ?_⟩
  refine List.forall_mem_cons.mpr ⟨snd_get fl_6_19 (by decide +kernel : decode cX6_pin 1 = .ok (.getfield 19, 3)), ?_⟩
  refine List.forall_mem_cons.mpr ⟨snd_iload_n (by decide +kernel : decode cX6_pin 4 = .ok (.iload_n 1, 1)) rfl, ?_⟩
  refine List.forall_mem_cons.mpr ⟨snd_callV mok_28 wd_396 wd_153 wd_154 rfl rfl (by decide +kernel : decode cX6_pin 5 = .ok (.invokevirtual 96, 3)), ?_⟩
  refine List.forall_mem_cons.mpr ⟨snd_if_eq (by decide +kernel : decode cX6_pin 8 = .ok (.ifCond .eq 21, 3)) (by decide +kernel), ?_⟩
  refine List.forall_mem_cons.mpr ⟨snd_aload_n (by decide +kernel : decode cX6_pin 11 = .ok (.aload_n 0, 1)) rfl, ?_⟩
  refine List.forall_mem_cons.mpr ⟨snd_get fl_6_19 (by decide +kernel : decode cX6_pin 12 = .ok (.getfield 19, 3)), ?_⟩
  refine List.forall_mem_cons.mpr ⟨snd_iload_n (by decide +kernel : decode cX6_pin 15 = .ok (.iload_n 2, 1)) rfl, ?_⟩
  refine List.forall_mem_cons.mpr ⟨snd_callV mok_29 wd_397 wd_164 wd_165 rfl rfl (by decide +kernel : decode cX6_pin 16 = .ok (.invokevirtual 99, 3)), ?_⟩
  refine List.forall_mem_cons.mpr ⟨snd_if_eq (by decide +kernel : decode cX6_pin 19 = .ok (.ifCond .eq 10, 3)) (by decide +kernel), ?_⟩
  refine List.forall_mem_cons.mpr ⟨snd_iload_n (by decide +kernel : decode cX6_pin 22 = .ok (.iload_n 3, 1)) rfl, ?_⟩
  refine List.forall_mem_cons.mpr ⟨snd_callS mok_113 wd_422 wd_168 (by decide +kernel : decode cX6_pin 23 = .ok (.invokestatic 131, 3)), ?_⟩
  refine List.forall_mem_cons.mpr ⟨snd_if_ne (by decide +kernel : decode cX6_pin 26 = .ok (.ifCond .ne 5, 3)) (by decide +kernel), ?_⟩
  refine List.forall_mem_cons.mpr ⟨snd_iconst (by decide +kernel : decode cX6_pin 29 = .ok (.iconst (-1), 1)) (by decide +kernel), ?_⟩
  refine List.forall_mem_cons.mpr ⟨snd_iret (by decide +kernel : decode cX6_pin 30 = .ok (.ireturn, 1)), ?_⟩
  refine List.forall_mem_cons.mpr ⟨snd_aload_n (by decide +kernel : decode cX6_pin 31 = .ok (.aload_n 0, 1)) rfl, ?_⟩
  refine List.forall_mem_cons.mpr ⟨snd_get fl_6_19 (by decide +kernel : decode cX6_pin 32 = .ok (.getfield 19, 3)), ?_⟩
  refine List.forall_mem_cons.mpr ⟨snd_iload_n (by decide +kernel : decode cX6_pin 35 = .ok (.iload_n 1, 1)) rfl, ?_⟩
  refine List.forall_mem_cons.mpr ⟨snd_iload_n (by decide +kernel : decode cX6_pin 36 = .ok (.iload_n 2, 1)) rfl, ?_⟩
  refine List.forall_mem_cons.mpr ⟨snd_callV mok_30 wd_398 wd_58 wd_59 rfl rfl (by decide +kernel : decode cX6_pin 37 = .ok (.invokevirtual 102, 3)), ?_⟩
  refine List.forall_mem_cons.mpr ⟨snd_istore (by decide +kernel : decode cX6_pin 40 = .ok (.istore 4, 2)), ?_⟩
  refine List.forall_mem_cons.mpr ⟨snd_iload (by decide +kernel : decode cX6_pin 42 = .ok (.iload 4, 2)), ?_⟩
  refine List.forall_mem_cons.mpr ⟨snd_iload_n (by decide +kernel : decode cX6_pin 44 = .ok (.iload_n 3, 1)) rfl, ?_⟩
  refine List.forall_mem_cons.mpr ⟨snd_icmp_ne (by decide +kernel : decode cX6_pin 45 = .ok (.if_icmp .ne 6, 3)) (by decide +kernel), ?_⟩
  refine List.forall_mem_cons.mpr ⟨snd_bipush (by decide +kernel : decode cX6_pin 48 = .ok (.bipush (-2), 2)) (by decide +kernel), ?_⟩
  refine List.forall_mem_cons.mpr ⟨snd_iret (by decide +kernel : decode cX6_pin 50 = .ok (.ireturn, 1)), ?_⟩
  refine List.forall_mem_cons.mpr ⟨snd_aload_n (by decide +kernel : decode cX6_pin 51 = .ok (.aload_n 0, 1)) rfl, ?_⟩
  refine List.forall_mem_cons.mpr ⟨snd_get fl_6_31 (by decide +kernel : decode cX6_pin 52 = .ok (.getfield 31, 3)), ?_⟩
  refine List.forall_mem_cons.mpr ⟨snd_aload_n (by decide +kernel : decode cX6_pin 55 = .ok (.aload_n 0, 1)) rfl, ?_⟩
  refine List.forall_mem_cons.mpr ⟨snd_get fl_6_19 (by decide +kernel : decode cX6_pin 56 = .ok (.getfield 19, 3)), ?_⟩
  refine List.forall_mem_cons.mpr ⟨snd_callV mok_69 wd_411 wd_414 wd_415 rfl rfl (by decide +kernel : decode cX6_pin 59 = .ok (.invokevirtual 122, 3)), ?_⟩
  refine List.forall_mem_cons.mpr ⟨snd_aload_n (by decide +kernel : decode cX6_pin 62 = .ok (.aload_n 0, 1)) rfl, ?_⟩
  refine List.forall_mem_cons.mpr ⟨snd_get fl_6_19 (by decide +kernel : decode cX6_pin 63 = .ok (.getfield 19, 3)), ?_⟩
  refine List.forall_mem_cons.mpr ⟨snd_iload_n (by decide +kernel : decode cX6_pin 66 = .ok (.iload_n 1, 1)) rfl, ?_⟩
  refine List.forall_mem_cons.mpr ⟨snd_iload_n (by decide +kernel : decode cX6_pin 67 = .ok (.iload_n 2, 1)) rfl, ?_⟩
  refine List.forall_mem_cons.mpr ⟨snd_iload_n (by decide +kernel : decode cX6_pin 68 = .ok (.iload_n 3, 1)) rfl, ?_⟩
  refine List.forall_mem_cons.mpr ⟨snd_callV mok_31 wd_423 wd_84 wd_85 rfl rfl (by decide +kernel : decode cX6_pin 69 = .ok (.invokevirtual 134, 3)), ?_⟩
  refine List.forall_mem_cons.mpr ⟨snd_iload (by decide +kernel : decode cX6_pin 72 = .ok (.iload 4, 2)), ?_⟩
  refine List.forall_mem_cons.mpr ⟨snd_iret (by decide +kernel : decode cX6_pin 74 = .ok (.ireturn, 1)), ?_⟩
  exact fun _ h => absurd h List.not_mem_nil
theorem m_X6_pin : ∀ q ∈ k_X6_pin, Mono q.2 := by
  unfold k_X6_pin
  refine List.forall_mem_cons.mpr ⟨mo_aload _ _, ?_⟩
  refine List.forall_mem_cons.mpr ⟨mo_get _ _, ?_⟩
  refine List.forall_mem_cons.mpr ⟨mo_iload _ _, ?_⟩
  refine List.forall_mem_cons.mpr ⟨mo_call _ _ _, ?_⟩
  refine List.forall_mem_cons.mpr ⟨mo_if _ _ _, ?_⟩
  refine List.forall_mem_cons.mpr ⟨mo_aload _ _, ?_⟩
  refine List.forall_mem_cons.mpr ⟨mo_get _ _, ?_⟩
  refine List.forall_mem_cons.mpr ⟨mo_iload _ _, ?_⟩
  refine List.forall_mem_cons.mpr ⟨mo_call _ _ _, ?_⟩
  refine List.forall_mem_cons.mpr ⟨mo_if _ _ _, ?_⟩
  refine List.forall_mem_cons.mpr ⟨mo_iload _ _, ?_⟩
  refine List.forall_mem_cons.mpr ⟨mo_call _ _ _, ?_⟩
  refine List.forall_mem_cons.mpr ⟨mo_if _ _ _, ?_⟩
  refine List.forall_mem_cons.mpr ⟨mo_push _ _, ?_⟩
  refine List.forall_mem_cons.mpr ⟨mo_iret, ?_⟩
  refine List.forall_mem_cons.mpr ⟨mo_aload _ _, ?_⟩
  refine List.forall_mem_cons.mpr ⟨mo_get _ _, ?_⟩
  refine List.forall_mem_cons.mpr ⟨mo_iload _ _, ?_⟩
  refine List.forall_mem_cons.mpr ⟨mo_iload _ _, ?_⟩
  refine List.forall_mem_cons.mpr ⟨mo_call _ _ _, ?_⟩
  refine List.forall_mem_cons.mpr ⟨mo_istore _ _, ?_⟩
  refine List.forall_mem_cons.mpr ⟨mo_iload _ _, ?_⟩
  refine List.forall_mem_cons.mpr ⟨mo_iload _ _, ?_⟩
  refine List.forall_mem_cons.mpr ⟨mo_icmp _ _ _, ?_⟩
  refine List.forall_mem_cons.mpr ⟨mo_push _ _, ?_⟩
  refine List.forall_mem_cons.mpr ⟨mo_iret, ?_⟩
  refine List.forall_mem_cons.mpr ⟨mo_aload _ _, ?_⟩
  refine List.forall_mem_cons.mpr ⟨mo_get _ _, ?_⟩
  refine List.forall_mem_cons.mpr ⟨mo_aload _ _, ?_⟩
  refine List.forall_mem_cons.mpr ⟨mo_get _ _, ?_⟩
  refine List.forall_mem_cons.mpr ⟨mo_call _ _ _, ?_⟩
  refine List.forall_mem_cons.mpr ⟨mo_aload _ _, ?_⟩
  refine List.forall_mem_cons.mpr ⟨mo_get _ _, ?_⟩
  refine List.forall_mem_cons.mpr ⟨mo_iload _ _, ?_⟩
  refine List.forall_mem_cons.mpr ⟨mo_iload _ _, ?_⟩
  refine List.forall_mem_cons.mpr ⟨mo_iload _ _, ?_⟩
  refine List.forall_mem_cons.mpr ⟨mo_call _ _ _, ?_⟩
  refine List.forall_mem_cons.mpr ⟨mo_iload _ _, ?_⟩
  refine List.forall_mem_cons.mpr ⟨mo_iret, ?_⟩
  exact fun _ h => absurd h List.not_mem_nil
def k_X6_sneeze : List (Nat × aI) := [
  (0, i_aload 0 1),
  (1, i_get 6 1),
  (4, i_iload 1 1),
  (5, i_callV 28 2 2),
  (8, i_if (fun x => x = 0) 11 13),
  (11, i_push (.int (-1)) 1),
  (12, i_iret),
  (13, i_aload 0 1),
  (14, i_get 6 3),
  (17, i_aload 0 1),
  (18, i_get 6 1),
  (21, i_callV 69 2 4),
  (24, i_aload 0 1),
  (25, i_get 6 1),
  (28, i_iload 1 1),
  (29, i_callV 44 2 2),
  (32, i_aload 0 1),
  (33, i_get 6 1),
  (36, i_iload 1 1),
  (37, i_push (.int 0) 1),
  (38, i_callV 30 3 2),
  (41, i_iret)]
theorem s_X6_sneeze : ∀ q ∈ k_X6_sneeze, Snd RX6 cX6_sneeze (some .int) false q.1 q.2 := by
  unfold k_X6_sneeze
  refine List.forall_mem_cons.mpr ⟨snd_aload_n (by decide +kernel : decode cX6_sneeze 0 = .ok (.aload_n 0, 1)) rfl, ?_⟩
  refine List.forall_mem_cons.mpr ⟨snd_get fl_6_19 (by decide +kernel : decode cX6_sneeze 1 = .ok (.getfield 19, 3)), ?_⟩
  refine List.forall_mem_cons.mpr ⟨snd_iload_n (by decide +kernel : decode cX6_sneeze 4 = .ok (.iload_n 1, 1)) rfl, ?_⟩
  refine List.forall_mem_cons.mpr ⟨snd_callV mok_28 wd_396 wd_153 wd_154 rfl rfl (by decide +kernel : decode cX6_sneeze 5 = .ok (.invokevirtual 96, 3)), ?_⟩
  refine List.forall_mem_cons.mpr ⟨snd_if_ne (by decide +kernel : decode cX6_sneeze 8 = .ok (.ifCond .ne 5, 3)) (by decide +kernel), ?_⟩
  refine List.forall_mem_cons.mpr ⟨snd_iconst (by decide +kernel : decode cX6_sneeze 11 = .ok (.iconst (-1), 1)) (by decide +kernel), ?_⟩
  refine List.forall_mem_cons.mpr ⟨snd_iret (by decide +kernel : decode cX6_sneeze 12 = .ok (.ireturn, 1)), ?_⟩
  refine List.forall_mem_cons.mpr ⟨snd_aload_n (by decide +kernel : decode cX6_sneeze 13 = .ok (.aload_n 0, 1)) rfl, ?_⟩
  refine List.forall_mem_cons.mpr ⟨snd_get fl_6_31 (by decide +kernel : decode cX6_sneeze 14 = .ok (.getfield 31, 3)), ?_⟩
  refine List.forall_mem_cons.mpr ⟨snd_aload_n (by decide +kernel : decode cX6_sneeze 17 = .ok (.aload_n 0, 1)) rfl, ?_⟩
  refine List.forall_mem_cons.mpr ⟨snd_get fl_6_19 (by decide +kernel : decode cX6_sneeze 18 = .ok (.getfield 19, 3)), ?_⟩
  refine List.forall_mem_cons.mpr ⟨snd_callV mok_69 wd_411 wd_414 wd_415 rfl rfl (by decide +kernel : decode cX6_sneeze 21 = .ok (.invokevirtual 122, 3)), ?_⟩
  refine List.forall_mem_cons.mpr ⟨snd_aload_n (by decide +kernel : decode cX6_sneeze 24 = .ok (.aload_n 0, 1)) rfl, ?_⟩
  refine List.forall_mem_cons.mpr ⟨snd_get fl_6_19 (by decide +kernel : decode cX6_sneeze 25 = .ok (.getfield 19, 3)), ?_⟩
  refine List.forall_mem_cons.mpr ⟨snd_iload_n (by decide +kernel : decode cX6_sneeze 28 = .ok (.iload_n 1, 1)) rfl, ?_⟩
  refine List.forall_mem_cons.mpr ⟨snd_callV mok_44 wd_424 wd_48 wd_49 rfl rfl (by decide +kernel : decode cX6_sneeze 29 = .ok (.invokevirtual 138, 3)), ?_⟩
  refine List.forall_mem_cons.mpr ⟨snd_aload_n (by decide +kernel : decode cX6_sneeze 32 = .ok (.aload_n 0, 1)) rfl, ?_⟩
  refine List.forall_mem_cons.mpr ⟨snd_get fl_6_19 (by decide +kernel : decode cX6_sneeze 33 = .ok (.getfield 19, 3)), ?_⟩
  refine List.forall_mem_cons.mpr ⟨snd_iload_n (by decide +kernel : decode cX6_sneeze 36 = .ok (.iload_n 1, 1)) rfl, ?_⟩
  refine List.forall_mem_cons.mpr ⟨snd_iconst (by decide +kernel : decode cX6_sneeze 37 = .ok (.iconst 0, 1)) (by decide +kernel), ?_⟩
  refine List.forall_mem_cons.mpr ⟨snd_callV mok_30 wd_398 wd_58 wd_59 rfl rfl (by decide +kernel : decode cX6_sneeze 38 = .ok (.invokevirtual 102, 3)), ?_⟩
  refine List.forall_mem_cons.mpr ⟨snd_iret (by decide +kernel : decode cX6_sneeze 41 = .ok (.ireturn, 1)), ?_⟩
  exact fun _ h => absurd h List.not_mem_nil
theorem m_X6_sneeze : ∀ q ∈ k_X6_sneeze, Mono q.2 := by
  unfold k_X6_sneeze
  refine List.forall_mem_cons.mpr ⟨mo_aload _ _, ?_⟩
  refine List.forall_mem_cons.mpr ⟨mo_get _ _, ?_⟩
  refine List.forall_mem_cons.mpr ⟨mo_iload _ _, ?_⟩
  refine List.forall_mem_cons.mpr ⟨mo_call _ _ _, ?_⟩
  refine List.forall_mem_cons.mpr ⟨mo_if _ _ _, ?_⟩
  refine List.forall_mem_cons.mpr ⟨mo_push _ _, ?_⟩
  refine List.forall_mem_cons.mpr ⟨mo_iret, ?_⟩
  refine List.forall_mem_cons.mpr ⟨mo_aload _ _, ?_⟩
  refine List.forall_mem_cons.mpr ⟨mo_get _ _, ?_⟩
  refine List.forall_mem_cons.mpr ⟨mo_aload _ _, ?_⟩
  refine List.forall_mem_cons.mpr ⟨mo_get _ _, ?_⟩
  refine List.forall_mem_cons.mpr ⟨mo_call _ _ _, ?_⟩
  refine List.forall_mem_cons.mpr ⟨mo_aload _ _, ?_⟩
  refine List.forall_mem_cons.mpr ⟨mo_get _ _, ?_⟩
  refine List.forall_mem_cons.mpr ⟨mo_iload _ _, ?_⟩
  refine List.forall_mem_cons.mpr ⟨mo_call _ _ _, ?_⟩
  refine List.forall_mem_cons.mpr ⟨mo_aload _ _, ?_⟩
  refine List.forall_mem_cons.mpr ⟨mo_get _ _, ?_⟩
  refine List.forall_mem_cons.mpr ⟨mo_iload _ _, ?_⟩
  refine List.forall_mem_cons.mpr ⟨mo_push _ _, ?_⟩
  refine List.forall_mem_cons.mpr ⟨mo_call _ _ _, ?_⟩
  refine List.forall_mem_cons.mpr ⟨mo_iret, ?_⟩
  exact fun _ h => absurd h List.not_mem_nil
def k_X6_mouse : List (Nat × aI) := [
  (0, i_aload 0 1),
  (1, i_iload 1 1),
  (2, i_push (.int 1) 1),
  (3, i_callV 111 3 6),
  (6, i_iret)]
theorem s_X6_mouse : ∀ q ∈ k_X6_mouse, Snd RX6 cX6_mouse (some .int) false q.1 q.2 := by
  unfold k_X6_mouse
  refine List.forall_mem_cons.mpr ⟨snd_aload_n (by decide +kernel : decode cX6_mouse 0 = .ok (.aload_n 0, 1)) rfl, ?_⟩
  refine List.forall_mem_cons.mpr ⟨snd_iload_n (by decide +kernel : decode cX6_mouse 1 = .ok (.iload_n 1, 1)) rfl, ?_⟩
  refine List.forall_mem_cons.mpr ⟨snd_iconst (by decide +kernel : decode cX6_mouse 2 = .ok (.iconst 1, 1)) (by decide +kernel), ?_⟩
  refine List.forall_mem_cons.mpr ⟨snd_callV mok_111 wd_425 wd_428 wd_429 rfl rfl (by decide +kernel : decode cX6_mouse 3 = .ok (.invokevirtual 141, 3)), ?_⟩
  refine List.forall_mem_cons.mpr ⟨snd_iret (by decide +kernel : decode cX6_mouse 6 = .ok (.ireturn, 1)), ?_⟩
  exact fun _ h => absurd h List.not_mem_nil
theorem m_X6_mouse : ∀ q ∈ k_X6_mouse, Mono q.2 := by
  unfold k_X6_mouse
  refine List.forall_mem_cons.mpr ⟨mo_aload _ _, ?_⟩
  refine List.forall_mem_cons.mpr ⟨mo_iload _ _, ?_⟩
  refine List.forall_mem_cons.mpr ⟨mo_push _ _, ?_⟩
  refine List.forall_mem_cons.mpr ⟨mo_call _ _ _, ?_⟩
  refine List.forall_mem_cons.mpr ⟨mo_iret, ?_⟩
  exact fun _ h => absurd h List.not_mem_nil
def k_X6_chase : List (Nat × aI) := [
  (0, i_aload 0 1),
  (1, i_iload 1 1),
  (2, i_push (.int 0) 1),
  (3, i_callV 111 3 6),
  (6, i_iret)]
theorem s_X6_chase : ∀ q ∈ k_X6_chase, Snd RX6 cX6_chase (some .int) false q.1 q.2 := by
  unfold k_X6_chase
  refine List.forall_mem_cons.mpr ⟨snd_aload_n (by decide +kernel : decode cX6_chase 0 = .ok (.aload_n 0, 1)) rfl, ?_⟩
  refine List.forall_mem_cons.mpr ⟨snd_iload_n (by decide +kernel : decode cX6_chase 1 = .ok (.iload_n 1, 1)) rfl, ?_⟩
  refine List.forall_mem_cons.mpr ⟨snd_iconst (by decide +kernel : decode cX6_chase 2 = .ok (.iconst 0, 1)) (by decide +kernel), ?_⟩
  refine List.forall_mem_cons.mpr ⟨snd_callV mok_111 wd_425 wd_428 wd_429 rfl rfl (by decide +kernel : decode cX6_chase 3 = .ok (.invokevirtual 141, 3)), ?_⟩
  refine List.forall_mem_cons.mpr ⟨snd_iret (by decide +kernel : decode cX6_chase 6 = .ok (.ireturn, 1)), ?_⟩
  exact fun _ h => absurd h List.not_mem_nil
theorem m_X6_chase : ∀ q ∈ k_X6_chase, Mono q.2 := by
  unfold k_X6_chase
  refine List.forall_mem_cons.mpr ⟨mo_aload _ _, ?_⟩
  refine List.forall_mem_cons.mpr ⟨mo_iload _ _, ?_⟩
  refine List.forall_mem_cons.mpr ⟨mo_push _ _, ?_⟩
  refine List.forall_mem_cons.mpr ⟨mo_call _ _ _, ?_⟩
  refine List.forall_mem_cons.mpr ⟨mo_iret, ?_⟩
  exact fun _ h => absurd h List.not_mem_nil
def k_X6_want : List (Nat × aI) := [
  (0, i_aload 0 1),
  (1, i_get 6 1),
  (4, i_iload 1 1),
  (5, i_callV 29 2 2),
  (8, i_if (fun x => x = 0) 21 11),
  (11, i_iload 2 1),
  (12, i_push (.int 0) 1),
  (13, i_push (.int 10) 2),
  (15, i_callS 114 3),
  (18, i_if (fun x => x = 0) 21 23),
  (21, i_push (.int (-1)) 1),
  (22, i_iret),
  (23, i_aload 0 1),
  (24, i_get 6 3),
  (27, i_aload 0 1),
  (28, i_get 6 1),
  (31, i_callV 69 2 4),
  (34, i_aload 0 1),
  (35, i_get 6 1),
  (38, i_iload 1 1),
  (39, i_callV 38 2 2),
  (42, i_istore 3 1),
  (43, i_aload 0 1),
  (44, i_get 6 1),
  (47, i_iload 1 1),
  (48, i_iload 2 1),
  (49, i_callV 39 3 2),
  (52, i_iload 3 1),
  (53, i_callS 112 1),
  (56, i_iret)]
theorem s_X6_want : ∀ q ∈ k_X6_want, Snd RX6 cX6_want (some .int) false q.1 q.2 := by
  unfold k_X6_want
  refine List.forall_mem_cons.mpr ⟨snd_aload_n (by decide +kernel : decode cX6_want 0 = .ok (.aload_n 0, 1)) rfl, ?_⟩
  refine List.forall_mem_cons.mpr ⟨snd_get fl_6_19 (by decide +kernel : decode cX6_want 1 = .ok (.getfield 19, 3)), ?_⟩
  refine List.forall_mem_cons.mpr ⟨snd_iload_n (by decide +kernel : decode cX6_want 4 = .ok (.iload_n 1, 1)) rfl, ?_⟩
  refine List.forall_mem_cons.mpr ⟨snd_callV mok_29 wd_397 wd_164 wd_165 rfl rfl (by decide +kernel : decode cX6_want 5 = .ok (.invokevirtual 99, 3)), ?_⟩
  refine List.forall_mem_cons.mpr ⟨snd_if_eq (by decide +kernel : decode cX6_want 8 = .ok (.ifCond .eq 13, 3)) (by decide +kernel), ?_⟩
  refine List.forall_mem_cons.mpr ⟨snd_iload_n (by decide +kernel : decode cX6_want 11 = .ok (.iload_n 2, 1)) rfl, ?_⟩
  refine List.forall_mem_cons.mpr ⟨snd_iconst (by decide +kernel : decode cX6_want 12 = .ok (.iconst 0, 1)) (by decide +kernel), ?_⟩
  refine List.forall_mem_cons.mpr ⟨snd_bipush (by decide +kernel : decode cX6_want 13 = .ok (.bipush 10, 2)) (by decide +kernel), ?_⟩
  refine List.forall_mem_cons.mpr ⟨snd_callS mok_114 wd_378 wd_137 (by decide +kernel : decode cX6_want 15 = .ok (.invokestatic 82, 3)), ?_⟩
  refine List.forall_mem_cons.mpr ⟨snd_if_ne (by decide +kernel : decode cX6_want 18 = .ok (.ifCond .ne 5, 3)) (by decide +kernel), ?_⟩
  refine List.forall_mem_cons.mpr ⟨snd_iconst (by decide +kernel : decode cX6_want 21 = .ok (.iconst (-1), 1)) (by decide +kernel), ?_⟩
  refine List.forall_mem_cons.mpr ⟨snd_iret (by decide +kernel : decode cX6_want 22 = .ok (.ireturn, 1)), ?_⟩
  refine List.forall_mem_cons.mpr ⟨snd_aload_n (by decide +kernel : decode cX6_want 23 = .ok (.aload_n 0, 1)) rfl, ?_⟩
  refine List.forall_mem_cons.mpr ⟨snd_get fl_6_31 (by decide +kernel : decode cX6_want 24 = .ok (.getfield 31, 3)), ?_⟩
  refine List.forall_mem_cons.mpr ⟨snd_aload_n (by decide +kernel : decode cX6_want 27 = .ok (.aload_n 0, 1)) rfl, ?_⟩
  refine List.forall_mem_cons.mpr ⟨snd_get fl_6_19 (by decide +kernel : decode cX6_want 28 = .ok (.getfield 19, 3)), ?_⟩
  refine List.forall_mem_cons.mpr ⟨snd_callV mok_69 wd_411 wd_414 wd_415 rfl rfl (by decide +kernel : decode cX6_want 31 = .ok (.invokevirtual 122, 3)), ?_⟩
  refine List.forall_mem_cons.mpr ⟨snd_aload_n (by decide +kernel : decode cX6_want 34 = .ok (.aload_n 0, 1)) rfl, ?_⟩
  refine List.forall_mem_cons.mpr ⟨snd_get fl_6_19 (by decide +kernel : decode cX6_want 35 = .ok (.getfield 19, 3)), ?_⟩
  refine List.forall_mem_cons.mpr ⟨snd_iload_n (by decide +kernel : decode cX6_want 38 = .ok (.iload_n 1, 1)) rfl, ?_⟩
  refine List.forall_mem_cons.mpr ⟨snd_callV mok_38 wd_401 wd_198 wd_199 rfl rfl (by decide +kernel : decode cX6_want 39 = .ok (.invokevirtual 113, 3)), ?_⟩
  refine List.forall_mem_cons.mpr ⟨snd_istore_n (by decide +kernel : decode cX6_want 42 = .ok (.istore_n 3, 1)) rfl, ?_⟩
  refine List.forall_mem_cons.mpr ⟨snd_aload_n (by decide +kernel : decode cX6_want 43 = .ok (.aload_n 0, 1)) rfl, ?_⟩
  refine List.forall_mem_cons.mpr ⟨snd_get fl_6_19 (by decide +kernel : decode cX6_want 44 = .ok (.getfield 19, 3)), ?_⟩
  refine List.forall_mem_cons.mpr ⟨snd_iload_n (by decide +kernel : decode cX6_want 47 = .ok (.iload_n 1, 1)) rfl, ?_⟩
  refine List.forall_mem_cons.mpr ⟨snd_iload_n (by decide +kernel : decode cX6_want 48 = .ok (.iload_n 2, 1)) rfl, ?_⟩
  refine List.forall_mem_cons.mpr ⟨snd_callV mok_39 wd_430 wd_172 wd_173 rfl rfl (by decide +kernel : decode cX6_want 49 = .ok (.invokevirtual 145, 3)), ?_⟩
  refine List.forall_mem_cons.mpr ⟨snd_iload_n (by decide +kernel : decode cX6_want 52 = .ok (.iload_n 3, 1)) rfl, ?_⟩
  refine List.forall_mem_cons.mpr ⟨snd_callS mok_112 wd_402 wd_405 (by decide +kernel : decode cX6_want 53 = .ok (.invokestatic 116, 3)), ?_⟩
  refine List.forall_mem_cons.mpr ⟨snd_iret (by decide +kernel : decode cX6_want 56 = .ok (.ireturn, 1)), ?_⟩
  exact fun _ h => absurd h List.not_mem_nil
theorem m_X6_want : ∀ q ∈ k_X6_want, Mono q.2 := by
  unfold k_X6_want
  refine List.forall_mem_cons.mpr ⟨mo_aload _ _, ?_⟩
  refine List.forall_mem_cons.mpr ⟨mo_get _ _, ?_⟩
  refine List.forall_mem_cons.mpr ⟨mo_iload _ _, ?_⟩
  refine List.forall_mem_cons.mpr ⟨mo_call _ _ _, ?_⟩
  refine List.forall_mem_cons.mpr ⟨mo_if _ _ _, ?_⟩
  refine List.forall_mem_cons.mpr ⟨mo_iload _ _, ?_⟩
  refine List.forall_mem_cons.mpr ⟨mo_push _ _, ?_⟩
  refine List.forall_mem_cons.mpr ⟨mo_push _ _, ?_⟩
  refine List.forall_mem_cons.mpr ⟨mo_call _ _ _, ?_⟩
  refine List.forall_mem_cons.mpr ⟨mo_if _ _ _, ?_⟩
  refine List.forall_mem_cons.mpr ⟨mo_push _ _, ?_⟩
  refine List.forall_mem_cons.mpr ⟨mo_iret, ?_⟩
  refine List.forall_mem_cons.mpr ⟨mo_aload _ _, ?_⟩
  refine List.forall_mem_cons.mpr ⟨mo_get _ _, ?_⟩
  refine List.forall_mem_cons.mpr ⟨mo_aload _ _, ?_⟩
  refine List.forall_mem_cons.mpr ⟨mo_get _ _, ?_⟩
  refine List.forall_mem_cons.mpr ⟨mo_call _ _ _, ?_⟩
  refine List.forall_mem_cons.mpr ⟨mo_aload _ _, ?_⟩
  refine List.forall_mem_cons.mpr ⟨mo_get _ _, ?_⟩
  refine List.forall_mem_cons.mpr ⟨mo_iload _ _, ?_⟩
  refine List.forall_mem_cons.mpr ⟨mo_call _ _ _, ?_⟩
  refine List.forall_mem_cons.mpr ⟨mo_istore _ _, ?_⟩
  refine List.forall_mem_cons.mpr ⟨mo_aload _ _, ?_⟩
  refine List.forall_mem_cons.mpr ⟨mo_get _ _, ?_⟩
  refine List.forall_mem_cons.mpr ⟨mo_iload _ _, ?_⟩
  refine List.forall_mem_cons.mpr ⟨mo_iload _ _, ?_⟩
  refine List.forall_mem_cons.mpr ⟨mo_call _ _ _, ?_⟩
  refine List.forall_mem_cons.mpr ⟨mo_iload _ _, ?_⟩
  refine List.forall_mem_cons.mpr ⟨mo_call _ _ _, ?_⟩
  refine List.forall_mem_cons.mpr ⟨mo_iret, ?_⟩
  exact fun _ h => absurd h List.not_mem_nil
def k_X6_undo : List (Nat × aI) := [
  (0, i_aload 0 1),
  (1, i_get 6 3),
  (4, i_aload 0 1),
  (5, i_get 6 1),
  (8, i_callV 70 2 4),
  (11, i_if (fun x => x = 0) 24 14),
  (14, i_aload 0 1),
  (15, i_get 6 3),
  (18, i_callV 67 1 4),
  (21, i_goto 26),
  (24, i_push (.int (-2)) 2),
  (26, i_iret)]
theorem s_X6_undo : ∀ q ∈ k_X6_undo, Snd RX6 cX6_undo (some .int) false q.1 q.2 := by
  unfold k_X6_undo
  refine List.forall_mem_cons.mpr ⟨snd_aload_n (by decide +kernel : decode cX6_undo 0 = .ok (.aload_n 0, 1)) rfl, ?_⟩
  refine List.forall_mem_cons.mpr ⟨snd_get fl_6_31 (by decide +kernel : decode cX6_undo 1 = .ok (.getfield 31, 3)), ?_⟩
  refine List.forall_mem_cons.mpr ⟨snd_aload_n (by decide +kernel : decode cX6_undo 4 = .ok (.aload_n 0, 1)) rfl, ?_⟩
  refine List.forall_mem_cons.mpr ⟨snd_get fl_6_19 (by decide +kernel : decode cX6_undo 5 = .ok (.getfield 19, 3)), ?_⟩
  refine List.forall_mem_cons.mpr ⟨snd_callV mok_70 wd_431 wd_434 wd_435 rfl rfl (by decide +kernel : decode cX6_undo 8 = .ok (.invokevirtual 149, 3)), ?_⟩
  refine List.forall_mem_cons.mpr ⟨snd_if_eq (by decide +kernel : decode cX6_undo 11 = .ok (.ifCond .eq 13, 3)) (by decide +kernel), ?_⟩
  refine List.forall_mem_cons.mpr ⟨snd_aload_n (by decide +kernel : decode cX6_undo 14 = .ok (.aload_n 0, 1)) rfl, ?_⟩
  refine List.forall_mem_cons.mpr ⟨snd_get fl_6_31 (by decide +kernel : decode cX6_undo 15 = .ok (.getfield 31, 3)), ?_⟩
  refine List.forall_mem_cons.mpr ⟨snd_callV mok_67 wd_436 wd_439 wd_440 rfl rfl (by decide +kernel : decode cX6_undo 18 = .ok (.invokevirtual 153, 3)), ?_⟩
  refine List.forall_mem_cons.mpr ⟨snd_goto (by decide +kernel : decode cX6_undo 21 = .ok (.goto 5, 3)) (by decide +kernel), ?_⟩
  refine List.forall_mem_cons.mpr ⟨snd_bipush (by decide +kernel : decode cX6_undo 24 = .ok (.bipush (-2), 2)) (by decide +kernel), ?_⟩
  refine List.forall_mem_cons.mpr ⟨snd_iret (by decide +kernel : decode cX6_undo 26 = .ok (.ireturn, 1)), ?_⟩
  exact fun _ h => absurd h List.not_mem_nil
theorem m_X6_undo : ∀ q ∈ k_X6_undo, Mono q.2 := by
  unfold k_X6_undo
  refine List.forall_mem_cons.mpr ⟨mo_aload _ _, ?_⟩
  refine List.forall_mem_cons.mpr ⟨mo_get _ _, ?_⟩
  refine List.forall_mem_cons.mpr ⟨mo_aload _ _, ?_⟩
  refine List.forall_mem_cons.mpr ⟨mo_get _ _, ?_⟩
  refine List.forall_mem_cons.mpr ⟨mo_call _ _ _, ?_⟩
  refine List.forall_mem_cons.mpr ⟨mo_if _ _ _, ?_⟩
  refine List.forall_mem_cons.mpr ⟨mo_aload _ _, ?_⟩
  refine List.forall_mem_cons.mpr ⟨mo_get _ _, ?_⟩
  refine List.forall_mem_cons.mpr ⟨mo_call _ _ _, ?_⟩
  refine List.forall_mem_cons.mpr ⟨mo_goto _, ?_⟩
  refine List.forall_mem_cons.mpr ⟨mo_push _ _, ?_⟩
  refine List.forall_mem_cons.mpr ⟨mo_iret, ?_⟩
  exact fun _ h => absurd h List.not_mem_nil
def k_X6_behind : List (Nat × aI) := [
  (0, i_iload 1 1),
  (1, i_push (.int 0) 1),
  (2, i_push (.int 40) 2),
  (4, i_callS 114 3),
  (7, i_if (fun x => x = 0) 32 10),
  (10, i_aload 0 1),
  (11, i_get 6 1),
  (14, i_iload 2 1),
  (15, i_callV 28 2 2),
  (18, i_if (fun x => x = 0) 32 21),
  (21, i_aload 0 1),
  (22, i_get 6 1),
  (25, i_iload 3 1),
  (26, i_callV 29 2 2),
  (29, i_if (fun x => x = 0) 32 34),
  (32, i_push (.int (-1)) 1),
  (33, i_iret),
  (34, i_aload 0 1),
  (35, i_get 6 6),
  (38, i_aload 0 1),
  (39, i_get 6 1),
  (42, i_iload 1 1),
  (43, i_iload 2 1),
  (44, i_iload 3 1),
  (45, i_callV 53 5 3),
  (48, i_iret)]
theorem s_X6_behind : ∀ q ∈ k_X6_behind, Snd RX6 cX6_behind (some .int) false q.1 q.2 := by
  unfold k_X6_behind
  refine List.forall_mem_cons.mpr ⟨snd_iload_n (by decide +kernel : decode cX6_behind 0 = .ok (.iload_n 1, 1)) rfl, ?_⟩
  refine List.forall_mem_cons.mpr ⟨snd_iconst (by decide +kernel : decode cX6_behind 1 = .ok (.iconst 0, 1)) (by decide +kernel), ?_⟩
  refine List.forall_mem_cons.mpr ⟨snd_bipush (by decide +kernel : decode cX6_behind 2 = .ok (.bipush 40, 2)) (by decide +kernel), ?_⟩
  refine List.forall_mem_cons.mpr ⟨snd_callS mok_114 wd_378 wd_137 (by decide +kernel : decode cX6_behind 4 = .ok (.invokestatic 82, 3)), ?_⟩
  refine List.forall_mem_cons.mpr ⟨snd_if_eq (by decide +kernel : decode cX6_behind 7 = .ok (.ifCond .eq 25, 3)) (by decide +kernel), ?_⟩
  refine List.forall_mem_cons.mpr ⟨snd_aload_n (by decide +kernel : decode cX6_behind 10 = .ok (.aload_n 0, 1)) rfl, ?_⟩
  refine List.forall_mem_cons.mpr ⟨snd_get fl_6_19 (by decide +kernel : decode cX6_behind 11 = .ok (.getfield 19, 3)), ?_⟩
  refine List.forall_mem_cons.mpr ⟨snd_iload_n (by decide +kernel : decode cX6_behind 14 = .ok (.iload_n 2, 1)) rfl, ?_⟩
  refine List.forall_mem_cons.mpr ⟨snd_callV mok_28 wd_396 wd_153 wd_154 rfl rfl (by decide +kernel : decode cX6_behind 15 = .ok (.invokevirtual 96, 3)), ?_⟩
  refine List.forall_mem_cons.mpr ⟨snd_if_eq (by decide +kernel : decode cX6_behind 18 = .ok (.ifCond .eq 14, 3)) (by decide +kernel), ?_⟩
  refine List.forall_mem_cons.mpr ⟨snd_aload_n (by decide +kernel : decode cX6_behind 21 = .ok (.aload_n 0, 1)) rfl, ?_⟩
  refine List.forall_mem_cons.mpr ⟨snd_get fl_6_19 (by decide +kernel : decode cX6_behind 22 = .ok (.getfield 19, 3)), ?_⟩
  refine List.forall_mem_cons.mpr ⟨snd_iload_n (by decide +kernel : decode cX6_behind 25 = .ok (.iload_n 3, 1)) rfl, ?_⟩
  refine List.forall_mem_cons.mpr ⟨snd_callV mok_29 wd_397 wd_164 wd_165 rfl rfl (by decide +kernel : decode cX6_behind 26 = .ok (.invokevirtual 99, 3)), ?_⟩
  refine List.forall_mem_cons.mpr ⟨snd_if_ne (by decide +kernel : decode cX6_behind 29 = .ok (.ifCond .ne 5, 3)) (by decide +kernel), ?_⟩
  refine List.forall_mem_cons.mpr ⟨snd_iconst (by decide +kernel : decode cX6_behind 32 = .ok (.iconst (-1), 1)) (by decide +kernel), ?_⟩
  refine List.forall_mem_cons.mpr ⟨snd_iret (by decide +kernel : decode cX6_behind 33 = .ok (.ireturn, 1)), ?_⟩
  refine List.forall_mem_cons.mpr ⟨snd_aload_n (by decide +kernel : decode cX6_behind 34 = .ok (.aload_n 0, 1)) rfl, ?_⟩
  refine List.forall_mem_cons.mpr ⟨snd_get fl_6_48 (by decide +kernel : decode cX6_behind 35 = .ok (.getfield 48, 3)), ?_⟩
  refine List.forall_mem_cons.mpr ⟨snd_aload_n (by decide +kernel : decode cX6_behind 38 = .ok (.aload_n 0, 1)) rfl, ?_⟩
  refine List.forall_mem_cons.mpr ⟨snd_get fl_6_19 (by decide +kernel : decode cX6_behind 39 = .ok (.getfield 19, 3)), ?_⟩
  refine List.forall_mem_cons.mpr ⟨snd_iload_n (by decide +kernel : decode cX6_behind 42 = .ok (.iload_n 1, 1)) rfl, ?_⟩
  refine List.forall_mem_cons.mpr ⟨snd_iload_n (by decide +kernel : decode cX6_behind 43 = .ok (.iload_n 2, 1)) rfl, ?_⟩
  refine List.forall_mem_cons.mpr ⟨snd_iload_n (by decide +kernel : decode cX6_behind 44 = .ok (.iload_n 3, 1)) rfl, ?_⟩
  refine List.forall_mem_cons.mpr ⟨snd_callV mok_53 wd_441 wd_444 wd_445 rfl rfl (by decide +kernel : decode cX6_behind 45 = .ok (.invokevirtual 156, 3)), ?_⟩
  refine List.forall_mem_cons.mpr ⟨snd_iret (by decide +kernel : decode cX6_behind 48 = .ok (.ireturn, 1)), ?_⟩
  exact fun _ h => absurd h List.not_mem_nil
theorem m_X6_behind : ∀ q ∈ k_X6_behind, Mono q.2 := by
  unfold k_X6_behind
  refine List.forall_mem_cons.mpr ⟨mo_iload _ _, ?_⟩
  refine List.forall_mem_cons.mpr ⟨mo_push _ _, ?_⟩
  refine List.forall_mem_cons.mpr ⟨mo_push _ _, ?_⟩
  refine List.forall_mem_cons.mpr ⟨mo_call _ _ _, ?_⟩
  refine List.forall_mem_cons.mpr ⟨mo_if _ _ _, ?_⟩
  refine List.forall_mem_cons.mpr ⟨mo_aload _ _, ?_⟩
  refine List.forall_mem_cons.mpr ⟨mo_get _ _, ?_⟩
  refine List.forall_mem_cons.mpr ⟨mo_iload _ _, ?_⟩
  refine List.forall_mem_cons.mpr ⟨mo_call _ _ _, ?_⟩
  refine List.forall_mem_cons.mpr ⟨mo_if _ _ _, ?_⟩
  refine List.forall_mem_cons.mpr ⟨mo_aload _ _, ?_⟩
  refine List.forall_mem_cons.mpr ⟨mo_get _ _, ?_⟩
  refine List.forall_mem_cons.mpr ⟨mo_iload _ _, ?_⟩
  refine List.forall_mem_cons.mpr ⟨mo_call _ _ _, ?_⟩
  refine List.forall_mem_cons.mpr ⟨mo_if _ _ _, ?_⟩
  refine List.forall_mem_cons.mpr ⟨mo_push _ _, ?_⟩
  refine List.forall_mem_cons.mpr ⟨mo_iret, ?_⟩
  refine List.forall_mem_cons.mpr ⟨mo_aload _ _, ?_⟩
  refine List.forall_mem_cons.mpr ⟨mo_get _ _, ?_⟩
  refine List.forall_mem_cons.mpr ⟨mo_aload _ _, ?_⟩
  refine List.forall_mem_cons.mpr ⟨mo_get _ _, ?_⟩
  refine List.forall_mem_cons.mpr ⟨mo_iload _ _, ?_⟩
  refine List.forall_mem_cons.mpr ⟨mo_iload _ _, ?_⟩
  refine List.forall_mem_cons.mpr ⟨mo_iload _ _, ?_⟩
  refine List.forall_mem_cons.mpr ⟨mo_call _ _ _, ?_⟩
  refine List.forall_mem_cons.mpr ⟨mo_iret, ?_⟩
  exact fun _ h => absurd h List.not_mem_nil
def k_X6_when : List (Nat × aI) := [
  (0, i_aload 0 1),
  (1, i_get 6 1),
  (4, i_iload 1 1),
  (5, i_callV 29 2 2),
  (8, i_if (fun x => x = 0) 34 11),
  (11, i_iload 2 1),
  (12, i_callS 113 1),
  (15, i_if (fun x => x = 0) 34 18),
  (18, i_aload 0 1),
  (19, i_get 6 6),
  (22, i_aload 0 1),
  (23, i_get 6 1),
  (26, i_iload 1 1),
  (27, i_iload 2 1),
  (28, i_callV 55 4 3),
  (31, i_goto 35),
  (34, i_push (.int (-1)) 1),
  (35, i_iret)]
theorem s_X6_when : ∀ q ∈ k_X6_when, Snd RX6 cX6_when (some .int) false q.1 q.2 := by
  unfold k_X6_when
  refine List.forall_mem_cons.mpr ⟨snd_aload_n (by decide +kernel : decode cX6_when 0 = .ok (.aload_n 0, 1)) rfl, ?_⟩
  refine List.forall_mem_cons.mpr ⟨snd_get fl_6_19 (by decide +kernel : decode cX6_when 1 = .ok (.getfield 19, 3)), ?_⟩
  refine List.forall_mem_cons.mpr ⟨snd_iload_n (by decide +kernel : decode cX6_when 4 = .ok (.iload_n 1, 1)) rfl, ?_⟩
  refine List.forall_mem_cons.mpr ⟨snd_callV mok_29 wd_397 wd_164 wd_165 rfl rfl (by decide +kernel : decode cX6_when 5 = .ok (.invokevirtual 99, 3)), ?_⟩
  refine List.forall_mem_cons.mpr ⟨snd_if_eq (by decide +kernel : decode cX6_when 8 = .ok (.ifCond .eq 26, 3)) (by decide +kernel), ?_⟩
  refine List.forall_mem_cons.mpr ⟨snd_iload_n (by decide +kernel : decode cX6_when 11 = .ok (.iload_n 2, 1)) rfl, ?_⟩
  refine List.forall_mem_cons.mpr ⟨snd_callS mok_113 wd_422 wd_168 (by decide +kernel : decode cX6_when 12 = .ok (.invokestatic 131, 3)), ?_⟩
  refine List.forall_mem_cons.mpr ⟨snd_if_eq (by decide +kernel : decode cX6_when 15 = .ok (.ifCond .eq 19, 3)) (by decide +kernel), ?_⟩
  refine List.forall_mem_cons.mpr ⟨snd_aload_n (by decide +kernel : decode cX6_when 18 = .ok (.aload_n 0, 1)) rfl, ?_⟩
  refine List.forall_mem_cons.mpr ⟨snd_get fl_6_48 (by decide +kernel : decode cX6_when 19 = .ok (.getfield 48, 3)), ?_⟩
  refine List.forall_mem_cons.mpr ⟨snd_aload_n (by decide +kernel : decode cX6_when 22 = .ok (.aload_n 0, 1)) rfl, ?_⟩
  refine List.forall_mem_cons.mpr ⟨snd_get fl_6_19 (by decide +kernel : decode cX6_when 23 = .ok (.getfield 19, 3)), ?_⟩
  refine List.forall_mem_cons.mpr ⟨snd_iload_n (by decide +kernel : decode cX6_when 26 = .ok (.iload_n 1, 1)) rfl, ?_⟩
  refine List.forall_mem_cons.mpr ⟨snd_iload_n (by decide +kernel : decode cX6_when 27 = .ok (.iload_n 2, 1)) rfl, ?_⟩
  refine List.forall_mem_cons.mpr ⟨snd_callV mok_55 wd_446 wd_449 wd_450 rfl rfl (by decide +kernel : decode cX6_when 28 = .ok (.invokevirtual 160, 3)), ?_⟩
  refine List.forall_mem_cons.mpr ⟨snd_goto (by decide +kernel : decode cX6_when 31 = .ok (.goto 4, 3)) (by decide +kernel), ?_⟩
  refine List.forall_mem_cons.mpr ⟨snd_iconst (by decide +kernel : decode cX6_when 34 = .ok (.iconst (-1), 1)) (by decide +kernel), ?_⟩
  refine List.forall_mem_cons.mpr ⟨snd_iret (by decide +kernel : decode cX6_when 35 = .ok (.ireturn, 1)), ?_⟩
  exact fun _ h => absurd h List.not_mem_nil
theorem m_X6_when : ∀ q ∈ k_X6_when, Mono q.2 := by
  unfold k_X6_when
  refine List.forall_mem_cons.mpr ⟨mo_aload _ _, ?_⟩
  refine List.forall_mem_cons.mpr ⟨mo_get _ _, ?_⟩
  refine List.forall_mem_cons.mpr ⟨mo_iload _ _, ?_⟩
  refine List.forall_mem_cons.mpr ⟨mo_call _ _ _, ?_⟩
  refine List.forall_mem_cons.mpr ⟨mo_if _ _ _, ?_⟩
  refine List.forall_mem_cons.mpr ⟨mo_iload _ _, ?_⟩
  refine List.forall_mem_cons.mpr ⟨mo_call _ _ _, ?_⟩
  refine List.forall_mem_cons.mpr ⟨mo_if _ _ _, ?_⟩
  refine List.forall_mem_cons.mpr ⟨mo_aload _ _, ?_⟩
  refine List.forall_mem_cons.mpr ⟨mo_get _ _, ?_⟩
  refine List.forall_mem_cons.mpr ⟨mo_aload _ _, ?_⟩
  refine List.forall_mem_cons.mpr ⟨mo_get _ _, ?_⟩
  refine List.forall_mem_cons.mpr ⟨mo_iload _ _, ?_⟩
  refine List.forall_mem_cons.mpr ⟨mo_iload _ _, ?_⟩
  refine List.forall_mem_cons.mpr ⟨mo_call _ _ _, ?_⟩
  refine List.forall_mem_cons.mpr ⟨mo_goto _, ?_⟩
  refine List.forall_mem_cons.mpr ⟨mo_push _ _, ?_⟩
  refine List.forall_mem_cons.mpr ⟨mo_iret, ?_⟩
  exact fun _ h => absurd h List.not_mem_nil
def k_X6_rest : List (Nat × aI) := [
  (0, i_aload 0 1),
  (1, i_get 6 6),
  (4, i_aload 0 1),
  (5, i_get 6 1),
  (8, i_callV 56 2 3),
  (11, i_iret)]
theorem s_X6_rest : ∀ q ∈ k_X6_rest, Snd RX6 cX6_rest (some .int) false q.1 q.2 := by
  unfold k_X6_rest
  refine List.forall_mem_cons.mpr ⟨snd_aload_n (by decide +kernel : decode cX6_rest 0 = .ok (.aload_n 0, 1)) rfl, ?_⟩
  refine List.forall_mem_cons.mpr ⟨snd_get fl_6_48 (by decide +kernel : decode cX6_rest 1 = .ok (.getfield 48, 3)), ?_⟩
  refine List.forall_mem_cons.mpr ⟨snd_aload_n (by decide +kernel : decode cX6_rest 4 = .ok (.aload_n 0, 1)) rfl, ?_⟩
  refine List.forall_mem_cons.mpr ⟨snd_get fl_6_19 (by decide +kernel : decode cX6_rest 5 = .ok (.getfield 19, 3)), ?_⟩
  refine List.forall_mem_cons.mpr ⟨snd_callV mok_56 wd_451 wd_454 wd_455 rfl rfl (by decide +kernel : decode cX6_rest 8 = .ok (.invokevirtual 164, 3)), ?_⟩
  refine List.forall_mem_cons.mpr ⟨snd_iret (by decide +kernel : decode cX6_rest 11 = .ok (.ireturn, 1)), ?_⟩
  exact fun _ h => absurd h List.not_mem_nil
theorem m_X6_rest : ∀ q ∈ k_X6_rest, Mono q.2 := by
  unfold k_X6_rest
  refine List.forall_mem_cons.mpr ⟨mo_aload _ _, ?_⟩
  refine List.forall_mem_cons.mpr ⟨mo_get _ _, ?_⟩
  refine List.forall_mem_cons.mpr ⟨mo_aload _ _, ?_⟩
  refine List.forall_mem_cons.mpr ⟨mo_get _ _, ?_⟩
  refine List.forall_mem_cons.mpr ⟨mo_call _ _ _, ?_⟩
  refine List.forall_mem_cons.mpr ⟨mo_iret, ?_⟩
  exact fun _ h => absurd h List.not_mem_nil
def k_X6_met : List (Nat × aI) := [
  (0, i_iload 1 1),
  (1, i_push (.int 0) 1),
  (2, i_push (.int 40) 2),
  (4, i_callS 114 3),
  (7, i_if (fun x => x = 0) 25 10),
  (10, i_aload 0 1),
  (11, i_get 6 6),
  (14, i_aload 0 1),
  (15, i_get 6 1),
  (18, i_iload 1 1),
  (19, i_callV 54 3 3),
  (22, i_goto 26),
  (25, i_push (.int (-1)) 1),
  (26, i_iret)]
theorem s_X6_met : ∀ q ∈ k_X6_met, Snd RX6 cX6_met (some .int) false q.1 q.2 := by
  unfold k_X6_met
  refine List.forall_mem_cons.mpr ⟨snd_iload_n (by decide +kernel : decode cX6_met 0 = .ok (.iload_n 1, 1)) rfl, ?_⟩
  refine List.forall_mem_cons.mpr ⟨snd_iconst (by decide +kernel : decode cX6_met 1 = .ok (.iconst 0, 1)) (by decide +kernel), ?_⟩
  refine List.forall_mem_cons.mpr ⟨snd_bipush (by decide +kernel : decode cX6_met 2 = .ok (.bipush 40, 2)) (by decide +kernel), ?_⟩
  refine List.forall_mem_cons.mpr ⟨snd_callS mok_114 wd_378 wd_137 (by decide +kernel : decode cX6_met 4 = .ok (.invokestatic 82, 3)), ?_⟩
  refine List.forall_mem_cons.mpr ⟨snd_if_eq (by decide +kernel : decode cX6_met 7 = .ok (.ifCond .eq 18, 3)) (by decide +kernel), ?_⟩
  refine List.forall_mem_cons.mpr ⟨snd_aload_n (by decide +kernel : decode cX6_met 10 = .ok (.aload_n 0, 1)) rfl, ?_⟩
  refine List.forall_mem_cons.mpr ⟨snd_get fl_6_48 (by decide +kernel : decode cX6_met 11 = .ok (.getfield 48, 3)), ?_⟩
  refine List.forall_mem_cons.mpr ⟨snd_aload_n (by decide +kernel : decode cX6_met 14 = .ok (.aload_n 0, 1)) rfl, ?_⟩
  refine List.forall_mem_cons.mpr ⟨snd_get fl_6_19 (by decide +kernel : decode cX6_met 15 = .ok (.getfield 19, 3)), ?_⟩
  refine List.forall_mem_cons.mpr ⟨snd_iload_n (by decide +kernel : decode cX6_met 18 = .ok (.iload_n 1, 1)) rfl, ?_⟩
  refine List.forall_mem_cons.mpr ⟨snd_callV mok_54 wd_456 wd_249 wd_250 rfl rfl (by decide +kernel : decode cX6_met 19 = .ok (.invokevirtual 167, 3)), ?_⟩
  refine List.forall_mem_cons.mpr ⟨snd_goto (by decide +kernel : decode cX6_met 22 = .ok (.goto 4, 3)) (by decide +kernel), ?_⟩
  refine List.forall_mem_cons.mpr ⟨snd_iconst (by decide +kernel : decode cX6_met 25 = .ok (.iconst (-1), 1)) (by decide +kernel), ?_⟩
  refine List.forall_mem_cons.mpr ⟨snd_iret (by decide +kernel : decode cX6_met 26 = .ok (.ireturn, 1)), ?_⟩
  exact fun _ h => absurd h List.not_mem_nil
theorem m_X6_met : ∀ q ∈ k_X6_met, Mono q.2 := by
  unfold k_X6_met
  refine List.forall_mem_cons.mpr ⟨mo_iload _ _, ?_⟩
  refine List.forall_mem_cons.mpr ⟨mo_push _ _, ?_⟩
  refine List.forall_mem_cons.mpr ⟨mo_push _ _, ?_⟩
  refine List.forall_mem_cons.mpr ⟨mo_call _ _ _, ?_⟩
  refine List.forall_mem_cons.mpr ⟨mo_if _ _ _, ?_⟩
  refine List.forall_mem_cons.mpr ⟨mo_aload _ _, ?_⟩
  refine List.forall_mem_cons.mpr ⟨mo_get _ _, ?_⟩
  refine List.forall_mem_cons.mpr ⟨mo_aload _ _, ?_⟩
  refine List.forall_mem_cons.mpr ⟨mo_get _ _, ?_⟩
  refine List.forall_mem_cons.mpr ⟨mo_iload _ _, ?_⟩
  refine List.forall_mem_cons.mpr ⟨mo_call _ _ _, ?_⟩
  refine List.forall_mem_cons.mpr ⟨mo_goto _, ?_⟩
  refine List.forall_mem_cons.mpr ⟨mo_push _ _, ?_⟩
  refine List.forall_mem_cons.mpr ⟨mo_iret, ?_⟩
  exact fun _ h => absurd h List.not_mem_nil
def k_X6_pins : List (Nat × aI) := [
  (0, i_iload 1 1),
  (1, i_push (.int 1) 1),
  (2, i_push (.int 40) 2),
  (4, i_callS 114 3),
  (7, i_if (fun x => x = 0) 26 10),
  (10, i_iload 2 1),
  (11, i_push (.int (-1)) 1),
  (12, i_icmp (fun x y => x = y) 28 15),
  (15, i_aload 0 1),
  (16, i_get 6 1),
  (19, i_iload 2 1),
  (20, i_callV 29 2 2),
  (23, i_if (fun x => x = 0) 26 28),
  (26, i_push (.int (-1)) 1),
  (27, i_iret),
  (28, i_aload 0 1),
  (29, i_get 6 6),
  (32, i_aload 0 1),
  (33, i_get 6 1),
  (36, i_iload 1 1),
  (37, i_iload 2 1),
  (38, i_callV 57 4 3),
  (41, i_iret)]
theorem s_X6_pins : ∀ q ∈ k_X6_pins, Snd RX6 cX6_pins (some .int) false q.1 q.2 := by
  unfold k_X6_pins
  refine List.forall_mem_cons.mpr ⟨snd_iload_n (by decide +kernel : decode cX6_pins 0 = .ok (.iload_n 1, 1)) rfl, ?_⟩
  refine List.forall_mem_cons.mpr ⟨snd_iconst (by decide +kernel : decode cX6_pins 1 = .ok (.iconst 1, 1)) (by decide +kernel), ?_⟩
  refine List.forall_mem_cons.mpr ⟨snd_bipush (by decide +kernel : decode cX6_pins 2 = .ok (.bipush 40, 2)) (by decide +kernel), ?_⟩
  refine List.forall_mem_cons.mpr ⟨snd_callS mok_114 wd_378 wd_137 (by decide +kernel : decode cX6_pins 4 = .ok (.invokestatic 82, 3)), ?_⟩
  refine List.forall_mem_cons.mpr ⟨snd_if_eq (by decide +kernel : decode cX6_pins 7 = .ok (.ifCond .eq 19, 3)) (by decide +kernel), ?_⟩
  refine List.forall_mem_cons.mpr ⟨snd_iload_n (by decide +kernel : decode cX6_pins 10 = .ok (.iload_n 2, 1)) rfl, ?_⟩
  refine List.forall_mem_cons.mpr ⟨snd_iconst (by decide +kernel : decode cX6_pins 11 = .ok (.iconst (-1), 1)) (by decide +kernel), ?_⟩
  refine List.forall_mem_cons.mpr ⟨snd_icmp_eq (by decide +kernel : decode cX6_pins 12 = .ok (.if_icmp .eq 16, 3)) (by decide +kernel), ?_⟩
  refine List.forall_mem_cons.mpr ⟨snd_aload_n (by decide +kernel : decode cX6_pins 15 = .ok (.aload_n 0, 1)) rfl, ?_⟩
  refine List.forall_mem_cons.mpr ⟨snd_get fl_6_19 (by decide +kernel : decode cX6_pins 16 = .ok (.getfield 19, 3)), ?_⟩
  refine List.forall_mem_cons.mpr ⟨snd_iload_n (by decide +kernel : decode cX6_pins 19 = .ok (.iload_n 2, 1)) rfl, ?_⟩
  refine List.forall_mem_cons.mpr ⟨snd_callV mok_29 wd_397 wd_164 wd_165 rfl rfl (by decide +kernel : decode cX6_pins 20 = .ok (.invokevirtual 99, 3)), ?_⟩
  refine List.forall_mem_cons.mpr ⟨snd_if_ne (by decide +kernel : decode cX6_pins 23 = .ok (.ifCond .ne 5, 3)) (by decide +kernel), ?_⟩
  refine List.forall_mem_cons.mpr ⟨snd_iconst (by decide +kernel : decode cX6_pins 26 = .ok (.iconst (-1), 1)) (by decide +kernel), ?_⟩
  refine List.forall_mem_cons.mpr ⟨snd_iret (by decide +kernel : decode cX6_pins 27 = .ok (.ireturn, 1)), ?_⟩
  refine List.forall_mem_cons.mpr ⟨snd_aload_n (by decide +kernel : decode cX6_pins 28 = .ok (.aload_n 0, 1)) rfl, ?_⟩
  refine List.forall_mem_cons.mpr ⟨snd_get fl_6_48 (by decide +kernel : decode cX6_pins 29 = .ok (.getfield 48, 3)), ?_⟩
  refine List.forall_mem_cons.mpr ⟨snd_aload_n (by decide +kernel : decode cX6_pins 32 = .ok (.aload_n 0, 1)) rfl, ?_⟩
  refine List.forall_mem_cons.mpr ⟨snd_get fl_6_19 (by decide +kernel : decode cX6_pins 33 = .ok (.getfield 19, 3)), ?_⟩
  refine List.forall_mem_cons.mpr ⟨snd_iload_n (by decide +kernel : decode cX6_pins 36 = .ok (.iload_n 1, 1)) rfl, ?_⟩
  refine List.forall_mem_cons.mpr ⟨snd_iload_n (by decide +kernel : decode cX6_pins 37 = .ok (.iload_n 2, 1)) rfl, ?_⟩
  refine List.forall_mem_cons.mpr ⟨snd_callV mok_57 wd_457 wd_460 wd_461 rfl rfl (by decide +kernel : decode cX6_pins 38 = .ok (.invokevirtual 171, 3)), ?_⟩
  refine List.forall_mem_cons.mpr ⟨snd_iret (by decide +kernel : decode cX6_pins 41 = .ok (.ireturn, 1)), ?_⟩
  exact fun _ h => absurd h List.not_mem_nil
theorem m_X6_pins : ∀ q ∈ k_X6_pins, Mono q.2 := by
  unfold k_X6_pins
  refine List.forall_mem_cons.mpr ⟨mo_iload _ _, ?_⟩
  refine List.forall_mem_cons.mpr ⟨mo_push _ _, ?_⟩
  refine List.forall_mem_cons.mpr ⟨mo_push _ _, ?_⟩
  refine List.forall_mem_cons.mpr ⟨mo_call _ _ _, ?_⟩
  refine List.forall_mem_cons.mpr ⟨mo_if _ _ _, ?_⟩
  refine List.forall_mem_cons.mpr ⟨mo_iload _ _, ?_⟩
  refine List.forall_mem_cons.mpr ⟨mo_push _ _, ?_⟩
  refine List.forall_mem_cons.mpr ⟨mo_icmp _ _ _, ?_⟩
  refine List.forall_mem_cons.mpr ⟨mo_aload _ _, ?_⟩
  refine List.forall_mem_cons.mpr ⟨mo_get _ _, ?_⟩
  refine List.forall_mem_cons.mpr ⟨mo_iload _ _, ?_⟩
  refine List.forall_mem_cons.mpr ⟨mo_call _ _ _, ?_⟩
  refine List.forall_mem_cons.mpr ⟨mo_if _ _ _, ?_⟩
  refine List.forall_mem_cons.mpr ⟨mo_push _ _, ?_⟩
  refine List.forall_mem_cons.mpr ⟨mo_iret, ?_⟩
  refine List.forall_mem_cons.mpr ⟨mo_aload _ _, ?_⟩
  refine List.forall_mem_cons.mpr ⟨mo_get _ _, ?_⟩
  refine List.forall_mem_cons.mpr ⟨mo_aload _ _, ?_⟩
  refine List.forall_mem_cons.mpr ⟨mo_get _ _, ?_⟩
  refine List.forall_mem_cons.mpr ⟨mo_iload _ _, ?_⟩
  refine List.forall_mem_cons.mpr ⟨mo_iload _ _, ?_⟩
  refine List.forall_mem_cons.mpr ⟨mo_call _ _ _, ?_⟩
  refine List.forall_mem_cons.mpr ⟨mo_iret, ?_⟩
  exact fun _ h => absurd h List.not_mem_nil
def k_X6_one : List (Nat × aI) := [
  (0, i_iload 1 1),
  (1, i_push (.int 0) 1),
  (2, i_push (.int 40) 2),
  (4, i_callS 114 3),
  (7, i_if (fun x => x = 0) 19 10),
  (10, i_iload 2 1),
  (11, i_push (.int 0) 1),
  (12, i_push (.int 1) 1),
  (13, i_callS 114 3),
  (16, i_if (fun x => x = 0) 19 21),
  (19, i_push (.int (-1)) 1),
  (20, i_iret),
  (21, i_aload 0 1),
  (22, i_get 6 6),
  (25, i_aload 0 1),
  (26, i_get 6 1),
  (29, i_iload 1 1),
  (30, i_iload 2 1),
  (31, i_if (fun x => x = 0) 34 38),
  (34, i_push (.int 1) 1),
  (35, i_goto 39),
  (38, i_push (.int 0) 1),
  (39, i_callV 59 4 3),
  (42, i_iret)]
theorem s_X6_one : ∀ q ∈ k_X6_one, Snd RX6 cX6_one (some .int) false q.1 q.2 := by
  unfold k_X6_one
  refine List.forall_mem_cons.mpr ⟨snd_iload_n (by decide +kernel : decode cX6_one 0 = .ok (.iload_n 1, 1)) rfl, ?_⟩
  refine List.forall_mem_cons.mpr ⟨snd_iconst (by decide +kernel : decode cX6_one 1 = .ok (.iconst 0, 1)) (by decide +kernel), ?_⟩
  refine List.forall_mem_cons.mpr ⟨snd_bipush (by decide +kernel : decode cX6_one 2 = .ok (.bipush 40, 2)) (by decide +kernel), ?_⟩
  refine List.forall_mem_cons.mpr ⟨snd_callS mok_114 wd_378 wd_137 (by decide +kernel : decode cX6_one 4 = .ok (.invokestatic 82, 3)), ?_⟩
  refine List.forall_mem_cons.mpr ⟨snd_if_eq (by decide +kernel : decode cX6_one 7 = .ok (.ifCond .eq 12, 3)) (by decide +kernel), ?_⟩
  refine List.forall_mem_cons.mpr ⟨snd_iload_n (by decide +kernel : decode cX6_one 10 = .ok (.iload_n 2, 1)) rfl, ?_⟩
  refine List.forall_mem_cons.mpr ⟨snd_iconst (by decide +kernel : decode cX6_one 11 = .ok (.iconst 0, 1)) (by decide +kernel), ?_⟩
  refine List.forall_mem_cons.mpr ⟨snd_iconst (by decide +kernel : decode cX6_one 12 = .ok (.iconst 1, 1)) (by decide +kernel), ?_⟩
  refine List.forall_mem_cons.mpr ⟨snd_callS mok_114 wd_378 wd_137 (by decide +kernel : decode cX6_one 13 = .ok (.invokestatic 82, 3)), ?_⟩
  refine List.forall_mem_cons.mpr ⟨snd_if_ne (by decide +kernel : decode cX6_one 16 = .ok (.ifCond .ne 5, 3)) (by decide +kernel), ?_⟩
  refine List.forall_mem_cons.mpr ⟨snd_iconst (by decide +kernel : decode cX6_one 19 = .ok (.iconst (-1), 1)) (by decide +kernel), ?_⟩
  refine List.forall_mem_cons.mpr ⟨snd_iret (by decide +kernel : decode cX6_one 20 = .ok (.ireturn, 1)), ?_⟩
  refine List.forall_mem_cons.mpr ⟨snd_aload_n (by decide +kernel : decode cX6_one 21 = .ok (.aload_n 0, 1)) rfl, ?_⟩
  refine List.forall_mem_cons.mpr ⟨snd_get fl_6_48 (by decide +kernel : decode cX6_one 22 = .ok (.getfield 48, 3)), ?_⟩
  refine List.forall_mem_cons.mpr ⟨snd_aload_n (by decide +kernel : decode cX6_one 25 = .ok (.aload_n 0, 1)) rfl, ?_⟩
  refine List.forall_mem_cons.mpr ⟨snd_get fl_6_19 (by decide +kernel : decode cX6_one 26 = .ok (.getfield 19, 3)), ?_⟩
  refine List.forall_mem_cons.mpr ⟨snd_iload_n (by decide +kernel : decode cX6_one 29 = .ok (.iload_n 1, 1)) rfl, ?_⟩
  refine List.forall_mem_cons.mpr ⟨snd_iload_n (by decide +kernel : decode cX6_one 30 = .ok (.iload_n 2, 1)) rfl, ?_⟩
  refine List.forall_mem_cons.mpr ⟨snd_if_ne (by decide +kernel : decode cX6_one 31 = .ok (.ifCond .ne 7, 3)) (by decide +kernel), ?_⟩
  refine List.forall_mem_cons.mpr ⟨snd_iconst (by decide +kernel : decode cX6_one 34 = .ok (.iconst 1, 1)) (by decide +kernel), ?_⟩
  refine List.forall_mem_cons.mpr ⟨snd_goto (by decide +kernel : decode cX6_one 35 = .ok (.goto 4, 3)) (by decide +kernel), ?_⟩
  refine List.forall_mem_cons.mpr ⟨snd_iconst (by decide +kernel : decode cX6_one 38 = .ok (.iconst 0, 1)) (by decide +kernel), ?_⟩
  refine List.forall_mem_cons.mpr ⟨snd_callV mok_59 wd_462 wd_465 wd_466 rfl rfl (by decide +kernel : decode cX6_one 39 = .ok (.invokevirtual 174, 3)), ?_⟩
  refine List.forall_mem_cons.mpr ⟨snd_iret (by decide +kernel : decode cX6_one 42 = .ok (.ireturn, 1)), ?_⟩
  exact fun _ h => absurd h List.not_mem_nil
theorem m_X6_one : ∀ q ∈ k_X6_one, Mono q.2 := by
  unfold k_X6_one
  refine List.forall_mem_cons.mpr ⟨mo_iload _ _, ?_⟩
  refine List.forall_mem_cons.mpr ⟨mo_push _ _, ?_⟩
  refine List.forall_mem_cons.mpr ⟨mo_push _ _, ?_⟩
  refine List.forall_mem_cons.mpr ⟨mo_call _ _ _, ?_⟩
  refine List.forall_mem_cons.mpr ⟨mo_if _ _ _, ?_⟩
  refine List.forall_mem_cons.mpr ⟨mo_iload _ _, ?_⟩
  refine List.forall_mem_cons.mpr ⟨mo_push _ _, ?_⟩
  refine List.forall_mem_cons.mpr ⟨mo_push _ _, ?_⟩
  refine List.forall_mem_cons.mpr ⟨mo_call _ _ _, ?_⟩
  refine List.forall_mem_cons.mpr ⟨mo_if _ _ _, ?_⟩
  refine List.forall_mem_cons.mpr ⟨mo_push _ _, ?_⟩
  refine List.forall_mem_cons.mpr ⟨mo_iret, ?_⟩
  refine List.forall_mem_cons.mpr ⟨mo_aload _ _, ?_⟩
  refine List.forall_mem_cons.mpr ⟨mo_get _ _, ?_⟩
  refine List.forall_mem_cons.mpr ⟨mo_aload _ _, ?_⟩
  refine List.forall_mem_cons.mpr ⟨mo_get _ _, ?_⟩
  refine List.forall_mem_cons.mpr ⟨mo_iload _ _, ?_⟩
  refine List.forall_mem_cons.mpr ⟨mo_iload _ _, ?_⟩
  refine List.forall_mem_cons.mpr ⟨mo_if _ _ _, ?_⟩
  refine List.forall_mem_cons.mpr ⟨mo_push _ _, ?_⟩
  refine List.forall_mem_cons.mpr ⟨mo_goto _, ?_⟩
  refine List.forall_mem_cons.mpr ⟨mo_push _ _, ?_⟩
  refine List.forall_mem_cons.mpr ⟨mo_call _ _ _, ?_⟩
  refine List.forall_mem_cons.mpr ⟨mo_iret, ?_⟩
  exact fun _ h => absurd h List.not_mem_nil
def k_X6_harm : List (Nat × aI) := [
  (0, i_iload 1 1),
  (1, i_push (.int 0) 1),
  (2, i_push (.int 40) 2),
  (4, i_callS 114 3),
  (7, i_if (fun x => x = 0) 19 10),
  (10, i_iload 2 1),
  (11, i_push (.int 0) 1),
  (12, i_push (.int 1) 1),
  (13, i_callS 114 3),
  (16, i_if (fun x => x = 0) 19 21),
  (19, i_push (.int (-1)) 1),
  (20, i_iret),
  (21, i_aload 0 1),
  (22, i_get 6 6),
  (25, i_aload 0 1),
  (26, i_get 6 1),
  (29, i_iload 1 1),
  (30, i_iload 2 1),
  (31, i_if (fun x => x = 0) 34 38),
  (34, i_push (.int 1) 1),
  (35, i_goto 39),
  (38, i_push (.int 0) 1),
  (39, i_callV 61 4 3),
  (42, i_iret)]
theorem s_X6_harm : ∀ q ∈ k_X6_harm, Snd RX6 cX6_harm (some .int) false q.1 q.2 := by
  unfold k_X6_harm
  refine List.forall_mem_cons.mpr ⟨snd_iload_n (by decide +kernel : decode cX6_harm 0 = .ok (.iload_n 1, 1)) rfl, ?_⟩
  refine List.forall_mem_cons.mpr ⟨snd_iconst (by decide +kernel : decode cX6_harm 1 = .ok (.iconst 0, 1)) (by decide +kernel), ?_⟩
  refine List.forall_mem_cons.mpr ⟨snd_bipush (by decide +kernel : decode cX6_harm 2 = .ok (.bipush 40, 2)) (by decide +kernel), ?_⟩
  refine List.forall_mem_cons.mpr ⟨snd_callS mok_114 wd_378 wd_137 (by decide +kernel : decode cX6_harm 4 = .ok (.invokestatic 82, 3)), ?_⟩
  refine List.forall_mem_cons.mpr ⟨snd_if_eq (by decide +kernel : decode cX6_harm 7 = .ok (.ifCond .eq 12, 3)) (by decide +kernel), ?_⟩
  refine List.forall_mem_cons.mpr ⟨snd_iload_n (by decide +kernel : decode cX6_harm 10 = .ok (.iload_n 2, 1)) rfl, ?_⟩
  refine List.forall_mem_cons.mpr ⟨snd_iconst (by decide +kernel : decode cX6_harm 11 = .ok (.iconst 0, 1)) (by decide +kernel), ?_⟩
  refine List.forall_mem_cons.mpr ⟨snd_iconst (by decide +kernel : decode cX6_harm 12 = .ok (.iconst 1, 1)) (by decide +kernel), ?_⟩
  refine List.forall_mem_cons.mpr ⟨snd_callS mok_114 wd_378 wd_137 (by decide +kernel : decode cX6_harm 13 = .ok (.invokestatic 82, 3)), ?_⟩
  refine List.forall_mem_cons.mpr ⟨snd_if_ne (by decide +kernel : decode cX6_harm 16 = .ok (.ifCond .ne 5, 3)) (by decide +kernel), ?_⟩
  refine List.forall_mem_cons.mpr ⟨snd_iconst (by decide +kernel : decode cX6_harm 19 = .ok (.iconst (-1), 1)) (by decide +kernel), ?_⟩
  refine List.forall_mem_cons.mpr ⟨snd_iret (by decide +kernel : decode cX6_harm 20 = .ok (.ireturn, 1)), ?_⟩
  refine List.forall_mem_cons.mpr ⟨snd_aload_n (by decide +kernel : decode cX6_harm 21 = .ok (.aload_n 0, 1)) rfl, ?_⟩
  refine List.forall_mem_cons.mpr ⟨snd_get fl_6_48 (by decide +kernel : decode cX6_harm 22 = .ok (.getfield 48, 3)), ?_⟩
  refine List.forall_mem_cons.mpr ⟨snd_aload_n (by decide +kernel : decode cX6_harm 25 = .ok (.aload_n 0, 1)) rfl, ?_⟩
  refine List.forall_mem_cons.mpr ⟨snd_get fl_6_19 (by decide +kernel : decode cX6_harm 26 = .ok (.getfield 19, 3)), ?_⟩
  refine List.forall_mem_cons.mpr ⟨snd_iload_n (by decide +kernel : decode cX6_harm 29 = .ok (.iload_n 1, 1)) rfl, ?_⟩
  refine List.forall_mem_cons.mpr ⟨snd_iload_n (by decide +kernel : decode cX6_harm 30 = .ok (.iload_n 2, 1)) rfl, ?_⟩
  refine List.forall_mem_cons.mpr ⟨snd_if_ne (by decide +kernel : decode cX6_harm 31 = .ok (.ifCond .ne 7, 3)) (by decide +kernel), ?_⟩
  refine List.forall_mem_cons.mpr ⟨snd_iconst (by decide +kernel : decode cX6_harm 34 = .ok (.iconst 1, 1)) (by decide +kernel), ?_⟩
  refine List.forall_mem_cons.mpr ⟨snd_goto (by decide +kernel : decode cX6_harm 35 = .ok (.goto 4, 3)) (by decide +kernel), ?_⟩
  refine List.forall_mem_cons.mpr ⟨snd_iconst (by decide +kernel : decode cX6_harm 38 = .ok (.iconst 0, 1)) (by decide +kernel), ?_⟩
  refine List.forall_mem_cons.mpr ⟨snd_callV mok_61 wd_467 wd_470 wd_471 rfl rfl (by decide +kernel : decode cX6_harm 39 = .ok (.invokevirtual 178, 3)), ?_⟩
  refine List.forall_mem_cons.mpr ⟨snd_iret (by decide +kernel : decode cX6_harm 42 = .ok (.ireturn, 1)), ?_⟩
  exact fun _ h => absurd h List.not_mem_nil
theorem m_X6_harm : ∀ q ∈ k_X6_harm, Mono q.2 := by
  unfold k_X6_harm
  refine List.forall_mem_cons.mpr ⟨mo_iload _ _, ?_⟩
  refine List.forall_mem_cons.mpr ⟨mo_push _ _, ?_⟩
  refine List.forall_mem_cons.mpr ⟨mo_push _ _, ?_⟩
  refine List.forall_mem_cons.mpr ⟨mo_call _ _ _, ?_⟩
  refine List.forall_mem_cons.mpr ⟨mo_if _ _ _, ?_⟩
  refine List.forall_mem_cons.mpr ⟨mo_iload _ _, ?_⟩
  refine List.forall_mem_cons.mpr ⟨mo_push _ _, ?_⟩
  refine List.forall_mem_cons.mpr ⟨mo_push _ _, ?_⟩
  refine List.forall_mem_cons.mpr ⟨mo_call _ _ _, ?_⟩
  refine List.forall_mem_cons.mpr ⟨mo_if _ _ _, ?_⟩
  refine List.forall_mem_cons.mpr ⟨mo_push _ _, ?_⟩
  refine List.forall_mem_cons.mpr ⟨mo_iret, ?_⟩
  refine List.forall_mem_cons.mpr ⟨mo_aload _ _, ?_⟩
  refine List.forall_mem_cons.mpr ⟨mo_get _ _, ?_⟩
  refine List.forall_mem_cons.mpr ⟨mo_aload _ _, ?_⟩
  refine List.forall_mem_cons.mpr ⟨mo_get _ _, ?_⟩
  refine List.forall_mem_cons.mpr ⟨mo_iload _ _, ?_⟩
  refine List.forall_mem_cons.mpr ⟨mo_iload _ _, ?_⟩
  refine List.forall_mem_cons.mpr ⟨mo_if _ _ _, ?_⟩
  refine List.forall_mem_cons.mpr ⟨mo_push _ _, ?_⟩
  refine List.forall_mem_cons.mpr ⟨mo_goto _, ?_⟩
  refine List.forall_mem_cons.mpr ⟨mo_push _ _, ?_⟩
  refine List.forall_mem_cons.mpr ⟨mo_call _ _ _, ?_⟩
  refine List.forall_mem_cons.mpr ⟨mo_iret, ?_⟩
  exact fun _ h => absurd h List.not_mem_nil
def k_X6_seen : List (Nat × aI) := [
  (0, i_iload 1 1),
  (1, i_push (.int 0) 1),
  (2, i_push (.int 20) 2),
  (4, i_callS 114 3),
  (7, i_if (fun x => x = 0) 40 10),
  (10, i_aload 0 1),
  (11, i_get 6 1),
  (14, i_iload 2 1),
  (15, i_callV 28 2 2),
  (18, i_if (fun x => x = 0) 40 21),
  (21, i_aload 0 1),
  (22, i_get 6 1),
  (25, i_iload 3 1),
  (26, i_callV 29 2 2),
  (29, i_if (fun x => x = 0) 40 32),
  (32, i_iload 4 2),
  (34, i_callS 113 1),
  (37, i_if (fun x => x = 0) 40 42),
  (40, i_push (.int (-1)) 1),
  (41, i_iret),
  (42, i_aload 0 1),
  (43, i_get 6 5),
  (46, i_iload 1 1),
  (47, i_iload 2 1),
  (48, i_iload 3 1),
  (49, i_iload 4 2),
  (51, i_callV 75 5 5),
  (54, i_if (fun x => x = 0) 67 57),
  (57, i_aload 0 1),
  (58, i_get 6 5),
  (61, i_callV 73 1 5),
  (64, i_goto 69),
  (67, i_push (.int (-3)) 2),
  (69, i_iret)]
theorem s_X6_seen : ∀ q ∈ k_X6_seen, Snd RX6 cX6_seen (some .int) false q.1 q.2 := by
  unfold k_X6_seen
  refine List.forall_mem_cons.mpr ⟨snd_iload_n (by decide +kernel : decode cX6_seen 0 = .ok (.iload_n 1, 1)) rfl, ?_⟩
  refine List.forall_mem_cons.mpr ⟨snd_iconst (by decide +kernel : decode cX6_seen 1 = .ok (.iconst 0, 1)) (by decide +kernel), ?_⟩
  refine List.forall_mem_cons.mpr ⟨snd_bipush (by decide +kernel : decode cX6_seen 2 = .ok (.bipush 20, 2)) (by decide +kernel), ?_⟩
  refine List.forall_mem_cons.mpr ⟨snd_callS mok_114 wd_378 wd_137 (by decide +kernel : decode cX6_seen 4 = .ok (.invokestatic 82, 3)), ?_⟩
  refine List.forall_mem_cons.mpr ⟨snd_if_eq (by decide +kernel : decode cX6_seen 7 = .ok (.ifCond .eq 33, 3)) (by decide +kernel), ?_⟩
  refine List.forall_mem_cons.mpr ⟨snd_aload_n (by decide +kernel : decode cX6_seen 10 = .ok (.aload_n 0, 1)) rfl, ?_⟩
  refine List.forall_mem_cons.mpr ⟨snd_get fl_6_19 (by decide +kernel : decode cX6_seen 11 = .ok (.getfield 19, 3)), ?_⟩
  refine List.forall_mem_cons.mpr ⟨snd_iload_n (by decide +kernel : decode cX6_seen 14 = .ok (.iload_n 2, 1)) rfl, ?_⟩
  refine List.forall_mem_cons.mpr ⟨snd_callV mok_28 wd_396 wd_153 wd_154 rfl rfl (by decide +kernel : decode cX6_seen 15 = .ok (.invokevirtual 96, 3)), ?_⟩
  refine List.forall_mem_cons.mpr ⟨snd_if_eq (by decide +kernel : decode cX6_seen 18 = .ok (.ifCond .eq 22, 3)) (by decide +kernel), ?_⟩
  refine List.forall_mem_cons.mpr ⟨snd_aload_n (by decide +kernel : decode cX6_seen 21 = .ok (.aload_n 0, 1)) rfl, ?_⟩
  refine List.forall_mem_cons.mpr ⟨snd_get fl_6_19 (by decide +kernel : decode cX6_seen 22 = .ok (.getfield 19, 3)), ?_⟩
  refine List.forall_mem_cons.mpr ⟨snd_iload_n (by decide +kernel : decode cX6_seen 25 = .ok (.iload_n 3, 1)) rfl, ?_⟩
  refine List.forall_mem_cons.mpr ⟨snd_callV mok_29 wd_397 wd_164 wd_165 rfl rfl (by decide +kernel : decode cX6_seen 26 = .ok (.invokevirtual 99, 3)), ?_⟩
  refine List.forall_mem_cons.mpr ⟨snd_if_eq (by decide +kernel : decode cX6_seen 29 = .ok (.ifCond .eq 11, 3)) (by decide +kernel), ?_⟩
  refine List.forall_mem_cons.mpr ⟨snd_iload (by decide +kernel : decode cX6_seen 32 = .ok (.iload 4, 2)), ?_⟩
  refine List.forall_mem_cons.mpr ⟨snd_callS mok_113 wd_422 wd_168 (by decide +kernel : decode cX6_seen 34 = .ok (.invokestatic 131, 3)), ?_⟩
  refine List.forall_mem_cons.mpr ⟨snd_if_ne (by decide +kernel : decode cX6_seen 37 = .ok (.ifCond .ne 5, 3)) (by decide +kernel), ?_⟩
  refine List.forall_mem_cons.mpr ⟨snd_iconst (by decide +kernel : decode cX6_seen 40 = .ok (.iconst (-1), 1)) (by decide +kernel), ?_⟩
  refine List.forall_mem_cons.mpr ⟨snd_iret (by decide +kernel : decode cX6_seen 41 = .ok (.ireturn, 1)), ?_⟩
  refine List.forall_mem_cons.mpr ⟨snd_aload_n (by decide +kernel : decode cX6_seen 42 = .ok (.aload_n 0, 1)) rfl, ?_⟩
  refine List.forall_mem_cons.mpr ⟨snd_get fl_6_41 (by decide +kernel : decode cX6_seen 43 = .ok (.getfield 41, 3)), ?_⟩
  refine List.forall_mem_cons.mpr ⟨snd_iload_n (by decide +kernel : decode cX6_seen 46 = .ok (.iload_n 1, 1)) rfl, ?_⟩
  refine List.forall_mem_cons.mpr ⟨snd_iload_n (by decide +kernel : decode cX6_seen 47 = .ok (.iload_n 2, 1)) rfl, ?_⟩
  refine List.forall_mem_cons.mpr ⟨snd_iload_n (by decide +kernel : decode cX6_seen 48 = .ok (.iload_n 3, 1)) rfl, ?_⟩
  refine List.forall_mem_cons.mpr ⟨snd_iload (by decide +kernel : decode cX6_seen 49 = .ok (.iload 4, 2)), ?_⟩
  refine List.forall_mem_cons.mpr ⟨snd_callV mok_75 wd_472 wd_475 wd_476 rfl rfl (by decide +kernel : decode cX6_seen 51 = .ok (.invokevirtual 181, 3)), ?_⟩
  refine List.forall_mem_cons.mpr ⟨snd_if_eq (by decide +kernel : decode cX6_seen 54 = .ok (.ifCond .eq 13, 3)) (by decide +kernel), ?_⟩
  refine List.forall_mem_cons.mpr ⟨snd_aload_n (by decide +kernel : decode cX6_seen 57 = .ok (.aload_n 0, 1)) rfl, ?_⟩
  refine List.forall_mem_cons.mpr ⟨snd_get fl_6_41 (by decide +kernel : decode cX6_seen 58 = .ok (.getfield 41, 3)), ?_⟩
  refine List.forall_mem_cons.mpr ⟨snd_callV mok_73 wd_477 wd_480 wd_481 rfl rfl (by decide +kernel : decode cX6_seen 61 = .ok (.invokevirtual 185, 3)), ?_⟩
  refine List.forall_mem_cons.mpr ⟨snd_goto (by decide +kernel : decode cX6_seen 64 = .ok (.goto 5, 3)) (by decide +kernel), ?_⟩
  refine List.forall_mem_cons.mpr ⟨snd_bipush (by decide +kernel : decode cX6_seen 67 = .ok (.bipush (-3), 2)) (by decide +kernel), ?_⟩
  refine List.forall_mem_cons.mpr ⟨snd_iret (by decide +kernel : decode cX6_seen 69 = .ok (.ireturn, 1)), ?_⟩
  exact fun _ h => absurd h List.not_mem_nil
theorem m_X6_seen : ∀ q ∈ k_X6_seen, Mono q.2 := by
  unfold k_X6_seen
  refine List.forall_mem_cons.mpr ⟨mo_iload _ _, ?_⟩
  refine List.forall_mem_cons.mpr ⟨mo_push _ _, ?_⟩
  refine List.forall_mem_cons.mpr ⟨mo_push _ _, ?_⟩
  refine List.forall_mem_cons.mpr ⟨mo_call _ _ _, ?_⟩
  refine List.forall_mem_cons.mpr ⟨mo_if _ _ _, ?_⟩
  refine List.forall_mem_cons.mpr ⟨mo_aload _ _, ?_⟩
  refine List.forall_mem_cons.mpr ⟨mo_get _ _, ?_⟩
  refine List.forall_mem_cons.mpr ⟨mo_iload _ _, ?_⟩
  refine List.forall_mem_cons.mpr ⟨mo_call _ _ _, ?_⟩
  refine List.forall_mem_cons.mpr ⟨mo_if _ _ _, ?_⟩
  refine List.forall_mem_cons.mpr ⟨mo_aload _ _, ?_⟩
  refine List.forall_mem_cons.mpr ⟨mo_get _ _, ?_⟩
  refine List.forall_mem_cons.mpr ⟨mo_iload _ _, ?_⟩
  refine List.forall_mem_cons.mpr ⟨mo_call _ _ _, ?_⟩
  refine List.forall_mem_cons.mpr ⟨mo_if _ _ _, ?_⟩
  refine List.forall_mem_cons.mpr ⟨mo_iload _ _, ?_⟩
  refine List.forall_mem_cons.mpr ⟨mo_call _ _ _, ?_⟩
  refine List.forall_mem_cons.mpr ⟨mo_if _ _ _, ?_⟩
  refine List.forall_mem_cons.mpr ⟨mo_push _ _, ?_⟩
  refine List.forall_mem_cons.mpr ⟨mo_iret, ?_⟩
  refine List.forall_mem_cons.mpr ⟨mo_aload _ _, ?_⟩
  refine List.forall_mem_cons.mpr ⟨mo_get _ _, ?_⟩
  refine List.forall_mem_cons.mpr ⟨mo_iload _ _, ?_⟩
  refine List.forall_mem_cons.mpr ⟨mo_iload _ _, ?_⟩
  refine List.forall_mem_cons.mpr ⟨mo_iload _ _, ?_⟩
  refine List.forall_mem_cons.mpr ⟨mo_iload _ _, ?_⟩
  refine List.forall_mem_cons.mpr ⟨mo_call _ _ _, ?_⟩
  refine List.forall_mem_cons.mpr ⟨mo_if _ _ _, ?_⟩
  refine List.forall_mem_cons.mpr ⟨mo_aload _ _, ?_⟩
  refine List.forall_mem_cons.mpr ⟨mo_get _ _, ?_⟩
  refine List.forall_mem_cons.mpr ⟨mo_call _ _ _, ?_⟩
  refine List.forall_mem_cons.mpr ⟨mo_goto _, ?_⟩
  refine List.forall_mem_cons.mpr ⟨mo_push _ _, ?_⟩
  refine List.forall_mem_cons.mpr ⟨mo_iret, ?_⟩
  exact fun _ h => absurd h List.not_mem_nil
def k_X6_forget : List (Nat × aI) := [
  (0, i_aload 0 1),
  (1, i_get 6 5),
  (4, i_callV 73 1 5),
  (7, i_istore 1 1),
  (8, i_aload 0 1),
  (9, i_get 6 5),
  (12, i_callV 74 1 5),
  (15, i_iload 1 1),
  (16, i_iret)]
theorem s_X6_forget : ∀ q ∈ k_X6_forget, Snd RX6 cX6_forget (some .int) false q.1 q.2 := by
  unfold k_X6_forget
  refine List.forall_mem_cons.mpr ⟨snd_aload_n (by decide +kernel : decode cX6_forget 0 = .ok (.aload_n 0, 1)) rfl, ?_⟩
  refine List.forall_mem_cons.mpr ⟨snd_get fl_6_41 (by decide +kernel : decode cX6_forget 1 = .ok (.getfield 41, 3)), ?_⟩
  refine List.forall_mem_cons.mpr ⟨snd_callV mok_73 wd_477 wd_480 wd_481 rfl rfl (by decide +kernel : decode cX6_forget 4 = .ok (.invokevirtual 185, 3)), ?_⟩
  refine List.forall_mem_cons.mpr ⟨snd_istore_n (by decide +kernel : decode cX6_forget 7 = .ok (.istore_n 1, 1)) rfl, ?_⟩
  refine List.forall_mem_cons.mpr ⟨snd_aload_n (by decide +kernel : decode cX6_forget 8 = .ok (.aload_n 0, 1)) rfl, ?_⟩
  refine List.forall_mem_cons.mpr ⟨snd_get fl_6_41 (by decide +kernel : decode cX6_forget 9 = .ok (.getfield 41, 3)), ?_⟩
  refine List.forall_mem_cons.mpr ⟨snd_callV mok_74 wd_391 wd_394 wd_395 rfl rfl (by decide +kernel : decode cX6_forget 12 = .ok (.invokevirtual 95, 3)), ?_⟩
  refine List.forall_mem_cons.mpr ⟨snd_iload_n (by decide +kernel : decode cX6_forget 15 = .ok (.iload_n 1, 1)) rfl, ?_⟩
  refine List.forall_mem_cons.mpr ⟨snd_iret (by decide +kernel : decode cX6_forget 16 = .ok (.ireturn, 1)), ?_⟩
  exact fun _ h => absurd h List.not_mem_nil
theorem m_X6_forget : ∀ q ∈ k_X6_forget, Mono q.2 := by
  unfold k_X6_forget
  refine List.forall_mem_cons.mpr ⟨mo_aload _ _, ?_⟩
  refine List.forall_mem_cons.mpr ⟨mo_get _ _, ?_⟩
  refine List.forall_mem_cons.mpr ⟨mo_call _ _ _, ?_⟩
  refine List.forall_mem_cons.mpr ⟨mo_istore _ _, ?_⟩
  refine List.forall_mem_cons.mpr ⟨mo_aload _ _, ?_⟩
  refine List.forall_mem_cons.mpr ⟨mo_get _ _, ?_⟩
  refine List.forall_mem_cons.mpr ⟨mo_call _ _ _, ?_⟩
  refine List.forall_mem_cons.mpr ⟨mo_iload _ _, ?_⟩
  refine List.forall_mem_cons.mpr ⟨mo_iret, ?_⟩
  exact fun _ h => absurd h List.not_mem_nil
def k_X6_kinds : List (Nat × aI) := [
  (0, i_aload 0 1),
  (1, i_get 6 1),
  (4, i_iload 1 1),
  (5, i_callV 28 2 2),
  (8, i_if (fun x => x = 0) 11 13),
  (11, i_push (.int (-1)) 1),
  (12, i_iret),
  (13, i_push (.int 0) 1),
  (14, i_istore 2 1),
  (15, i_push (.int 0) 1),
  (16, i_istore 3 1),
  (17, i_iload 3 1),
  (18, i_push (.int 4) 1),
  (19, i_icmp (fun x y => x < y) 22 68),
  (22, i_aload 0 1),
  (23, i_get 6 2),
  (26, i_aload 0 1),
  (27, i_get 6 1),
  (30, i_callV 22 2 2),
  (33, i_aload 0 1),
  (34, i_get 6 2),
  (37, i_iload 1 1),
  (38, i_iload 3 1),
  (39, i_callV 34 3 2),
  (42, i_aload 0 1),
  (43, i_get 6 5),
  (46, i_aload 0 1),
  (47, i_get 6 2),
  (50, i_callV 76 2 5),
  (53, i_if (fun x => x = 0) 62 56),
  (56, i_iload 2 1),
  (57, i_push (.int 1) 1),
  (58, i_iload 3 1),
  (59, i_bin (fun x y => x <<< (y &&& 31))),
  (60, i_bin (fun x y => x ||| y)),
  (61, i_istore 2 1),
  (62, i_iinc 3 1),
  (65, i_goto 17),
  (68, i_iload 2 1),
  (69, i_iret)]
theorem s_X6_kinds : ∀ q ∈ k_X6_kinds, Snd RX6 cX6_kinds (some .int) false q.1 q.2 := by
  unfold k_X6_kinds
  refine List.forall_mem_cons.mpr ⟨snd_aload_n (by decide +kernel : decode cX6_kinds 0 = .ok (.aload_n 0, 1)) rfl, ?_⟩
  refine List.forall_mem_cons.mpr ⟨snd_get fl_6_19 (by decide +kernel : decode cX6_kinds 1 = .ok (.getfield 19, 3)), ?_⟩
  refine List.forall_mem_cons.mpr ⟨snd_iload_n (by decide +kernel : decode cX6_kinds 4 = .ok (.iload_n 1, 1)) rfl, ?_⟩
  refine List.forall_mem_cons.mpr ⟨snd_callV mok_28 wd_396 wd_153 wd_154 rfl rfl (by decide +kernel : decode cX6_kinds 5 = .ok (.invokevirtual 96, 3)), ?_⟩
  refine List.forall_mem_cons.mpr ⟨snd_if_ne (by decide +kernel : decode cX6_kinds 8 = .ok (.ifCond .ne 5, 3)) (by decide +kernel), ?_⟩
  refine List.forall_mem_cons.mpr ⟨snd_iconst (by decide +kernel : decode cX6_kinds 11 = .ok (.iconst (-1), 1)) (by decide +kernel), ?_⟩
  refine List.forall_mem_cons.mpr ⟨snd_iret (by decide +kernel : decode cX6_kinds 12 = .ok (.ireturn, 1)), ?_⟩
  refine List.forall_mem_cons.mpr ⟨snd_iconst (by decide +kernel : decode cX6_kinds 13 = .ok (.iconst 0, 1)) (by decide +kernel), ?_⟩
  refine List.forall_mem_cons.mpr ⟨snd_istore_n (by decide +kernel : decode cX6_kinds 14 = .ok (.istore_n 2, 1)) rfl, ?_⟩
  refine List.forall_mem_cons.mpr ⟨snd_iconst (by decide +kernel : decode cX6_kinds 15 = .ok (.iconst 0, 1)) (by decide +kernel), ?_⟩
  refine List.forall_mem_cons.mpr ⟨snd_istore_n (by decide +kernel : decode cX6_kinds 16 = .ok (.istore_n 3, 1)) rfl, ?_⟩
  refine List.forall_mem_cons.mpr ⟨snd_iload_n (by decide +kernel : decode cX6_kinds 17 = .ok (.iload_n 3, 1)) rfl, ?_⟩
  refine List.forall_mem_cons.mpr ⟨snd_iconst (by decide +kernel : decode cX6_kinds 18 = .ok (.iconst 4, 1)) (by decide +kernel), ?_⟩
  refine List.forall_mem_cons.mpr ⟨snd_icmp_ge (by decide +kernel : decode cX6_kinds 19 = .ok (.if_icmp .ge 49, 3)) (by decide +kernel), ?_⟩
  refine List.forall_mem_cons.mpr ⟨snd_aload_n (by decide +kernel : decode cX6_kinds 22 = .ok (.aload_n 0, 1)) rfl, ?_⟩
  refine List.forall_mem_cons.mpr ⟨snd_get fl_6_23 (by decide +kernel : decode cX6_kinds 23 = .ok (.getfield 23, 3)), ?_⟩
  refine List.forall_mem_cons.mpr ⟨snd_aload_n (by decide +kernel : decode cX6_kinds 26 = .ok (.aload_n 0, 1)) rfl, ?_⟩
  refine List.forall_mem_cons.mpr ⟨snd_get fl_6_19 (by decide +kernel : decode cX6_kinds 27 = .ok (.getfield 19, 3)), ?_⟩
  refine List.forall_mem_cons.mpr ⟨snd_callV mok_22 wd_385 wd_38 wd_39 rfl rfl (by decide +kernel : decode cX6_kinds 30 = .ok (.invokevirtual 90, 3)), ?_⟩
  refine List.forall_mem_cons.mpr ⟨snd_aload_n (by decide +kernel : decode cX6_kinds 33 = .ok (.aload_n 0, 1)) rfl, ?_⟩
  refine List.forall_mem_cons.mpr ⟨snd_get fl_6_23 (by decide +kernel : decode cX6_kinds 34 = .ok (.getfield 23, 3)), ?_⟩
  refine List.forall_mem_cons.mpr ⟨snd_iload_n (by decide +kernel : decode cX6_kinds 37 = .ok (.iload_n 1, 1)) rfl, ?_⟩
  refine List.forall_mem_cons.mpr ⟨snd_iload_n (by decide +kernel : decode cX6_kinds 38 = .ok (.iload_n 3, 1)) rfl, ?_⟩
  refine List.forall_mem_cons.mpr ⟨snd_callV mok_34 wd_482 wd_485 wd_486 rfl rfl (by decide +kernel : decode cX6_kinds 39 = .ok (.invokevirtual 186, 3)), ?_⟩
  refine List.forall_mem_cons.mpr ⟨snd_aload_n (by decide +kernel : decode cX6_kinds 42 = .ok (.aload_n 0, 1)) rfl, ?_⟩
  refine List.forall_mem_cons.mpr ⟨snd_get fl_6_41 (by decide +kernel : decode cX6_kinds 43 = .ok (.getfield 41, 3)), ?_⟩
  refine List.forall_mem_cons.mpr ⟨snd_aload_n (by decide +kernel : decode cX6_kinds 46 = .ok (.aload_n 0, 1)) rfl, ?_⟩
  refine List.forall_mem_cons.mpr ⟨snd_get fl_6_23 (by decide +kernel : decode cX6_kinds 47 = .ok (.getfield 23, 3)), ?_⟩
  refine List.forall_mem_cons.mpr ⟨snd_callV mok_76 wd_487 wd_490 wd_491 rfl rfl (by decide +kernel : decode cX6_kinds 50 = .ok (.invokevirtual 189, 3)), ?_⟩
  refine List.forall_mem_cons.mpr ⟨snd_if_eq (by decide +kernel : decode cX6_kinds 53 = .ok (.ifCond .eq 9, 3)) (by decide +kernel), ?_⟩
  refine List.forall_mem_cons.mpr ⟨snd_iload_n (by decide +kernel : decode cX6_kinds 56 = .ok (.iload_n 2, 1)) rfl, ?_⟩
  refine List.forall_mem_cons.mpr ⟨snd_iconst (by decide +kernel : decode cX6_kinds 57 = .ok (.iconst 1, 1)) (by decide +kernel), ?_⟩
  refine List.forall_mem_cons.mpr ⟨snd_iload_n (by decide +kernel : decode cX6_kinds 58 = .ok (.iload_n 3, 1)) rfl, ?_⟩
  refine List.forall_mem_cons.mpr ⟨snd_ishl (by decide +kernel : decode cX6_kinds 59 = .ok (.ishl, 1)), ?_⟩
  refine List.forall_mem_cons.mpr ⟨snd_ior (by decide +kernel : decode cX6_kinds 60 = .ok (.ior, 1)), ?_⟩
  refine List.forall_mem_cons.mpr ⟨snd_istore_n (by decide +kernel : decode cX6_kinds 61 = .ok (.istore_n 2, 1)) rfl, ?_⟩
  refine List.forall_mem_cons.mpr ⟨snd_iinc (by decide +kernel : decode cX6_kinds 62 = .ok (.iinc 3 1, 3)) (by decide +kernel), ?_⟩
  refine List.forall_mem_cons.mpr ⟨snd_goto (by decide +kernel : decode cX6_kinds 65 = .ok (.goto (-48), 3)) (by decide +kernel), ?_⟩
  refine List.forall_mem_cons.mpr ⟨snd_iload_n (by decide +kernel : decode cX6_kinds 68 = .ok (.iload_n 2, 1)) rfl, ?_⟩
  refine List.forall_mem_cons.mpr ⟨snd_iret (by decide +kernel : decode cX6_kinds 69 = .ok (.ireturn, 1)), ?_⟩
  exact fun _ h => absurd h List.not_mem_nil
theorem m_X6_kinds : ∀ q ∈ k_X6_kinds, Mono q.2 := by
  unfold k_X6_kinds
  refine List.forall_mem_cons.mpr ⟨mo_aload _ _, ?_⟩
  refine List.forall_mem_cons.mpr ⟨mo_get _ _, ?_⟩
  refine List.forall_mem_cons.mpr ⟨mo_iload _ _, ?_⟩
  refine List.forall_mem_cons.mpr ⟨mo_call _ _ _, ?_⟩
  refine List.forall_mem_cons.mpr ⟨mo_if _ _ _, ?_⟩
  refine List.forall_mem_cons.mpr ⟨mo_push _ _, ?_⟩
  refine List.forall_mem_cons.mpr ⟨mo_iret, ?_⟩
  refine List.forall_mem_cons.mpr ⟨mo_push _ _, ?_⟩
  refine List.forall_mem_cons.mpr ⟨mo_istore _ _, ?_⟩
  refine List.forall_mem_cons.mpr ⟨mo_push _ _, ?_⟩
  refine List.forall_mem_cons.mpr ⟨mo_istore _ _, ?_⟩
  refine List.forall_mem_cons.mpr ⟨mo_iload _ _, ?_⟩
  refine List.forall_mem_cons.mpr ⟨mo_push _ _, ?_⟩
  refine List.forall_mem_cons.mpr ⟨mo_icmp _ _ _, ?_⟩
  refine List.forall_mem_cons.mpr ⟨mo_aload _ _, ?_⟩
  refine List.forall_mem_cons.mpr ⟨mo_get _ _, ?_⟩
  refine List.forall_mem_cons.mpr ⟨mo_aload _ _, ?_⟩
  refine List.forall_mem_cons.mpr ⟨mo_get _ _, ?_⟩
  refine List.forall_mem_cons.mpr ⟨mo_call _ _ _, ?_⟩
  refine List.forall_mem_cons.mpr ⟨mo_aload _ _, ?_⟩
  refine List.forall_mem_cons.mpr ⟨mo_get _ _, ?_⟩
  refine List.forall_mem_cons.mpr ⟨mo_iload _ _, ?_⟩
  refine List.forall_mem_cons.mpr ⟨mo_iload _ _, ?_⟩
  refine List.forall_mem_cons.mpr ⟨mo_call _ _ _, ?_⟩
  refine List.forall_mem_cons.mpr ⟨mo_aload _ _, ?_⟩
  refine List.forall_mem_cons.mpr ⟨mo_get _ _, ?_⟩
  refine List.forall_mem_cons.mpr ⟨mo_aload _ _, ?_⟩
  refine List.forall_mem_cons.mpr ⟨mo_get _ _, ?_⟩
  refine List.forall_mem_cons.mpr ⟨mo_call _ _ _, ?_⟩
  refine List.forall_mem_cons.mpr ⟨mo_if _ _ _, ?_⟩
  refine List.forall_mem_cons.mpr ⟨mo_iload _ _, ?_⟩
  refine List.forall_mem_cons.mpr ⟨mo_push _ _, ?_⟩
  refine List.forall_mem_cons.mpr ⟨mo_iload _ _, ?_⟩
  refine List.forall_mem_cons.mpr ⟨mo_bin _, ?_⟩
  refine List.forall_mem_cons.mpr ⟨mo_bin _, ?_⟩
  refine List.forall_mem_cons.mpr ⟨mo_istore _ _, ?_⟩
  refine List.forall_mem_cons.mpr ⟨mo_iinc _ _, ?_⟩
  refine List.forall_mem_cons.mpr ⟨mo_goto _, ?_⟩
  refine List.forall_mem_cons.mpr ⟨mo_iload _ _, ?_⟩
  refine List.forall_mem_cons.mpr ⟨mo_iret, ?_⟩
  exact fun _ h => absurd h List.not_mem_nil
