def k_X7_common : List (Nat × aI) := [
  (0, i_lload 0 1),
  (1, i_lstore 4 2),
  (3, i_lload 2 1),
  (4, i_lstore 6 2),
  (6, i_lload 6 2),
  (8, i_push (.long 0) 1),
  (9, i_lcmp),
  (10, i_if (fun x => x = 0) 31 13),
  (13, i_lload 4 2),
  (15, i_lload 6 2),
  (17, i_ldiv (fun x y => x - x / y * y)),
  (18, i_lstore 8 2),
  (20, i_lload 6 2),
  (22, i_lstore 4 2),
  (24, i_lload 8 2),
  (26, i_lstore 6 2),
  (28, i_goto 6),
  (31, i_lload 4 2),
  (33, i_lret)]
theorem s_X7_common : ∀ q ∈ k_X7_common, Snd RX7 cX7_common (some .long) false q.1 q.2 := by
  unfold k_X7_common
  refine List.forall_mem_cons.mpr ⟨snd_lload_n (by decide +kernel : decode cX7_common 0 = .ok (.lload_n 0, 1)) rfl, ?_⟩
  refine List.forall_mem_cons.mpr ⟨snd_lstore (by decide +kernel : decode cX7_common 1 = .ok (.lstore 4, 2)), ?_⟩
  refine List.forall_mem_cons.mpr ⟨snd_lload_n (by decide +kernel : decode cX7_common 3 = .ok (.lload_n 2, 1)) rfl, ?_⟩
  refine List.forall_mem_cons.mpr ⟨snd_lstore (by decide +kernel : decode cX7_common 4 = .ok (.lstore 6, 2)), ?_⟩
  refine List.forall_mem_cons.mpr ⟨snd_lload (by decide +kernel : decode cX7_common 6 = .ok (.lload 6, 2)), ?_⟩
  refine List.forall_mem_cons.mpr ⟨snd_lconst (by decide +kernel : decode cX7_common 8 = .ok (.lconst 0, 1)) (by decide +kernel), ?_⟩
  refine List.forall_mem_cons.mpr ⟨snd_lcmp (by decide +kernel : decode cX7_common 9 = .ok (.lcmp, 1)), ?_⟩
  refine List.forall_mem_cons.mpr ⟨snd_if_eq (by decide +kernel : decode cX7_common 10 = .ok (.ifCond .eq 21, 3)) (by decide +kernel), ?_⟩
  refine List.forall_mem_cons.mpr ⟨snd_lload (by decide +kernel : decode cX7_common 13 = .ok (.lload 4, 2)), ?_⟩
  refine List.forall_mem_cons.mpr ⟨snd_lload (by decide +kernel : decode cX7_common 15 = .ok (.lload 6, 2)), ?_⟩
  refine List.forall_mem_cons.mpr ⟨snd_lrem (by decide +kernel : decode cX7_common 17 = .ok (.lrem, 1)), ?_⟩
  refine List.forall_mem_cons.mpr ⟨snd_lstore (by decide +kernel : decode cX7_common 18 = .ok (.lstore 8, 2)), ?_⟩
  refine List.forall_mem_cons.mpr ⟨snd_lload (by decide +kernel : decode cX7_common 20 = .ok (.lload 6, 2)), ?_⟩
  refine List.forall_mem_cons.mpr ⟨snd_lstore (by decide +kernel : decode cX7_common 22 = .ok (.lstore 4, 2)), ?_⟩
  refine List.forall_mem_cons.mpr ⟨snd_lload (by decide +kernel : decode cX7_common 24 = .ok (.lload 8, 2)), ?_⟩
  refine List.forall_mem_cons.mpr ⟨snd_lstore (by decide +kernel : decode cX7_common 26 = .ok (.lstore 6, 2)), ?_⟩
  refine List.forall_mem_cons.mpr ⟨snd_goto (by decide +kernel : decode cX7_common 28 = .ok (.goto (-22), 3)) (by decide +kernel), ?_⟩
  refine List.forall_mem_cons.mpr ⟨snd_lload (by decide +kernel : decode cX7_common 31 = .ok (.lload 4, 2)), ?_⟩
  refine List.forall_mem_cons.mpr ⟨snd_lret (by decide +kernel : decode cX7_common 33 = .ok (.lreturn, 1)), ?_⟩
  exact fun _ h => absurd h List.not_mem_nil
theorem m_X7_common : ∀ q ∈ k_X7_common, Mono q.2 := by
  unfold k_X7_common
  refine List.forall_mem_cons.mpr ⟨mo_lload _ _, ?_⟩
  refine List.forall_mem_cons.mpr ⟨mo_lstore _ _, ?_⟩
  refine List.forall_mem_cons.mpr ⟨mo_lload _ _, ?_⟩
  refine List.forall_mem_cons.mpr ⟨mo_lstore _ _, ?_⟩
  refine List.forall_mem_cons.mpr ⟨mo_lload _ _, ?_⟩
  refine List.forall_mem_cons.mpr ⟨mo_push _ _, ?_⟩
  refine List.forall_mem_cons.mpr ⟨mo_lcmp, ?_⟩
  refine List.forall_mem_cons.mpr ⟨mo_if _ _ _, ?_⟩
  refine List.forall_mem_cons.mpr ⟨mo_lload _ _, ?_⟩
  refine List.forall_mem_cons.mpr ⟨mo_lload _ _, ?_⟩
  refine List.forall_mem_cons.mpr ⟨mo_ldiv _, ?_⟩
  refine List.forall_mem_cons.mpr ⟨mo_lstore _ _, ?_⟩
  refine List.forall_mem_cons.mpr ⟨mo_lload _ _, ?_⟩
  refine List.forall_mem_cons.mpr ⟨mo_lstore _ _, ?_⟩
  refine List.forall_mem_cons.mpr ⟨mo_lload _ _, ?_⟩
  refine List.forall_mem_cons.mpr ⟨mo_lstore _ _, ?_⟩
  refine List.forall_mem_cons.mpr ⟨mo_goto _, ?_⟩
  refine List.forall_mem_cons.mpr ⟨mo_lload _ _, ?_⟩
  refine List.forall_mem_cons.mpr ⟨mo_lret, ?_⟩
  exact fun _ h => absurd h List.not_mem_nil
def k_X7_likely : List (Nat × aI) := [
  (0, i_iload 1 1),
  (1, i_push (.int 0) 1),
  (2, i_push (.int 8) 2),
  (4, i_callS 117 3),
  (7, i_if (fun x => x = 0) 49 10),
  (10, i_aload 0 1),
  (11, i_iload 2 1),
  (12, i_callV 123 2 7),
  (15, i_if (fun x => x = 0) 49 18),
  (18, i_iload 3 1),
  (19, i_push (.int 0) 1),
  (20, i_push (.int 9) 2),
  (22, i_callS 117 3),
  (25, i_if (fun x => x = 0) 49 28),
  (28, i_iload 4 2),
  (30, i_push (.int 0) 1),
  (31, i_push (.int 10) 2),
  (33, i_callS 117 3),
  (36, i_if (fun x => x = 0) 49 39),
  (39, i_iload 5 2),
  (41, i_push (.int 0) 1),
  (42, i_push (.int 1) 1),
  (43, i_callS 117 3),
  (46, i_if (fun x => x = 0) 49 51),
  (49, i_push (.int (-1)) 1),
  (50, i_iret),
  (51, i_push (.long 0) 1),
  (52, i_lstore 6 2),
  (54, i_push (.long 1) 1),
  (55, i_lstore 8 2),
  (57, i_push (.int 0) 1),
  (58, i_istore 10 2),
  (60, i_iload 10 2),
  (62, i_iload 1 1),
  (63, i_icmp (fun x y => x < y) 66 80),
  (66, i_lload 8 2),
  (68, i_push (.long 10) 3),
  (71, i_lbin (fun x y => x * y)),
  (72, i_lstore 8 2),
  (74, i_iinc 10 1),
  (77, i_goto 60),
  (80, i_push (.int 0) 1),
  (81, i_istore 10 2),
  (83, i_iload 10 2),
  (85, i_push (.int 1) 1),
  (86, i_iload 1 1),
  (87, i_bin (fun x y => x <<< (y &&& 31))),
  (88, i_icmp (fun x y => x < y) 91 196),
  (91, i_push (.long 1) 1),
  (92, i_lstore 11 2),
  (94, i_aload 0 1),
  (95, i_callV 156 1 7),
  (98, i_push (.int 0) 1),
  (99, i_istore 13 2),
  (101, i_iload 13 2),
  (103, i_iload 1 1),
  (104, i_icmp (fun x y => x < y) 107 165),
  (107, i_lload 11 2),
  (109, i_iload 10 2),
  (111, i_iload 13 2),
  (113, i_callS 118 2),
  (116, i_if (fun x => x = 0) 125 119),
  (119, i_iload 4 2),
  (121, i_i2l),
  (122, i_goto 131),
  (125, i_push (.int 10) 2),
  (127, i_iload 4 2),
  (129, i_bin (fun x y => x - y)),
  (130, i_i2l),
  (131, i_lbin (fun x y => x * y)),
  (132, i_lstore 11 2),
  (134, i_iload 10 2),
  (136, i_iload 13 2),
  (138, i_callS 118 2),
  (141, i_if (fun x => x = 0) 154 144),
  (144, i_aload 0 1),
  (145, i_aload 0 1),
  (146, i_get 7 0),
  (149, i_push (.int 1) 1),
  (150, i_bin (fun x y => x - y)),
  (151, i_callV 149 2 7),
  (154, i_aload 0 1),
  (155, i_callV 139 1 7),
  (158, i_pop),
  (159, i_iinc 13 1),
  (162, i_goto 101),
  (165, i_lload 6 2),
  (167, i_aload 0 1),
  (168, i_get 7 4),
  (171, i_iload 2 1),
  (172, i_iald),
  (173, i_iload 3 1),
  (174, i_icmp (fun x y => x = y) 177 182),
  (177, i_lload 11 2),
  (179, i_goto 183),
  (182, i_push (.long 0) 1),
  (183, i_lbin (fun x y => x + y)),
  (184, i_lstore 6 2),
  (186, i_aload 0 1),
  (187, i_callV 157 1 7),
  (190, i_iinc 10 1),
  (193, i_goto 83),
  (196, i_lload 6 2),
  (198, i_lload 8 2),
  (200, i_callS 175 2),
  (203, i_lstore 10 2),
  (205, i_iload 5 2),
  (207, i_if (fun x => x = 0) 210 218),
  (210, i_lload 6 2),
  (212, i_lload 10 2),
  (214, i_ldiv (fun x y => x / y)),
  (215, i_goto 223),
  (218, i_lload 8 2),
  (220, i_lload 10 2),
  (222, i_ldiv (fun x y => x / y)),
  (223, i_l2i),
  (224, i_iret)]
theorem s_X7_likely : ∀ q ∈ k_X7_likely, Snd RX7 cX7_likely (some .int) false q.1 q.2 := by
  unfold k_X7_likely
  refine List.forall_mem_cons.mpr ⟨snd_iload_n (by decide +kernel : decode cX7_likely 0 = .ok (.iload_n 1, 1)) rfl, ?_⟩
  refine List.forall_mem_cons.mpr ⟨snd_iconst (by decide +kernel : decode cX7_likely 1 = .ok (.iconst 0, 1)) (by decide +kernel), ?_⟩
  refine List.forall_mem_cons.mpr ⟨snd_bipush (by decide +kernel : decode cX7_likely 2 = .ok (.bipush 8, 2)) (by decide +kernel), ?_⟩
  refine List.forall_mem_cons.mpr ⟨snd_callS mok_117 wd_554 wd_557 (by decide +kernel : decode cX7_likely 4 = .ok (.invokestatic 75, 3)), ?_⟩
  refine List.forall_mem_cons.mpr ⟨snd_if_eq (by decide +kernel : decode cX7_likely 7 = .ok (.ifCond .eq 42, 3)) (by decide +kernel), ?_⟩
  refine List.forall_mem_cons.mpr ⟨snd_aload_n (by decide +kernel : decode cX7_likely 10 = .ok (.aload_n 0, 1)) rfl, ?_⟩
  refine List.forall_mem_cons.mpr ⟨snd_iload_n (by decide +kernel : decode cX7_likely 11 = .ok (.iload_n 2, 1)) rfl, ?_⟩
  refine List.forall_mem_cons.mpr ⟨snd_callV mok_123 wd_611 wd_614 wd_615 rfl rfl (by decide +kernel : decode cX7_likely 12 = .ok (.invokevirtual 134, 3)), ?_⟩
  refine List.forall_mem_cons.mpr ⟨snd_if_eq (by decide +kernel : decode cX7_likely 15 = .ok (.ifCond .eq 34, 3)) (by decide +kernel), ?_⟩
  refine List.forall_mem_cons.mpr ⟨snd_iload_n (by decide +kernel : decode cX7_likely 18 = .ok (.iload_n 3, 1)) rfl, ?_⟩
  refine List.forall_mem_cons.mpr ⟨snd_iconst (by decide +kernel : decode cX7_likely 19 = .ok (.iconst 0, 1)) (by decide +kernel), ?_⟩
  refine List.forall_mem_cons.mpr ⟨snd_bipush (by decide +kernel : decode cX7_likely 20 = .ok (.bipush 9, 2)) (by decide +kernel), ?_⟩
  refine List.forall_mem_cons.mpr ⟨snd_callS mok_117 wd_554 wd_557 (by decide +kernel : decode cX7_likely 22 = .ok (.invokestatic 75, 3)), ?_⟩
  refine List.forall_mem_cons.mpr ⟨snd_if_eq (by decide +kernel : decode cX7_likely 25 = .ok (.ifCond .eq 24, 3)) (by decide +kernel), ?_⟩
  refine List.forall_mem_cons.mpr ⟨snd_iload (by decide +kernel : decode cX7_likely 28 = .ok (.iload 4, 2)), ?_⟩
  refine List.forall_mem_cons.mpr ⟨snd_iconst (by decide +kernel : decode cX7_likely 30 = .ok (.iconst 0, 1)) (by decide +kernel), ?_⟩
  refine List.forall_mem_cons.mpr ⟨snd_bipush (by decide +kernel : decode cX7_likely 31 = .ok (.bipush 10, 2)) (by decide +kernel), ?_⟩
  refine List.forall_mem_cons.mpr ⟨snd_callS mok_117 wd_554 wd_557 (by decide +kernel : decode cX7_likely 33 = .ok (.invokestatic 75, 3)), ?_⟩
  refine List.forall_mem_cons.mpr ⟨snd_if_eq (by decide +kernel : decode cX7_likely 36 = .ok (.ifCond .eq 13, 3)) (by decide +kernel), ?_⟩
  refine List.forall_mem_cons.mpr ⟨snd_iload (by decide +kernel : decode cX7_likely 39 = .ok (.iload 5, 2)), ?_⟩
  refine List.forall_mem_cons.mpr ⟨snd_iconst (by decide +kernel : decode cX7_likely 41 = .ok (.iconst 0, 1)) (by decide +kernel), ?_⟩
  refine List.forall_mem_cons.mpr ⟨snd_iconst (by decide +kernel : decode cX7_likely 42 = .ok (.iconst 1, 1)) (by decide +kernel), ?_⟩
  refine List.forall_mem_cons.mpr ⟨snd_callS mok_117 wd_554 wd_557 (by decide +kernel : decode cX7_likely 43 = .ok (.invokestatic 75, 3)), ?_⟩
  refine List.forall_mem_cons.mpr ⟨snd_if_ne (by decide +kernel : decode cX7_likely 46 = .ok (.ifCond .ne 5, 3)) (by decide +kernel), ?_⟩
  refine List.forall_mem_cons.mpr ⟨snd_iconst (by decide +kernel : decode cX7_likely 49 = .ok (.iconst (-1), 1)) (by decide +kernel), ?_⟩
  refine List.forall_mem_cons.mpr ⟨snd_iret (by decide +kernel : decode cX7_likely 50 = .ok (.ireturn, 1)), ?_⟩
  refine List.forall_mem_cons.mpr ⟨snd_lconst (by decide +kernel : decode cX7_likely 51 = .ok (.lconst 0, 1)) (by decide +kernel), ?_⟩
  refine List.forall_mem_cons.mpr ⟨snd_lstore (by decide +kernel : decode cX7_likely 52 = .ok (.lstore 6, 2)), ?_⟩
  refine List.forall_mem_cons.mpr ⟨snd_lconst (by decide +kernel : decode cX7_likely 54 = .ok (.lconst 1, 1)) (by decide +kernel), ?_⟩
  refine List.forall_mem_cons.mpr ⟨snd_lstore (by decide +kernel : decode cX7_likely 55 = .ok (.lstore 8, 2)), ?_⟩
  refine List.forall_mem_cons.mpr ⟨snd_iconst (by decide +kernel : decode cX7_likely 57 = .ok (.iconst 0, 1)) (by decide +kernel), ?_⟩
  refine List.forall_mem_cons.mpr ⟨snd_istore (by decide +kernel : decode cX7_likely 58 = .ok (.istore 10, 2)), ?_⟩
  refine List.forall_mem_cons.mpr ⟨snd_iload (by decide +kernel : decode cX7_likely 60 = .ok (.iload 10, 2)), ?_⟩
  refine List.forall_mem_cons.mpr ⟨snd_iload_n (by decide +kernel : decode cX7_likely 62 = .ok (.iload_n 1, 1)) rfl, ?_⟩
  refine List.forall_mem_cons.mpr ⟨snd_icmp_ge (by decide +kernel : decode cX7_likely 63 = .ok (.if_icmp .ge 17, 3)) (by decide +kernel), ?_⟩
  refine List.forall_mem_cons.mpr ⟨snd_lload (by decide +kernel : decode cX7_likely 66 = .ok (.lload 8, 2)), ?_⟩
  refine List.forall_mem_cons.mpr ⟨snd_ldc2 (by decide +kernel : decode cX7_likely 68 = .ok (.ldc2_w 200, 3)) wd_710, ?_⟩
  refine List.forall_mem_cons.mpr ⟨snd_lmul (by decide +kernel : decode cX7_likely 71 = .ok (.lmul, 1)), ?_⟩
  refine List.forall_mem_cons.mpr ⟨snd_lstore (by decide +kernel : decode cX7_likely 72 = .ok (.lstore 8, 2)), ?_⟩
  refine List.forall_mem_cons.mpr ⟨snd_iinc (by decide +kernel : decode cX7_likely 74 = .ok (.iinc 10 1, 3)) (by decide +kernel), ?_⟩
  refine List.forall_mem_cons.mpr ⟨snd_goto (by decide +kernel : decode cX7_likely 77 = .ok (.goto (-17), 3)) (by decide +kernel), ?_⟩
  refine List.forall_mem_cons.mpr ⟨snd_iconst (by decide +kernel : decode cX7_likely 80 = .ok (.iconst 0, 1)) (by decide +kernel), ?_⟩
  refine List.forall_mem_cons.mpr ⟨snd_istore (by decide +kernel : decode cX7_likely 81 = .ok (.istore 10, 2)), ?_⟩
  refine List.forall_mem_cons.mpr ⟨snd_iload (by decide +kernel : decode cX7_likely 83 = .ok (.iload 10, 2)), ?_⟩
  refine List.forall_mem_cons.mpr ⟨snd_iconst (by decide +kernel : decode cX7_likely 85 = .ok (.iconst 1, 1)) (by decide +kernel), ?_⟩
  refine List.forall_mem_cons.mpr ⟨snd_iload_n (by decide +kernel : decode cX7_likely 86 = .ok (.iload_n 1, 1)) rfl, ?_⟩
  refine List.forall_mem_cons.mpr ⟨snd_ishl (by decide +kernel : decode cX7_likely 87 = .ok (.ishl, 1)), ?_⟩
  refine List.forall_mem_cons.mpr ⟨snd_icmp_ge (by decide +kernel : decode cX7_likely 88 = .ok (.if_icmp .ge 108, 3)) (by decide +kernel), ?_⟩
  refine List.forall_mem_cons.mpr ⟨snd_lconst (by decide +kernel : decode cX7_likely 91 = .ok (.lconst 1, 1)) (by decide +kernel), ?_⟩
  refine List.forall_mem_cons.mpr ⟨snd_lstore (by decide +kernel : decode cX7_likely 92 = .ok (.lstore 11, 2)), ?_⟩
  refine List.forall_mem_cons.mpr ⟨snd_aload_n (by decide +kernel : decode cX7_likely 94 = .ok (.aload_n 0, 1)) rfl, ?_⟩
  refine List.forall_mem_cons.mpr ⟨snd_callV mok_156 wd_661 wd_664 wd_665 rfl rfl (by decide +kernel : decode cX7_likely 95 = .ok (.invokevirtual 167, 3)), ?_⟩
  refine List.forall_mem_cons.mpr ⟨snd_iconst (by decide +kernel : decode cX7_likely 98 = .ok (.iconst 0, 1)) (by decide +kernel), ?_⟩
  refine List.forall_mem_cons.mpr ⟨snd_istore (by decide +kernel : decode cX7_likely 99 = .ok (.istore 13, 2)), ?_⟩
  refine List.forall_mem_cons.mpr ⟨snd_iload (by decide +kernel : decode cX7_likely 101 = .ok (.iload 13, 2)), ?_⟩
  refine List.forall_mem_cons.mpr ⟨snd_iload_n (by decide +kernel : decode cX7_likely 103 = .ok (.iload_n 1, 1)) rfl, ?_⟩
  refine List.forall_mem_cons.mpr ⟨snd_icmp_ge (by decide +kernel : decode cX7_likely 104 = .ok (.if_icmp .ge 61, 3)) (by decide +kernel), ?_⟩
  refine List.forall_mem_cons.mpr ⟨snd_lload (by decide +kernel : decode cX7_likely 107 = .ok (.lload 11, 2)), ?_⟩
  refine List.forall_mem_cons.mpr ⟨snd_iload (by decide +kernel : decode cX7_likely 109 = .ok (.iload 10, 2)), ?_⟩
  refine List.forall_mem_cons.mpr ⟨snd_iload (by decide +kernel : decode cX7_likely 111 = .ok (.iload 13, 2)), ?_⟩
  refine List.forall_mem_cons.mpr ⟨snd_callS mok_118 wd_681 wd_684 (by decide +kernel : decode cX7_likely 113 = .ok (.invokestatic 179, 3)), ?_⟩
  refine List.forall_mem_cons.mpr ⟨snd_if_eq (by decide +kernel : decode cX7_likely 116 = .ok (.ifCond .eq 9, 3)) (by decide +kernel), ?_⟩
  refine List.forall_mem_cons.mpr ⟨snd_iload (by decide +kernel : decode cX7_likely 119 = .ok (.iload 4, 2)), ?_⟩
  refine List.forall_mem_cons.mpr ⟨snd_i2l (by decide +kernel : decode cX7_likely 121 = .ok (.i2l, 1)), ?_⟩
  refine List.forall_mem_cons.mpr ⟨snd_goto (by decide +kernel : decode cX7_likely 122 = .ok (.goto 9, 3)) (by decide +kernel), ?_⟩
  refine List.forall_mem_cons.mpr ⟨snd_bipush (by decide +kernel : decode cX7_likely 125 = .ok (.bipush 10, 2)) (by decide +kernel), ?_⟩
  refine List.forall_mem_cons.mpr ⟨snd_iload (by decide +kernel : decode cX7_likely 127 = .ok (.iload 4, 2)), ?_⟩
  refine List.forall_mem_cons.mpr ⟨snd_isub (by decide +kernel : decode cX7_likely 129 = .ok (.isub, 1)), ?_⟩
  refine List.forall_mem_cons.mpr ⟨snd_i2l (by decide +kernel : decode cX7_likely 130 = .ok (.i2l, 1)), ?_⟩
  refine List.forall_mem_cons.mpr ⟨snd_lmul (by decide +kernel : decode cX7_likely 131 = .ok (.lmul, 1)), ?_⟩
  refine List.forall_mem_cons.mpr ⟨snd_lstore (by decide +kernel : decode cX7_likely 132 = .ok (.lstore 11, 2)), ?_⟩
  refine List.forall_mem_cons.mpr ⟨snd_iload (by decide +kernel : decode cX7_likely 134 = .ok (.iload 10, 2)), ?_⟩
  refine List.forall_mem_cons.mpr ⟨snd_iload (by decide +kernel : decode cX7_likely 136 = .ok (.iload 13, 2)), ?_⟩
  refine List.forall_mem_cons.mpr ⟨snd_callS mok_118 wd_681 wd_684 (by decide +kernel : decode cX7_likely 138 = .ok (.invokestatic 179, 3)), ?_⟩
  refine List.forall_mem_cons.mpr ⟨snd_if_eq (by decide +kernel : decode cX7_likely 141 = .ok (.ifCond .eq 13, 3)) (by decide +kernel), ?_⟩
  refine List.forall_mem_cons.mpr ⟨snd_aload_n (by decide +kernel : decode cX7_likely 144 = .ok (.aload_n 0, 1)) rfl, ?_⟩
  refine List.forall_mem_cons.mpr ⟨snd_aload_n (by decide +kernel : decode cX7_likely 145 = .ok (.aload_n 0, 1)) rfl, ?_⟩
  refine List.forall_mem_cons.mpr ⟨snd_get fl_7_72 (by decide +kernel : decode cX7_likely 146 = .ok (.getfield 72, 3)), ?_⟩
  refine List.forall_mem_cons.mpr ⟨snd_iconst (by decide +kernel : decode cX7_likely 149 = .ok (.iconst 1, 1)) (by decide +kernel), ?_⟩
  refine List.forall_mem_cons.mpr ⟨snd_isub (by decide +kernel : decode cX7_likely 150 = .ok (.isub, 1)), ?_⟩
  refine List.forall_mem_cons.mpr ⟨snd_callV mok_149 wd_641 wd_644 wd_645 rfl rfl (by decide +kernel : decode cX7_likely 151 = .ok (.invokevirtual 155, 3)), ?_⟩
  refine List.forall_mem_cons.mpr ⟨snd_aload_n (by decide +kernel : decode cX7_likely 154 = .ok (.aload_n 0, 1)) rfl, ?_⟩
  refine List.forall_mem_cons.mpr ⟨snd_callV mok_139 wd_621 wd_624 wd_625 rfl rfl (by decide +kernel : decode cX7_likely 155 = .ok (.invokevirtual 141, 3)), ?_⟩
  refine List.forall_mem_cons.mpr ⟨snd_pop (by decide +kernel : decode cX7_likely 158 = .ok (.pop, 1)), ?_⟩
  refine List.forall_mem_cons.mpr ⟨snd_iinc (by decide +kernel : decode cX7_likely 159 = .ok (.iinc 13 1, 3)) (by decide +kernel), ?_⟩
  refine List.forall_mem_cons.mpr ⟨snd_goto (by decide +kernel : decode cX7_likely 162 = .ok (.goto (-61), 3)) (by decide +kernel), ?_⟩
  refine List.forall_mem_cons.mpr ⟨snd_lload (by decide +kernel : decode cX7_likely 165 = .ok (.lload 6, 2)), ?_⟩
  refine List.forall_mem_cons.mpr ⟨snd_aload_n (by decide +kernel : decode cX7_likely 167 = .ok (.aload_n 0, 1)) rfl, ?_⟩
  refine List.forall_mem_cons.mpr ⟨snd_get fl_7_13 (by decide +kernel : decode cX7_likely 168 = .ok (.getfield 13, 3)), ?_⟩
  refine List.forall_mem_cons.mpr ⟨snd_iload_n (by decide +kernel : decode cX7_likely 171 = .ok (.iload_n 2, 1)) rfl, ?_⟩
  refine List.forall_mem_cons.mpr ⟨snd_iald (by decide +kernel : decode cX7_likely 172 = .ok (.iaload, 1)), ?_⟩
  refine List.forall_mem_cons.mpr ⟨snd_iload_n (by decide +kernel : decode cX7_likely 173 = .ok (.iload_n 3, 1)) rfl, ?_⟩
  refine List.forall_mem_cons.mpr ⟨snd_icmp_ne (by decide +kernel : decode cX7_likely 174 = .ok (.if_icmp .ne 8, 3)) (by decide +kernel), ?_⟩
  refine List.forall_mem_cons.mpr ⟨snd_lload (by decide +kernel : decode cX7_likely 177 = .ok (.lload 11, 2)), ?_⟩
  refine List.forall_mem_cons.mpr ⟨snd_goto (by decide +kernel : decode cX7_likely 179 = .ok (.goto 4, 3)) (by decide +kernel), ?_⟩
  refine List.forall_mem_cons.mpr ⟨snd_lconst (by decide +kernel : decode cX7_likely 182 = .ok (.lconst 0, 1)) (by decide +kernel), ?_⟩
  refine List.forall_mem_cons.mpr ⟨snd_ladd (by decide +kernel : decode cX7_likely 183 = .ok (.ladd, 1)), ?_⟩
  refine List.forall_mem_cons.mpr ⟨snd_lstore (by decide +kernel : decode cX7_likely 184 = .ok (.lstore 6, 2)), ?_⟩
  refine List.forall_mem_cons.mpr ⟨snd_aload_n (by decide +kernel : decode cX7_likely 186 = .ok (.aload_n 0, 1)) rfl, ?_⟩
  refine List.forall_mem_cons.mpr ⟨snd_callV mok_157 wd_666 wd_669 wd_670 rfl rfl (by decide +kernel : decode cX7_likely 187 = .ok (.invokevirtual 170, 3)), ?_⟩
  refine List.forall_mem_cons.mpr ⟨snd_iinc (by decide +kernel : decode cX7_likely 190 = .ok (.iinc 10 1, 3)) (by decide +kernel), ?_⟩
  refine List.forall_mem_cons.mpr ⟨snd_goto (by decide +kernel : decode cX7_likely 193 = .ok (.goto (-110), 3)) (by decide +kernel), ?_⟩
  refine List.forall_mem_cons.mpr ⟨snd_lload (by decide +kernel : decode cX7_likely 196 = .ok (.lload 6, 2)), ?_⟩
  refine List.forall_mem_cons.mpr ⟨snd_lload (by decide +kernel : decode cX7_likely 198 = .ok (.lload 8, 2)), ?_⟩
  refine List.forall_mem_cons.mpr ⟨snd_callS mok_175 wd_711 wd_714 (by decide +kernel : decode cX7_likely 200 = .ok (.invokestatic 202, 3)), ?_⟩
  refine List.forall_mem_cons.mpr ⟨snd_lstore (by decide +kernel : decode cX7_likely 203 = .ok (.lstore 10, 2)), ?_⟩
  refine List.forall_mem_cons.mpr ⟨snd_iload (by decide +kernel : decode cX7_likely 205 = .ok (.iload 5, 2)), ?_⟩
  refine List.forall_mem_cons.mpr ⟨snd_if_ne (by decide +kernel : decode cX7_likely 207 = .ok (.ifCond .ne 11, 3)) (by decide +kernel), ?_⟩
  refine List.forall_mem_cons.mpr ⟨snd_lload (by decide +kernel : decode cX7_likely 210 = .ok (.lload 6, 2)), ?_⟩
  refine List.forall_mem_cons.mpr ⟨snd_lload (by decide +kernel : decode cX7_likely 212 = .ok (.lload 10, 2)), ?_⟩
  refine List.forall_mem_cons.mpr ⟨snd_ldiv (by decide +kernel : decode cX7_likely 214 = .ok (.ldiv, 1)), ?_⟩
  refine List.forall_mem_cons.mpr ⟨snd_goto (by decide +kernel : decode cX7_likely 215 = .ok (.goto 8, 3)) (by decide +kernel), ?_⟩
  refine List.forall_mem_cons.mpr ⟨snd_lload (by decide +kernel : decode cX7_likely 218 = .ok (.lload 8, 2)), ?_⟩
  refine List.forall_mem_cons.mpr ⟨snd_lload (by decide +kernel : decode cX7_likely 220 = .ok (.lload 10, 2)), ?_⟩
  refine List.forall_mem_cons.mpr ⟨snd_ldiv (by decide +kernel : decode cX7_likely 222 = .ok (.ldiv, 1)), ?_⟩
  refine List.forall_mem_cons.mpr ⟨snd_l2i (by decide +kernel : decode cX7_likely 223 = .ok (.l2i, 1)), ?_⟩
  refine List.forall_mem_cons.mpr ⟨snd_iret (by decide +kernel : decode cX7_likely 224 = .ok (.ireturn, 1)), ?_⟩
  exact fun _ h => absurd h List.not_mem_nil
theorem m_X7_likely : ∀ q ∈ k_X7_likely, Mono q.2 := by
  unfold k_X7_likely
  refine List.forall_mem_cons.mpr ⟨mo_iload _ _, ?_⟩
  refine List.forall_mem_cons.mpr ⟨mo_push _ _, ?_⟩
  refine List.forall_mem_cons.mpr ⟨mo_push _ _, ?_⟩
  refine List.forall_mem_cons.mpr ⟨mo_call _ _ _, ?_⟩
  refine List.forall_mem_cons.mpr ⟨mo_if _ _ _, ?_⟩
  refine List.forall_mem_cons.mpr ⟨mo_aload _ _, ?_⟩
  refine List.forall_mem_cons.mpr ⟨mo_iload _ _, ?_⟩
  refine List.forall_mem_cons.mpr ⟨mo_call _ _ _, ?_⟩
  refine List.forall_mem_cons.mpr ⟨mo_if _ _ _, ?_⟩
  refine List.forall_mem_cons.mpr ⟨mo_iload _ _, ?_⟩
  refine List.forall_mem_cons.mpr ⟨mo_push _ _, ?_⟩
  refine List.forall_mem_cons.mpr ⟨mo_push _ _, ?_⟩
  refine List.forall_mem_cons.mpr ⟨mo_call _ _ _, ?_⟩
  refine List.forall_mem_cons.mpr ⟨mo_if _ _ _, ?_⟩
  refine List.forall_mem_cons.mpr ⟨mo_iload _ _, ?_⟩
  refine List.forall_mem_cons.mpr ⟨mo_push _ _, ?_⟩
  refine List.forall_mem_cons.mpr ⟨mo_push _ _, ?_⟩
  refine List.forall_mem_cons.mpr ⟨mo_call _ _ _, ?_⟩
  refine List.forall_mem_cons.mpr ⟨mo_if _ _ _, ?_⟩
  refine List.forall_mem_cons.mpr ⟨mo_iload _ _, ?_⟩
  refine List.forall_mem_cons.mpr ⟨mo_push _ _, ?_⟩
  refine List.forall_mem_cons.mpr ⟨mo_push _ _, ?_⟩
  refine List.forall_mem_cons.mpr ⟨mo_call _ _ _, ?_⟩
  refine List.forall_mem_cons.mpr ⟨mo_if _ _ _, ?_⟩
  refine List.forall_mem_cons.mpr ⟨mo_push _ _, ?_⟩
  refine List.forall_mem_cons.mpr ⟨mo_iret, ?_⟩
  refine List.forall_mem_cons.mpr ⟨mo_push _ _, ?_⟩
  refine List.forall_mem_cons.mpr ⟨mo_lstore _ _, ?_⟩
  refine List.forall_mem_cons.mpr ⟨mo_push _ _, ?_⟩
  refine List.forall_mem_cons.mpr ⟨mo_lstore _ _, ?_⟩
  refine List.forall_mem_cons.mpr ⟨mo_push _ _, ?_⟩
  refine List.forall_mem_cons.mpr ⟨mo_istore _ _, ?_⟩
  refine List.forall_mem_cons.mpr ⟨mo_iload _ _, ?_⟩
  refine List.forall_mem_cons.mpr ⟨mo_iload _ _, ?_⟩
  refine List.forall_mem_cons.mpr ⟨mo_icmp _ _ _, ?_⟩
  refine List.forall_mem_cons.mpr ⟨mo_lload _ _, ?_⟩
  refine List.forall_mem_cons.mpr ⟨mo_push _ _, ?_⟩
  refine List.forall_mem_cons.mpr ⟨mo_lbin _, ?_⟩
  refine List.forall_mem_cons.mpr ⟨mo_lstore _ _, ?_⟩
  refine List.forall_mem_cons.mpr ⟨mo_iinc _ _, ?_⟩
  refine List.forall_mem_cons.mpr ⟨mo_goto _, ?_⟩
  refine List.forall_mem_cons.mpr ⟨mo_push _ _, ?_⟩
  refine List.forall_mem_cons.mpr ⟨mo_istore _ _, ?_⟩
  refine List.forall_mem_cons.mpr ⟨mo_iload _ _, ?_⟩
  refine List.forall_mem_cons.mpr ⟨mo_push _ _, ?_⟩
  refine List.forall_mem_cons.mpr ⟨mo_iload _ _, ?_⟩
  refine List.forall_mem_cons.mpr ⟨mo_bin _, ?_⟩
  refine List.forall_mem_cons.mpr ⟨mo_icmp _ _ _, ?_⟩
  refine List.forall_mem_cons.mpr ⟨mo_push _ _, ?_⟩
  refine List.forall_mem_cons.mpr ⟨mo_lstore _ _, ?_⟩
  refine List.forall_mem_cons.mpr ⟨mo_aload _ _, ?_⟩
  refine List.forall_mem_cons.mpr ⟨mo_call _ _ _, ?_⟩
  refine List.forall_mem_cons.mpr ⟨mo_push _ _, ?_⟩
  refine List.forall_mem_cons.mpr ⟨mo_istore _ _, ?_⟩
  refine List.forall_mem_cons.mpr ⟨mo_iload _ _, ?_⟩
  refine List.forall_mem_cons.mpr ⟨mo_iload _ _, ?_⟩
  refine List.forall_mem_cons.mpr ⟨mo_icmp _ _ _, ?_⟩
  refine List.forall_mem_cons.mpr ⟨mo_lload _ _, ?_⟩
  refine List.forall_mem_cons.mpr ⟨mo_iload _ _, ?_⟩
  refine List.forall_mem_cons.mpr ⟨mo_iload _ _, ?_⟩
  refine List.forall_mem_cons.mpr ⟨mo_call _ _ _, ?_⟩
  refine List.forall_mem_cons.mpr ⟨mo_if _ _ _, ?_⟩
  refine List.forall_mem_cons.mpr ⟨mo_iload _ _, ?_⟩
  refine List.forall_mem_cons.mpr ⟨mo_i2l, ?_⟩
  refine List.forall_mem_cons.mpr ⟨mo_goto _, ?_⟩
  refine List.forall_mem_cons.mpr ⟨mo_push _ _, ?_⟩
  refine List.forall_mem_cons.mpr ⟨mo_iload _ _, ?_⟩
  refine List.forall_mem_cons.mpr ⟨mo_bin _, ?_⟩
  refine List.forall_mem_cons.mpr ⟨mo_i2l, ?_⟩
  refine List.forall_mem_cons.mpr ⟨mo_lbin _, ?_⟩
  refine List.forall_mem_cons.mpr ⟨mo_lstore _ _, ?_⟩
  refine List.forall_mem_cons.mpr ⟨mo_iload _ _, ?_⟩
  refine List.forall_mem_cons.mpr ⟨mo_iload _ _, ?_⟩
  refine List.forall_mem_cons.mpr ⟨mo_call _ _ _, ?_⟩
  refine List.forall_mem_cons.mpr ⟨mo_if _ _ _, ?_⟩
  refine List.forall_mem_cons.mpr ⟨mo_aload _ _, ?_⟩
  refine List.forall_mem_cons.mpr ⟨mo_aload _ _, ?_⟩
  refine List.forall_mem_cons.mpr ⟨mo_get _ _, ?_⟩
  refine List.forall_mem_cons.mpr ⟨mo_push _ _, ?_⟩
  refine List.forall_mem_cons.mpr ⟨mo_bin _, ?_⟩
  refine List.forall_mem_cons.mpr ⟨mo_call _ _ _, ?_⟩
  refine List.forall_mem_cons.mpr ⟨mo_aload _ _, ?_⟩
  refine List.forall_mem_cons.mpr ⟨mo_call _ _ _, ?_⟩
  refine List.forall_mem_cons.mpr ⟨mo_pop, ?_⟩
  refine List.forall_mem_cons.mpr ⟨mo_iinc _ _, ?_⟩
  refine List.forall_mem_cons.mpr ⟨mo_goto _, ?_⟩
  refine List.forall_mem_cons.mpr ⟨mo_lload _ _, ?_⟩
  refine List.forall_mem_cons.mpr ⟨mo_aload _ _, ?_⟩
  refine List.forall_mem_cons.mpr ⟨mo_get _ _, ?_⟩
  refine List.forall_mem_cons.mpr ⟨mo_iload _ _, ?_⟩
  refine List.forall_mem_cons.mpr ⟨mo_iald, ?_⟩
  refine List.forall_mem_cons.mpr ⟨mo_iload _ _, ?_⟩
  refine List.forall_mem_cons.mpr ⟨mo_icmp _ _ _, ?_⟩
  refine List.forall_mem_cons.mpr ⟨mo_lload _ _, ?_⟩
  refine List.forall_mem_cons.mpr ⟨mo_goto _, ?_⟩
  refine List.forall_mem_cons.mpr ⟨mo_push _ _, ?_⟩
  refine List.forall_mem_cons.mpr ⟨mo_lbin _, ?_⟩
  refine List.forall_mem_cons.mpr ⟨mo_lstore _ _, ?_⟩
  refine List.forall_mem_cons.mpr ⟨mo_aload _ _, ?_⟩
  refine List.forall_mem_cons.mpr ⟨mo_call _ _ _, ?_⟩
  refine List.forall_mem_cons.mpr ⟨mo_iinc _ _, ?_⟩
  refine List.forall_mem_cons.mpr ⟨mo_goto _, ?_⟩
  refine List.forall_mem_cons.mpr ⟨mo_lload _ _, ?_⟩
  refine List.forall_mem_cons.mpr ⟨mo_lload _ _, ?_⟩
  refine List.forall_mem_cons.mpr ⟨mo_call _ _ _, ?_⟩
  refine List.forall_mem_cons.mpr ⟨mo_lstore _ _, ?_⟩
  refine List.forall_mem_cons.mpr ⟨mo_iload _ _, ?_⟩
  refine List.forall_mem_cons.mpr ⟨mo_if _ _ _, ?_⟩
  refine List.forall_mem_cons.mpr ⟨mo_lload _ _, ?_⟩
  refine List.forall_mem_cons.mpr ⟨mo_lload _ _, ?_⟩
  refine List.forall_mem_cons.mpr ⟨mo_ldiv _, ?_⟩
  refine List.forall_mem_cons.mpr ⟨mo_goto _, ?_⟩
  refine List.forall_mem_cons.mpr ⟨mo_lload _ _, ?_⟩
  refine List.forall_mem_cons.mpr ⟨mo_lload _ _, ?_⟩
  refine List.forall_mem_cons.mpr ⟨mo_ldiv _, ?_⟩
  refine List.forall_mem_cons.mpr ⟨mo_l2i, ?_⟩
  refine List.forall_mem_cons.mpr ⟨mo_iret, ?_⟩
  exact fun _ h => absurd h List.not_mem_nil
def k_X7_century : List (Nat × aI) := [
  (0, i_iload 1 1),
  (1, i_push (.int 0) 1),
  (2, i_push (.int 9999) 3),
  (5, i_callS 117 3),
  (8, i_if (fun x => x = 0) 30 11),
  (11, i_iload 2 1),
  (12, i_push (.int 1) 1),
  (13, i_push (.int 60) 2),
  (15, i_callS 117 3),
  (18, i_if (fun x => x = 0) 30 21),
  (21, i_iload 3 1),
  (22, i_push (.int 0) 1),
  (23, i_push (.int 2) 1),
  (24, i_callS 117 3),
  (27, i_if (fun x => x = 0) 30 32),
  (30, i_push (.int (-1)) 1),
  (31, i_iret),
  (32, i_aload 0 1),
  (33, i_callV 156 1 7),
  (36, i_push (.int 0) 1),
  (37, i_istore 4 2),
  (39, i_iload 4 2),
  (41, i_iload 2 1),
  (42, i_icmp (fun x y => x < y) 45 183),
  (45, i_push (.long 7919) 3),
  (48, i_iload 1 1),
  (49, i_i2l),
  (50, i_lbin (fun x y => x * y)),
  (51, i_push (.long 6151) 3),
  (54, i_iload 4 2),
  (56, i_i2l),
  (57, i_lbin (fun x y => x * y)),
  (58, i_lbin (fun x y => x + y)),
  (59, i_push (.long 1) 1),
  (60, i_lbin (fun x y => x + y)),
  (61, i_lstore 5 2),
  (63, i_lload 5 2),
  (65, i_lload 5 2),
  (67, i_lbin (fun x y => x * y)),
  (68, i_push (.long 65521) 3),
  (71, i_ldiv (fun x y => x - x / y * y)),
  (72, i_push (.long 2) 3),
  (75, i_ldiv (fun x y => x / y)),
  (76, i_l2i),
  (77, i_istore 7 2),
  (79, i_iload 7 2),
  (81, i_aload 0 1),
  (82, i_get 7 0),
  (85, i_div (fun x y => x - x / y * y)),
  (86, i_istore 8 2),
  (88, i_iload 7 2),
  (90, i_push (.int 64) 2),
  (92, i_div (fun x y => x / y)),
  (93, i_push (.int 6) 2),
  (95, i_div (fun x y => x - x / y * y)),
  (96, i_istore 9 2),
  (98, i_iload 9 2),
  (100, i_if (fun x => x = 0) 103 135),
  (103, i_aload 0 1),
  (104, i_get 7 4),
  (107, i_push (.int 5) 1),
  (108, i_iload 8 2),
  (110, i_bin (fun x y => x * y)),
  (111, i_iload 7 2),
  (113, i_push (.int 8) 2),
  (115, i_div (fun x y => x / y)),
  (116, i_aload 0 1),
  (117, i_get 7 1),
  (120, i_div (fun x y => x - x / y * y)),
  (121, i_bin (fun x y => x + y)),
  (122, i_iload 7 2),
  (124, i_push (.int 512) 3),
  (127, i_div (fun x y => x / y)),
  (128, i_push (.int 10) 2),
  (130, i_div (fun x y => x - x / y * y)),
  (131, i_iast),
  (132, i_goto 172),
  (135, i_iload 9 2),
  (137, i_push (.int 1) 1),
  (138, i_icmp (fun x y => x = y) 141 150),
  (141, i_aload 0 1),
  (142, i_iload 8 2),
  (144, i_callV 149 2 7),
  (147, i_goto 172),
  (150, i_iload 9 2),
  (152, i_push (.int 2) 1),
  (153, i_icmp (fun x y => x = y) 156 172),
  (156, i_aload 0 1),
  (157, i_get 7 5),
  (160, i_iload 8 2),
  (162, i_push (.int 1) 1),
  (163, i_aload 0 1),
  (164, i_get 7 5),
  (167, i_iload 8 2),
  (169, i_iald),
  (170, i_bin (fun x y => x - y)),
  (171, i_iast),
  (172, i_aload 0 1),
  (173, i_callV 139 1 7),
  (176, i_pop),
  (177, i_iinc 4 1),
  (180, i_goto 39),
  (183, i_iload 3 1),
  (184, i_if (fun x => x = 0) 187 197),
  (187, i_aload 0 1),
  (188, i_callV 141 1 7),
  (191, i_callS 119 1),
  (194, i_goto 215),
  (197, i_iload 3 1),
  (198, i_push (.int 1) 1),
  (199, i_icmp (fun x y => x = y) 202 211),
  (202, i_aload 0 1),
  (203, i_get 7 4),
  (206, i_push (.int 0) 1),
  (207, i_iald),
  (208, i_goto 215),
  (211, i_aload 0 1),
  (212, i_callV 143 1 7),
  (215, i_istore 4 2),
  (217, i_aload 0 1),
  (218, i_callV 157 1 7),
  (221, i_iload 4 2),
  (223, i_iret)]
theorem s_X7_century : ∀ q ∈ k_X7_century, Snd RX7 cX7_century (some .int) false q.1 q.2 := by
  unfold k_X7_century
  refine List.forall_mem_cons.mpr ⟨snd_iload_n (by decide +kernel : decode cX7_century 0 = .ok (.iload_n 1, 1)) rfl, ?_⟩
  refine List.forall_mem_cons.mpr ⟨snd_iconst (by decide +kernel : decode cX7_century 1 = .ok (.iconst 0, 1)) (by decide +kernel), ?_⟩
  refine List.forall_mem_cons.mpr ⟨snd_sipush (by decide +kernel : decode cX7_century 2 = .ok (.sipush 9999, 3)) (by decide +kernel), ?_⟩
  refine List.forall_mem_cons.mpr ⟨snd_callS mok_117 wd_554 wd_557 (by decide +kernel : decode cX7_century 5 = .ok (.invokestatic 75, 3)), ?_⟩
  refine List.forall_mem_cons.mpr ⟨snd_if_eq (by decide +kernel : decode cX7_century 8 = .ok (.ifCond .eq 22, 3)) (by decide +kernel), ?_⟩
  refine List.forall_mem_cons.mpr ⟨snd_iload_n (by decide +kernel : decode cX7_century 11 = .ok (.iload_n 2, 1)) rfl, ?_⟩
  refine List.forall_mem_cons.mpr ⟨snd_iconst (by decide +kernel : decode cX7_century 12 = .ok (.iconst 1, 1)) (by decide +kernel), ?_⟩
  refine List.forall_mem_cons.mpr ⟨snd_bipush (by decide +kernel : decode cX7_century 13 = .ok (.bipush 60, 2)) (by decide +kernel), ?_⟩
  refine List.forall_mem_cons.mpr ⟨snd_callS mok_117 wd_554 wd_557 (by decide +kernel : decode cX7_century 15 = .ok (.invokestatic 75, 3)), ?_⟩
  refine List.forall_mem_cons.mpr ⟨snd_if_eq (by decide +kernel : decode cX7_century 18 = .ok (.ifCond .eq 12, 3)) (by decide +kernel), ?_⟩
  refine List.forall_mem_cons.mpr ⟨snd_iload_n (by decide +kernel : decode cX7_century 21 = .ok (.iload_n 3, 1)) rfl, ?_⟩
  refine List.forall_mem_cons.mpr ⟨snd_iconst (by decide +kernel : decode cX7_century 22 = .ok (.iconst 0, 1)) (by decide +kernel), ?_⟩
  refine List.forall_mem_cons.mpr ⟨snd_iconst (by decide +kernel : decode cX7_century 23 = .ok (.iconst 2, 1)) (by decide +kernel), ?_⟩
  refine List.forall_mem_cons.mpr ⟨snd_callS mok_117 wd_554 wd_557 (by decide +kernel : decode cX7_century 24 = .ok (.invokestatic 75, 3)), ?_⟩
  refine List.forall_mem_cons.mpr ⟨snd_if_ne (by decide +kernel : decode cX7_century 27 = .ok (.ifCond .ne 5, 3)) (by decide +kernel), ?_⟩
  refine List.forall_mem_cons.mpr ⟨snd_iconst (by decide +kernel : decode cX7_century 30 = .ok (.iconst (-1), 1)) (by decide +kernel), ?_⟩
  refine List.forall_mem_cons.mpr ⟨snd_iret (by decide +kernel : decode cX7_century 31 = .ok (.ireturn, 1)), ?_⟩
  refine List.forall_mem_cons.mpr ⟨snd_aload_n (by decide +kernel : decode cX7_century 32 = .ok (.aload_n 0, 1)) rfl, ?_⟩
  refine List.forall_mem_cons.mpr ⟨snd_callV mok_156 wd_661 wd_664 wd_665 rfl rfl (by decide +kernel : decode cX7_century 33 = .ok (.invokevirtual 167, 3)), ?_⟩
  refine List.forall_mem_cons.mpr ⟨snd_iconst (by decide +kernel : decode cX7_century 36 = .ok (.iconst 0, 1)) (by decide +kernel), ?_⟩
  refine List.forall_mem_cons.mpr ⟨snd_istore (by decide +kernel : decode cX7_century 37 = .ok (.istore 4, 2)), ?_⟩
  refine List.forall_mem_cons.mpr ⟨snd_iload (by decide +kernel : decode cX7_century 39 = .ok (.iload 4, 2)), ?_⟩
  refine List.forall_mem_cons.mpr ⟨snd_iload_n (by decide +kernel : decode cX7_century 41 = .ok (.iload_n 2, 1)) rfl, ?_⟩
  refine List.forall_mem_cons.mpr ⟨snd_icmp_ge (by decide +kernel : decode cX7_century 42 = .ok (.if_icmp .ge 141, 3)) (by decide +kernel), ?_⟩
  refine List.forall_mem_cons.mpr ⟨snd_ldc2 (by decide +kernel : decode cX7_century 45 = .ok (.ldc2_w 206, 3)) wd_715, ?_⟩
  refine List.forall_mem_cons.mpr ⟨snd_iload_n (by decide +kernel : decode cX7_century 48 = .ok (.iload_n 1, 1)) rfl, ?_⟩
  refine List.forall_mem_cons.mpr ⟨snd_i2l (by decide +kernel : decode cX7_century 49 = .ok (.i2l, 1)), ?_⟩
  refine List.forall_mem_cons.mpr ⟨snd_lmul (by decide +kernel : decode cX7_century 50 = .ok (.lmul, 1)), ?_⟩
  refine List.forall_mem_cons.mpr ⟨snd_ldc2 (by decide +kernel : decode cX7_century 51 = .ok (.ldc2_w 208, 3)) wd_716, ?_⟩
  refine List.forall_mem_cons.mpr ⟨snd_iload (by decide +kernel : decode cX7_century 54 = .ok (.iload 4, 2)), ?_⟩
  refine List.forall_mem_cons.mpr ⟨snd_i2l (by decide +kernel : decode cX7_century 56 = .ok (.i2l, 1)), ?_⟩
  refine List.forall_mem_cons.mpr ⟨snd_lmul (by decide +kernel : decode cX7_century 57 = .ok (.lmul, 1)), ?_⟩
  refine List.forall_mem_cons.mpr ⟨snd_ladd (by decide +kernel : decode cX7_century 58 = .ok (.ladd, 1)), ?_⟩
  refine List.forall_mem_cons.mpr ⟨snd_lconst (by decide +kernel : decode cX7_century 59 = .ok (.lconst 1, 1)) (by decide +kernel), ?_⟩
  refine List.forall_mem_cons.mpr ⟨snd_ladd (by decide +kernel : decode cX7_century 60 = .ok (.ladd, 1)), ?_⟩
  refine List.forall_mem_cons.mpr ⟨snd_lstore (by decide +kernel : decode cX7_century 61 = .ok (.lstore 5, 2)), ?_⟩
  refine List.forall_mem_cons.mpr ⟨snd_lload (by decide +kernel : decode cX7_century 63 = .ok (.lload 5, 2)), ?_⟩
  refine List.forall_mem_cons.mpr ⟨snd_lload (by decide +kernel : decode cX7_century 65 = .ok (.lload 5, 2)), ?_⟩
  refine List.forall_mem_cons.mpr ⟨snd_lmul (by decide +kernel : decode cX7_century 67 = .ok (.lmul, 1)), ?_⟩
  refine List.forall_mem_cons.mpr ⟨snd_ldc2 (by decide +kernel : decode cX7_century 68 = .ok (.ldc2_w 210, 3)) wd_717, ?_⟩
  refine List.forall_mem_cons.mpr ⟨snd_lrem (by decide +kernel : decode cX7_century 71 = .ok (.lrem, 1)), ?_⟩
  refine List.forall_mem_cons.mpr ⟨snd_ldc2 (by decide +kernel : decode cX7_century 72 = .ok (.ldc2_w 212, 3)) wd_718, ?_⟩
  refine List.forall_mem_cons.mpr ⟨snd_ldiv (by decide +kernel : decode cX7_century 75 = .ok (.ldiv, 1)), ?_⟩
  refine List.forall_mem_cons.mpr ⟨snd_l2i (by decide +kernel : decode cX7_century 76 = .ok (.l2i, 1)), ?_⟩
  refine List.forall_mem_cons.mpr ⟨snd_istore (by decide +kernel : decode cX7_century 77 = .ok (.istore 7, 2)), ?_⟩
  refine List.forall_mem_cons.mpr ⟨snd_iload (by decide +kernel : decode cX7_century 79 = .ok (.iload 7, 2)), ?_⟩
  refine List.forall_mem_cons.mpr ⟨snd_aload_n (by decide +kernel : decode cX7_century 81 = .ok (.aload_n 0, 1)) rfl, ?_⟩
  refine List.forall_mem_cons.mpr ⟨snd_get fl_7_72 (by decide +kernel : decode cX7_century 82 = .ok (.getfield 72, 3)), ?_⟩
  refine List.forall_mem_cons.mpr ⟨snd_irem (by decide +kernel : decode cX7_century 85 = .ok (.irem, 1)), ?_⟩
  refine List.forall_mem_cons.mpr ⟨snd_istore (by decide +kernel : decode cX7_century 86 = .ok (.istore 8, 2)), ?_⟩
  refine List.forall_mem_cons.mpr ⟨snd_iload (by decide +kernel : decode cX7_century 88 = .ok (.iload 7, 2)), ?_⟩
  refine List.forall_mem_cons.mpr ⟨snd_bipush (by decide +kernel : decode cX7_century 90 = .ok (.bipush 64, 2)) (by decide +kernel), ?_⟩
  refine List.forall_mem_cons.mpr ⟨snd_idiv (by decide +kernel : decode cX7_century 92 = .ok (.idiv, 1)), ?_⟩
  refine List.forall_mem_cons.mpr ⟨snd_bipush (by decide +kernel : decode cX7_century 93 = .ok (.bipush 6, 2)) (by decide +kernel), ?_⟩
  refine List.forall_mem_cons.mpr ⟨snd_irem (by decide +kernel : decode cX7_century 95 = .ok (.irem, 1)), ?_⟩
  refine List.forall_mem_cons.mpr ⟨snd_istore (by decide +kernel : decode cX7_century 96 = .ok (.istore 9, 2)), ?_⟩
  refine List.forall_mem_cons.mpr ⟨snd_iload (by decide +kernel : decode cX7_century 98 = .ok (.iload 9, 2)), ?_⟩
  refine List.forall_mem_cons.mpr ⟨snd_if_ne (by decide +kernel : decode cX7_century 100 = .ok (.ifCond .ne 35, 3)) (by decide +kernel), ?_⟩
  refine List.forall_mem_cons.mpr ⟨snd_aload_n (by decide +kernel : decode cX7_century 103 = .ok (.aload_n 0, 1)) rfl, ?_⟩
  refine List.forall_mem_cons.mpr ⟨snd_get fl_7_13 (by decide +kernel : decode cX7_century 104 = .ok (.getfield 13, 3)), ?_⟩
  refine List.forall_mem_cons.mpr ⟨snd_iconst (by decide +kernel : decode cX7_century 107 = .ok (.iconst 5, 1)) (by decide +kernel), ?_⟩
  refine List.forall_mem_cons.mpr ⟨snd_iload (by decide +kernel : decode cX7_century 108 = .ok (.iload 8, 2)), ?_⟩
  refine List.forall_mem_cons.mpr ⟨snd_imul (by decide +kernel : decode cX7_century 110 = .ok (.imul, 1)), ?_⟩
  refine List.forall_mem_cons.mpr ⟨snd_iload (by decide +kernel : decode cX7_century 111 = .ok (.iload 7, 2)), ?_⟩
  refine List.forall_mem_cons.mpr ⟨snd_bipush (by decide +kernel : decode cX7_century 113 = .ok (.bipush 8, 2)) (by decide +kernel), ?_⟩
  refine List.forall_mem_cons.mpr ⟨snd_idiv (by decide +kernel : decode cX7_century 115 = .ok (.idiv, 1)), ?_⟩
  refine List.forall_mem_cons.mpr ⟨snd_aload_n (by decide +kernel : decode cX7_century 116 = .ok (.aload_n 0, 1)) rfl, ?_⟩
  refine List.forall_mem_cons.mpr ⟨snd_get fl_7_64 (by decide +kernel : decode cX7_century 117 = .ok (.getfield 64, 3)), ?_⟩
  refine List.forall_mem_cons.mpr ⟨snd_irem (by decide +kernel : decode cX7_century 120 = .ok (.irem, 1)), ?_⟩
  refine List.forall_mem_cons.mpr ⟨snd_iadd (by decide +kernel : decode cX7_century 121 = .ok (.iadd, 1)), ?_⟩
  refine List.forall_mem_cons.mpr ⟨snd_iload (by decide +kernel : decode cX7_century 122 = .ok (.iload 7, 2)), ?_⟩
  refine List.forall_mem_cons.mpr ⟨snd_sipush (by decide +kernel : decode cX7_century 124 = .ok (.sipush 512, 3)) (by decide +kernel), ?_⟩
  refine List.forall_mem_cons.mpr ⟨snd_idiv (by decide +kernel : decode cX7_century 127 = .ok (.idiv, 1)), ?_⟩
  refine List.forall_mem_cons.mpr ⟨snd_bipush (by decide +kernel : decode cX7_century 128 = .ok (.bipush 10, 2)) (by decide +kernel), ?_⟩
  refine List.forall_mem_cons.mpr ⟨snd_irem (by decide +kernel : decode cX7_century 130 = .ok (.irem, 1)), ?_⟩
  refine List.forall_mem_cons.mpr ⟨snd_iast (by decide +kernel : decode cX7_century 131 = .ok (.iastore, 1)), ?_⟩
  refine List.forall_mem_cons.mpr ⟨snd_goto (by decide +kernel : decode cX7_century 132 = .ok (.goto 40, 3)) (by decide +kernel), ?_⟩
  refine List.forall_mem_cons.mpr ⟨snd_iload (by decide +kernel : decode cX7_century 135 = .ok (.iload 9, 2)), ?_⟩
  refine List.forall_mem_cons.mpr ⟨snd_iconst (by decide +kernel : decode cX7_century 137 = .ok (.iconst 1, 1)) (by decide +kernel), ?_⟩
  refine List.forall_mem_cons.mpr ⟨snd_icmp_ne (by decide +kernel : decode cX7_century 138 = .ok (.if_icmp .ne 12, 3)) (by decide +kernel), ?_⟩
  refine List.forall_mem_cons.mpr ⟨snd_aload_n (by decide +kernel : decode cX7_century 141 = .ok (.aload_n 0, 1)) rfl, ?_⟩
  refine List.forall_mem_cons.mpr ⟨snd_iload (by decide +kernel : decode cX7_century 142 = .ok (.iload 8, 2)), ?_⟩
  refine List.forall_mem_cons.mpr ⟨snd_callV mok_149 wd_641 wd_644 wd_645 rfl rfl (by decide +kernel : decode cX7_century 144 = .ok (.invokevirtual 155, 3)), ?_⟩
  refine List.forall_mem_cons.mpr ⟨snd_goto (by decide +kernel : decode cX7_century 147 = .ok (.goto 25, 3)) (by decide +kernel), ?_⟩
  refine List.forall_mem_cons.mpr ⟨snd_iload (by decide +kernel : decode cX7_century 150 = .ok (.iload 9, 2)), ?_⟩
  refine List.forall_mem_cons.mpr ⟨snd_iconst (by decide +kernel : decode cX7_century 152 = .ok (.iconst 2, 1)) (by decide +kernel), ?_⟩
  refine List.forall_mem_cons.mpr ⟨snd_icmp_ne (by decide +kernel : decode cX7_century 153 = .ok (.if_icmp .ne 19, 3)) (by decide +kernel), ?_⟩
  refine List.forall_mem_cons.mpr ⟨snd_aload_n (by decide +kernel : decode cX7_century 156 = .ok (.aload_n 0, 1)) rfl, ?_⟩
  refine List.forall_mem_cons.mpr ⟨snd_get fl_7_16 (by decide +kernel : decode cX7_century 157 = .ok (.getfield 16, 3)), ?_⟩
  refine List.forall_mem_cons.mpr ⟨snd_iload (by decide +kernel : decode cX7_century 160 = .ok (.iload 8, 2)), ?_⟩
  refine List.forall_mem_cons.mpr ⟨snd_iconst (by decide +kernel : decode cX7_century 162 = .ok (.iconst 1, 1)) (by decide +kernel), ?_⟩
  refine List.forall_mem_cons.mpr ⟨snd_aload_n (by decide +kernel : decode cX7_century 163 = .ok (.aload_n 0, 1)) rfl, ?_⟩
  refine List.forall_mem_cons.mpr ⟨snd_get fl_7_16 (by decide +kernel : decode cX7_century 164 = .ok (.getfield 16, 3)), ?_⟩
  refine List.forall_mem_cons.mpr ⟨snd_iload (by decide +kernel : decode cX7_century 167 = .ok (.iload 8, 2)), ?_⟩
  refine List.forall_mem_cons.mpr ⟨snd_iald (by decide +kernel : decode cX7_century 169 = .ok (.iaload, 1)), ?_⟩
  refine List.forall_mem_cons.mpr ⟨snd_isub (by decide +kernel : decode cX7_century 170 = .ok (.isub, 1)), ?_⟩
  refine List.forall_mem_cons.mpr ⟨snd_iast (by decide +kernel : decode cX7_century 171 = .ok (.iastore, 1)), ?_⟩
  refine List.forall_mem_cons.mpr ⟨snd_aload_n (by decide +kernel : decode cX7_century 172 = .ok (.aload_n 0, 1)) rfl, ?_⟩
  refine List.forall_mem_cons.mpr ⟨snd_callV mok_139 wd_621 wd_624 wd_625 rfl rfl (by decide +kernel : decode cX7_century 173 = .ok (.invokevirtual 141, 3)), ?_⟩
  refine List.forall_mem_cons.mpr ⟨snd_pop (by decide +kernel : decode cX7_century 176 = .ok (.pop, 1)), ?_⟩
  refine List.forall_mem_cons.mpr ⟨snd_iinc (by decide +kernel : decode cX7_century 177 = .ok (.iinc 4 1, 3)) (by decide +kernel), ?_⟩
  refine List.forall_mem_cons.mpr ⟨snd_goto (by decide +kernel : decode cX7_century 180 = .ok (.goto (-141), 3)) (by decide +kernel), ?_⟩
  refine List.forall_mem_cons.mpr ⟨snd_iload_n (by decide +kernel : decode cX7_century 183 = .ok (.iload_n 3, 1)) rfl, ?_⟩
  refine List.forall_mem_cons.mpr ⟨snd_if_ne (by decide +kernel : decode cX7_century 184 = .ok (.ifCond .ne 13, 3)) (by decide +kernel), ?_⟩
  refine List.forall_mem_cons.mpr ⟨snd_aload_n (by decide +kernel : decode cX7_century 187 = .ok (.aload_n 0, 1)) rfl, ?_⟩
  refine List.forall_mem_cons.mpr ⟨snd_callV mok_141 wd_671 wd_674 wd_675 rfl rfl (by decide +kernel : decode cX7_century 188 = .ok (.invokevirtual 173, 3)), ?_⟩
  refine List.forall_mem_cons.mpr ⟨snd_callS mok_119 wd_690 wd_693 (by decide +kernel : decode cX7_century 191 = .ok (.invokestatic 186, 3)), ?_⟩
  refine List.forall_mem_cons.mpr ⟨snd_goto (by decide +kernel : decode cX7_century 194 = .ok (.goto 21, 3)) (by decide +kernel), ?_⟩
  refine List.forall_mem_cons.mpr ⟨snd_iload_n (by decide +kernel : decode cX7_century 197 = .ok (.iload_n 3, 1)) rfl, ?_⟩
  refine List.forall_mem_cons.mpr ⟨snd_iconst (by decide +kernel : decode cX7_century 198 = .ok (.iconst 1, 1)) (by decide +kernel), ?_⟩
  refine List.forall_mem_cons.mpr ⟨snd_icmp_ne (by decide +kernel : decode cX7_century 199 = .ok (.if_icmp .ne 12, 3)) (by decide +kernel), ?_⟩
  refine List.forall_mem_cons.mpr ⟨snd_aload_n (by decide +kernel : decode cX7_century 202 = .ok (.aload_n 0, 1)) rfl, ?_⟩
  refine List.forall_mem_cons.mpr ⟨snd_get fl_7_13 (by decide +kernel : decode cX7_century 203 = .ok (.getfield 13, 3)), ?_⟩
  refine List.forall_mem_cons.mpr ⟨snd_iconst (by decide +kernel : decode cX7_century 206 = .ok (.iconst 0, 1)) (by decide +kernel), ?_⟩
  refine List.forall_mem_cons.mpr ⟨snd_iald (by decide +kernel : decode cX7_century 207 = .ok (.iaload, 1)), ?_⟩
  refine List.forall_mem_cons.mpr ⟨snd_goto (by decide +kernel : decode cX7_century 208 = .ok (.goto 7, 3)) (by decide +kernel), ?_⟩
  refine List.forall_mem_cons.mpr ⟨snd_aload_n (by decide +kernel : decode cX7_century 211 = .ok (.aload_n 0, 1)) rfl, ?_⟩
  refine List.forall_mem_cons.mpr ⟨snd_callV mok_143 wd_646 wd_649 wd_650 rfl rfl (by decide +kernel : decode cX7_century 212 = .ok (.invokevirtual 158, 3)), ?_⟩
  refine List.forall_mem_cons.mpr ⟨snd_istore (by decide +kernel : decode cX7_century 215 = .ok (.istore 4, 2)), ?_⟩
  refine List.forall_mem_cons.mpr ⟨snd_aload_n (by decide +kernel : decode cX7_century 217 = .ok (.aload_n 0, 1)) rfl, ?_⟩
  refine List.forall_mem_cons.mpr ⟨snd_callV mok_157 wd_666 wd_669 wd_670 rfl rfl (by decide +kernel : decode cX7_century 218 = .ok (.invokevirtual 170, 3)), ?_⟩
  refine List.forall_mem_cons.mpr ⟨snd_iload (by decide +kernel : decode cX7_century 221 = .ok (.iload 4, 2)), ?_⟩
  refine List.forall_mem_cons.mpr ⟨snd_iret (by decide +kernel : decode cX7_century 223 = .ok (.ireturn, 1)), ?_⟩
  exact fun _ h => absurd h List.not_mem_nil
theorem m_X7_century : ∀ q ∈ k_X7_century, Mono q.2 := by
  unfold k_X7_century
  refine List.forall_mem_cons.mpr ⟨mo_iload _ _, ?_⟩
  refine List.forall_mem_cons.mpr ⟨mo_push _ _, ?_⟩
  refine List.forall_mem_cons.mpr ⟨mo_push _ _, ?_⟩
  refine List.forall_mem_cons.mpr ⟨mo_call _ _ _, ?_⟩
  refine List.forall_mem_cons.mpr ⟨mo_if _ _ _, ?_⟩
  refine List.forall_mem_cons.mpr ⟨mo_iload _ _, ?_⟩
  refine List.forall_mem_cons.mpr ⟨mo_push _ _, ?_⟩
  refine List.forall_mem_cons.mpr ⟨mo_push _ _, ?_⟩
  refine List.forall_mem_cons.mpr ⟨mo_call _ _ _, ?_⟩
  refine List.forall_mem_cons.mpr ⟨mo_if _ _ _, ?_⟩
  refine List.forall_mem_cons.mpr ⟨mo_iload _ _, ?_⟩
  refine List.forall_mem_cons.mpr ⟨mo_push _ _, ?_⟩
  refine List.forall_mem_cons.mpr ⟨mo_push _ _, ?_⟩
  refine List.forall_mem_cons.mpr ⟨mo_call _ _ _, ?_⟩
  refine List.forall_mem_cons.mpr ⟨mo_if _ _ _, ?_⟩
  refine List.forall_mem_cons.mpr ⟨mo_push _ _, ?_⟩
  refine List.forall_mem_cons.mpr ⟨mo_iret, ?_⟩
  refine List.forall_mem_cons.mpr ⟨mo_aload _ _, ?_⟩
  refine List.forall_mem_cons.mpr ⟨mo_call _ _ _, ?_⟩
  refine List.forall_mem_cons.mpr ⟨mo_push _ _, ?_⟩
  refine List.forall_mem_cons.mpr ⟨mo_istore _ _, ?_⟩
  refine List.forall_mem_cons.mpr ⟨mo_iload _ _, ?_⟩
  refine List.forall_mem_cons.mpr ⟨mo_iload _ _, ?_⟩
  refine List.forall_mem_cons.mpr ⟨mo_icmp _ _ _, ?_⟩
  refine List.forall_mem_cons.mpr ⟨mo_push _ _, ?_⟩
  refine List.forall_mem_cons.mpr ⟨mo_iload _ _, ?_⟩
  refine List.forall_mem_cons.mpr ⟨mo_i2l, ?_⟩
  refine List.forall_mem_cons.mpr ⟨mo_lbin _, ?_⟩
  refine List.forall_mem_cons.mpr ⟨mo_push _ _, ?_⟩
  refine List.forall_mem_cons.mpr ⟨mo_iload _ _, ?_⟩
  refine List.forall_mem_cons.mpr ⟨mo_i2l, ?_⟩
  refine List.forall_mem_cons.mpr ⟨mo_lbin _, ?_⟩
  refine List.forall_mem_cons.mpr ⟨mo_lbin _, ?_⟩
  refine List.forall_mem_cons.mpr ⟨mo_push _ _, ?_⟩
  refine List.forall_mem_cons.mpr ⟨mo_lbin _, ?_⟩
  refine List.forall_mem_cons.mpr ⟨mo_lstore _ _, ?_⟩
  refine List.forall_mem_cons.mpr ⟨mo_lload _ _, ?_⟩
  refine List.forall_mem_cons.mpr ⟨mo_lload _ _, ?_⟩
  refine List.forall_mem_cons.mpr ⟨mo_lbin _, ?_⟩
  refine List.forall_mem_cons.mpr ⟨mo_push _ _, ?_⟩
  refine List.forall_mem_cons.mpr ⟨mo_ldiv _, ?_⟩
  refine List.forall_mem_cons.mpr ⟨mo_push _ _, ?_⟩
  refine List.forall_mem_cons.mpr ⟨mo_ldiv _, ?_⟩
  refine List.forall_mem_cons.mpr ⟨mo_l2i, ?_⟩
  refine List.forall_mem_cons.mpr ⟨mo_istore _ _, ?_⟩
  refine List.forall_mem_cons.mpr ⟨mo_iload _ _, ?_⟩
  refine List.forall_mem_cons.mpr ⟨mo_aload _ _, ?_⟩
  refine List.forall_mem_cons.mpr ⟨mo_get _ _, ?_⟩
  refine List.forall_mem_cons.mpr ⟨mo_div _, ?_⟩
  refine List.forall_mem_cons.mpr ⟨mo_istore _ _, ?_⟩
  refine List.forall_mem_cons.mpr ⟨mo_iload _ _, ?_⟩
  refine List.forall_mem_cons.mpr ⟨mo_push _ _, ?_⟩
  refine List.forall_mem_cons.mpr ⟨mo_div _, ?_⟩
  refine List.forall_mem_cons.mpr ⟨mo_push _ _, ?_⟩
  refine List.forall_mem_cons.mpr ⟨mo_div _, ?_⟩
  refine List.forall_mem_cons.mpr ⟨mo_istore _ _, ?_⟩
  refine List.forall_mem_cons.mpr ⟨mo_iload _ _, ?_⟩
  refine List.forall_mem_cons.mpr ⟨mo_if _ _ _, ?_⟩
  refine List.forall_mem_cons.mpr ⟨mo_aload _ _, ?_⟩
  refine List.forall_mem_cons.mpr ⟨mo_get _ _, ?_⟩
  refine List.forall_mem_cons.mpr ⟨mo_push _ _, ?_⟩
  refine List.forall_mem_cons.mpr ⟨mo_iload _ _, ?_⟩
  refine List.forall_mem_cons.mpr ⟨mo_bin _, ?_⟩
  refine List.forall_mem_cons.mpr ⟨mo_iload _ _, ?_⟩
  refine List.forall_mem_cons.mpr ⟨mo_push _ _, ?_⟩
  refine List.forall_mem_cons.mpr ⟨mo_div _, ?_⟩
  refine List.forall_mem_cons.mpr ⟨mo_aload _ _, ?_⟩
  refine List.forall_mem_cons.mpr ⟨mo_get _ _, ?_⟩
  refine List.forall_mem_cons.mpr ⟨mo_div _, ?_⟩
  refine List.forall_mem_cons.mpr ⟨mo_bin _, ?_⟩
  refine List.forall_mem_cons.mpr ⟨mo_iload _ _, ?_⟩
  refine List.forall_mem_cons.mpr ⟨mo_push _ _, ?_⟩
  refine List.forall_mem_cons.mpr ⟨mo_div _, ?_⟩
  refine List.forall_mem_cons.mpr ⟨mo_push _ _, ?_⟩
  refine List.forall_mem_cons.mpr ⟨mo_div _, ?_⟩
  refine List.forall_mem_cons.mpr ⟨mo_iast, ?_⟩
  refine List.forall_mem_cons.mpr ⟨mo_goto _, ?_⟩
  refine List.forall_mem_cons.mpr ⟨mo_iload _ _, ?_⟩
  refine List.forall_mem_cons.mpr ⟨mo_push _ _, ?_⟩
  refine List.forall_mem_cons.mpr ⟨mo_icmp _ _ _, ?_⟩
  refine List.forall_mem_cons.mpr ⟨mo_aload _ _, ?_⟩
  refine List.forall_mem_cons.mpr ⟨mo_iload _ _, ?_⟩
  refine List.forall_mem_cons.mpr ⟨mo_call _ _ _, ?_⟩
  refine List.forall_mem_cons.mpr ⟨mo_goto _, ?_⟩
  refine List.forall_mem_cons.mpr ⟨mo_iload _ _, ?_⟩
  refine List.forall_mem_cons.mpr ⟨mo_push _ _, ?_⟩
  refine List.forall_mem_cons.mpr ⟨mo_icmp _ _ _, ?_⟩
  refine List.forall_mem_cons.mpr ⟨mo_aload _ _, ?_⟩
  refine List.forall_mem_cons.mpr ⟨mo_get _ _, ?_⟩
  refine List.forall_mem_cons.mpr ⟨mo_iload _ _, ?_⟩
  refine List.forall_mem_cons.mpr ⟨mo_push _ _, ?_⟩
  refine List.forall_mem_cons.mpr ⟨mo_aload _ _, ?_⟩
  refine List.forall_mem_cons.mpr ⟨mo_get _ _, ?_⟩
  refine List.forall_mem_cons.mpr ⟨mo_iload _ _, ?_⟩
  refine List.forall_mem_cons.mpr ⟨mo_iald, ?_⟩
  refine List.forall_mem_cons.mpr ⟨mo_bin _, ?_⟩
  refine List.forall_mem_cons.mpr ⟨mo_iast, ?_⟩
  refine List.forall_mem_cons.mpr ⟨mo_aload _ _, ?_⟩
  refine List.forall_mem_cons.mpr ⟨mo_call _ _ _, ?_⟩
  refine List.forall_mem_cons.mpr ⟨mo_pop, ?_⟩
  refine List.forall_mem_cons.mpr ⟨mo_iinc _ _, ?_⟩
  refine List.forall_mem_cons.mpr ⟨mo_goto _, ?_⟩
  refine List.forall_mem_cons.mpr ⟨mo_iload _ _, ?_⟩
  refine List.forall_mem_cons.mpr ⟨mo_if _ _ _, ?_⟩
  refine List.forall_mem_cons.mpr ⟨mo_aload _ _, ?_⟩
  refine List.forall_mem_cons.mpr ⟨mo_call _ _ _, ?_⟩
  refine List.forall_mem_cons.mpr ⟨mo_call _ _ _, ?_⟩
  refine List.forall_mem_cons.mpr ⟨mo_goto _, ?_⟩
  refine List.forall_mem_cons.mpr ⟨mo_iload _ _, ?_⟩
  refine List.forall_mem_cons.mpr ⟨mo_push _ _, ?_⟩
  refine List.forall_mem_cons.mpr ⟨mo_icmp _ _ _, ?_⟩
  refine List.forall_mem_cons.mpr ⟨mo_aload _ _, ?_⟩
  refine List.forall_mem_cons.mpr ⟨mo_get _ _, ?_⟩
  refine List.forall_mem_cons.mpr ⟨mo_push _ _, ?_⟩
  refine List.forall_mem_cons.mpr ⟨mo_iald, ?_⟩
  refine List.forall_mem_cons.mpr ⟨mo_goto _, ?_⟩
  refine List.forall_mem_cons.mpr ⟨mo_aload _ _, ?_⟩
  refine List.forall_mem_cons.mpr ⟨mo_call _ _ _, ?_⟩
  refine List.forall_mem_cons.mpr ⟨mo_istore _ _, ?_⟩
  refine List.forall_mem_cons.mpr ⟨mo_aload _ _, ?_⟩
  refine List.forall_mem_cons.mpr ⟨mo_call _ _ _, ?_⟩
  refine List.forall_mem_cons.mpr ⟨mo_iload _ _, ?_⟩
  refine List.forall_mem_cons.mpr ⟨mo_iret, ?_⟩
  exact fun _ h => absurd h List.not_mem_nil
def k_X7_keep : List (Nat × aI) := [
  (0, i_aload 0 1),
  (1, i_get 7 27),
  (4, i_push (.int 2) 1),
  (5, i_icmp (fun x y => x = y) 8 11),
  (8, i_push (.int (-3)) 2),
  (10, i_iret),
  (11, i_aload 0 1),
  (12, i_aload 0 1),
  (13, i_get 7 26),
  (16, i_push (.int 42) 2),
  (18, i_aload 0 1),
  (19, i_get 7 27),
  (22, i_bin (fun x y => x * y)),
  (23, i_callV 144 3 7),
  (26, i_aload 0 1),
  (27, i_dup),
  (28, i_get 7 27),
  (31, i_push (.int 1) 1),
  (32, i_bin (fun x y => x + y)),
  (33, i_put 7 27),
  (36, i_aload 0 1),
  (37, i_get 7 27),
  (40, i_iret)]
theorem s_X7_keep : ∀ q ∈ k_X7_keep, Snd RX7 cX7_keep (some .int) false q.1 q.2 := by
  unfold k_X7_keep
  refine List.forall_mem_cons.mpr ⟨snd_aload_n (by decide +kernel : decode cX7_keep 0 = .ok (.aload_n 0, 1)) rfl, ?_⟩
  refine List.forall_mem_cons.mpr ⟨snd_get fl_7_128 (by decide +kernel : decode cX7_keep 1 = .ok (.getfield 128, 3)), ?_⟩
  refine List.forall_mem_cons.mpr ⟨snd_iconst (by decide +kernel : decode cX7_keep 4 = .ok (.iconst 2, 1)) (by decide +kernel), ?_⟩
  refine List.forall_mem_cons.mpr ⟨snd_icmp_ne (by decide +kernel : decode cX7_keep 5 = .ok (.if_icmp .ne 6, 3)) (by decide +kernel), ?_⟩
  refine List.forall_mem_cons.mpr ⟨snd_bipush (by decide +kernel : decode cX7_keep 8 = .ok (.bipush (-3), 2)) (by decide +kernel), ?_⟩
  refine List.forall_mem_cons.mpr ⟨snd_iret (by decide +kernel : decode cX7_keep 10 = .ok (.ireturn, 1)), ?_⟩
  refine List.forall_mem_cons.mpr ⟨snd_aload_n (by decide +kernel : decode cX7_keep 11 = .ok (.aload_n 0, 1)) rfl, ?_⟩
  refine List.forall_mem_cons.mpr ⟨snd_aload_n (by decide +kernel : decode cX7_keep 12 = .ok (.aload_n 0, 1)) rfl, ?_⟩
  refine List.forall_mem_cons.mpr ⟨snd_get fl_7_61 (by decide +kernel : decode cX7_keep 13 = .ok (.getfield 61, 3)), ?_⟩
  refine List.forall_mem_cons.mpr ⟨snd_bipush (by decide +kernel : decode cX7_keep 16 = .ok (.bipush 42, 2)) (by decide +kernel), ?_⟩
  refine List.forall_mem_cons.mpr ⟨snd_aload_n (by decide +kernel : decode cX7_keep 18 = .ok (.aload_n 0, 1)) rfl, ?_⟩
  refine List.forall_mem_cons.mpr ⟨snd_get fl_7_128 (by decide +kernel : decode cX7_keep 19 = .ok (.getfield 128, 3)), ?_⟩
  refine List.forall_mem_cons.mpr ⟨snd_imul (by decide +kernel : decode cX7_keep 22 = .ok (.imul, 1)), ?_⟩
  refine List.forall_mem_cons.mpr ⟨snd_callV mok_144 wd_626 wd_629 wd_630 rfl rfl (by decide +kernel : decode cX7_keep 23 = .ok (.invokevirtual 144, 3)), ?_⟩
  refine List.forall_mem_cons.mpr ⟨snd_aload_n (by decide +kernel : decode cX7_keep 26 = .ok (.aload_n 0, 1)) rfl, ?_⟩
  refine List.forall_mem_cons.mpr ⟨snd_dup (by decide +kernel : decode cX7_keep 27 = .ok (.dup, 1)), ?_⟩
  refine List.forall_mem_cons.mpr ⟨snd_get fl_7_128 (by decide +kernel : decode cX7_keep 28 = .ok (.getfield 128, 3)), ?_⟩
  refine List.forall_mem_cons.mpr ⟨snd_iconst (by decide +kernel : decode cX7_keep 31 = .ok (.iconst 1, 1)) (by decide +kernel), ?_⟩
  refine List.forall_mem_cons.mpr ⟨snd_iadd (by decide +kernel : decode cX7_keep 32 = .ok (.iadd, 1)), ?_⟩
  refine List.forall_mem_cons.mpr ⟨snd_put fl_7_128 (by decide +kernel : decode cX7_keep 33 = .ok (.putfield 128, 3)), ?_⟩
  refine List.forall_mem_cons.mpr ⟨snd_aload_n (by decide +kernel : decode cX7_keep 36 = .ok (.aload_n 0, 1)) rfl, ?_⟩
  refine List.forall_mem_cons.mpr ⟨snd_get fl_7_128 (by decide +kernel : decode cX7_keep 37 = .ok (.getfield 128, 3)), ?_⟩
  refine List.forall_mem_cons.mpr ⟨snd_iret (by decide +kernel : decode cX7_keep 40 = .ok (.ireturn, 1)), ?_⟩
  exact fun _ h => absurd h List.not_mem_nil
theorem m_X7_keep : ∀ q ∈ k_X7_keep, Mono q.2 := by
  unfold k_X7_keep
  refine List.forall_mem_cons.mpr ⟨mo_aload _ _, ?_⟩
  refine List.forall_mem_cons.mpr ⟨mo_get _ _, ?_⟩
  refine List.forall_mem_cons.mpr ⟨mo_push _ _, ?_⟩
  refine List.forall_mem_cons.mpr ⟨mo_icmp _ _ _, ?_⟩
  refine List.forall_mem_cons.mpr ⟨mo_push _ _, ?_⟩
  refine List.forall_mem_cons.mpr ⟨mo_iret, ?_⟩
  refine List.forall_mem_cons.mpr ⟨mo_aload _ _, ?_⟩
  refine List.forall_mem_cons.mpr ⟨mo_aload _ _, ?_⟩
  refine List.forall_mem_cons.mpr ⟨mo_get _ _, ?_⟩
  refine List.forall_mem_cons.mpr ⟨mo_push _ _, ?_⟩
  refine List.forall_mem_cons.mpr ⟨mo_aload _ _, ?_⟩
  refine List.forall_mem_cons.mpr ⟨mo_get _ _, ?_⟩
  refine List.forall_mem_cons.mpr ⟨mo_bin _, ?_⟩
  refine List.forall_mem_cons.mpr ⟨mo_call _ _ _, ?_⟩
  refine List.forall_mem_cons.mpr ⟨mo_aload _ _, ?_⟩
  refine List.forall_mem_cons.mpr ⟨mo_dup, ?_⟩
  refine List.forall_mem_cons.mpr ⟨mo_get _ _, ?_⟩
  refine List.forall_mem_cons.mpr ⟨mo_push _ _, ?_⟩
  refine List.forall_mem_cons.mpr ⟨mo_bin _, ?_⟩
  refine List.forall_mem_cons.mpr ⟨mo_put _ _, ?_⟩
  refine List.forall_mem_cons.mpr ⟨mo_aload _ _, ?_⟩
  refine List.forall_mem_cons.mpr ⟨mo_get _ _, ?_⟩
  refine List.forall_mem_cons.mpr ⟨mo_iret, ?_⟩
  exact fun _ h => absurd h List.not_mem_nil
def k_X7_back : List (Nat × aI) := [
  (0, i_aload 0 1),
  (1, i_get 7 27),
  (4, i_if (fun x => x = 0) 7 10),
  (7, i_push (.int (-2)) 2),
  (9, i_iret),
  (10, i_aload 0 1),
  (11, i_dup),
  (12, i_get 7 27),
  (15, i_push (.int 1) 1),
  (16, i_bin (fun x y => x - y)),
  (17, i_put 7 27),
  (20, i_aload 0 1),
  (21, i_aload 0 1),
  (22, i_get 7 26),
  (25, i_push (.int 42) 2),
  (27, i_aload 0 1),
  (28, i_get 7 27),
  (31, i_bin (fun x y => x * y)),
  (32, i_callV 145 3 7),
  (35, i_aload 0 1),
  (36, i_push (.int 0) 1),
  (37, i_put 7 22),
  (40, i_aload 0 1),
  (41, i_get 7 27),
  (44, i_iret)]
theorem s_X7_back : ∀ q ∈ k_X7_back, Snd RX7 cX7_back (some .int) false q.1 q.2 := by
  unfold k_X7_back
  refine List.forall_mem_cons.mpr ⟨snd_aload_n (by decide +kernel : decode cX7_back 0 = .ok (.aload_n 0, 1)) rfl, ?_⟩
  refine List.forall_mem_cons.mpr ⟨snd_get fl_7_128 (by decide +kernel : decode cX7_back 1 = .ok (.getfield 128, 3)), ?_⟩
  refine List.forall_mem_cons.mpr ⟨snd_if_ne (by decide +kernel : decode cX7_back 4 = .ok (.ifCond .ne 6, 3)) (by decide +kernel), ?_⟩
  refine List.forall_mem_cons.mpr ⟨snd_bipush (by decide +kernel : decode cX7_back 7 = .ok (.bipush (-2), 2)) (by decide +kernel), ?_⟩
  refine List.forall_mem_cons.mpr ⟨snd_iret (by decide +kernel : decode cX7_back 9 = .ok (.ireturn, 1)), ?_⟩
  refine List.forall_mem_cons.mpr ⟨snd_aload_n (by decide +kernel : decode cX7_back 10 = .ok (.aload_n 0, 1)) rfl, ?_⟩
  refine List.forall_mem_cons.mpr ⟨snd_dup (by decide +kernel : decode cX7_back 11 = .ok (.dup, 1)), ?_⟩
  refine List.forall_mem_cons.mpr ⟨snd_get fl_7_128 (by decide +kernel : decode cX7_back 12 = .ok (.getfield 128, 3)), ?_⟩
  refine List.forall_mem_cons.mpr ⟨snd_iconst (by decide +kernel : decode cX7_back 15 = .ok (.iconst 1, 1)) (by decide +kernel), ?_⟩
  refine List.forall_mem_cons.mpr ⟨snd_isub (by decide +kernel : decode cX7_back 16 = .ok (.isub, 1)), ?_⟩
  refine List.forall_mem_cons.mpr ⟨snd_put fl_7_128 (by decide +kernel : decode cX7_back 17 = .ok (.putfield 128, 3)), ?_⟩
  refine List.forall_mem_cons.mpr ⟨snd_aload_n (by decide +kernel : decode cX7_back 20 = .ok (.aload_n 0, 1)) rfl, ?_⟩
  refine List.forall_mem_cons.mpr ⟨snd_aload_n (by decide +kernel : decode cX7_back 21 = .ok (.aload_n 0, 1)) rfl, ?_⟩
  refine List.forall_mem_cons.mpr ⟨snd_get fl_7_61 (by decide +kernel : decode cX7_back 22 = .ok (.getfield 61, 3)), ?_⟩
  refine List.forall_mem_cons.mpr ⟨snd_bipush (by decide +kernel : decode cX7_back 25 = .ok (.bipush 42, 2)) (by decide +kernel), ?_⟩
  refine List.forall_mem_cons.mpr ⟨snd_aload_n (by decide +kernel : decode cX7_back 27 = .ok (.aload_n 0, 1)) rfl, ?_⟩
  refine List.forall_mem_cons.mpr ⟨snd_get fl_7_128 (by decide +kernel : decode cX7_back 28 = .ok (.getfield 128, 3)), ?_⟩
  refine List.forall_mem_cons.mpr ⟨snd_imul (by decide +kernel : decode cX7_back 31 = .ok (.imul, 1)), ?_⟩
  refine List.forall_mem_cons.mpr ⟨snd_callV mok_145 wd_656 wd_659 wd_660 rfl rfl (by decide +kernel : decode cX7_back 32 = .ok (.invokevirtual 164, 3)), ?_⟩
  refine List.forall_mem_cons.mpr ⟨snd_aload_n (by decide +kernel : decode cX7_back 35 = .ok (.aload_n 0, 1)) rfl, ?_⟩
  refine List.forall_mem_cons.mpr ⟨snd_iconst (by decide +kernel : decode cX7_back 36 = .ok (.iconst 0, 1)) (by decide +kernel), ?_⟩
  refine List.forall_mem_cons.mpr ⟨snd_put fl_7_125 (by decide +kernel : decode cX7_back 37 = .ok (.putfield 125, 3)), ?_⟩
  refine List.forall_mem_cons.mpr ⟨snd_aload_n (by decide +kernel : decode cX7_back 40 = .ok (.aload_n 0, 1)) rfl, ?_⟩
  refine List.forall_mem_cons.mpr ⟨snd_get fl_7_128 (by decide +kernel : decode cX7_back 41 = .ok (.getfield 128, 3)), ?_⟩
  refine List.forall_mem_cons.mpr ⟨snd_iret (by decide +kernel : decode cX7_back 44 = .ok (.ireturn, 1)), ?_⟩
  exact fun _ h => absurd h List.not_mem_nil
theorem m_X7_back : ∀ q ∈ k_X7_back, Mono q.2 := by
  unfold k_X7_back
  refine List.forall_mem_cons.mpr ⟨mo_aload _ _, ?_⟩
  refine List.forall_mem_cons.mpr ⟨mo_get _ _, ?_⟩
  refine List.forall_mem_cons.mpr ⟨mo_if _ _ _, ?_⟩
  refine List.forall_mem_cons.mpr ⟨mo_push _ _, ?_⟩
  refine List.forall_mem_cons.mpr ⟨mo_iret, ?_⟩
  refine List.forall_mem_cons.mpr ⟨mo_aload _ _, ?_⟩
  refine List.forall_mem_cons.mpr ⟨mo_dup, ?_⟩
  refine List.forall_mem_cons.mpr ⟨mo_get _ _, ?_⟩
  refine List.forall_mem_cons.mpr ⟨mo_push _ _, ?_⟩
  refine List.forall_mem_cons.mpr ⟨mo_bin _, ?_⟩
  refine List.forall_mem_cons.mpr ⟨mo_put _ _, ?_⟩
  refine List.forall_mem_cons.mpr ⟨mo_aload _ _, ?_⟩
  refine List.forall_mem_cons.mpr ⟨mo_aload _ _, ?_⟩
  refine List.forall_mem_cons.mpr ⟨mo_get _ _, ?_⟩
  refine List.forall_mem_cons.mpr ⟨mo_push _ _, ?_⟩
  refine List.forall_mem_cons.mpr ⟨mo_aload _ _, ?_⟩
  refine List.forall_mem_cons.mpr ⟨mo_get _ _, ?_⟩
  refine List.forall_mem_cons.mpr ⟨mo_bin _, ?_⟩
  refine List.forall_mem_cons.mpr ⟨mo_call _ _ _, ?_⟩
  refine List.forall_mem_cons.mpr ⟨mo_aload _ _, ?_⟩
  refine List.forall_mem_cons.mpr ⟨mo_push _ _, ?_⟩
  refine List.forall_mem_cons.mpr ⟨mo_put _ _, ?_⟩
  refine List.forall_mem_cons.mpr ⟨mo_aload _ _, ?_⟩
  refine List.forall_mem_cons.mpr ⟨mo_get _ _, ?_⟩
  refine List.forall_mem_cons.mpr ⟨mo_iret, ?_⟩
  exact fun _ h => absurd h List.not_mem_nil
def k_X7_count : List (Nat × aI) := [
  (0, i_iload 1 1),
  (1, i_push (.int 0) 1),
  (2, i_push (.int 9) 2),
  (4, i_callS 117 3),
  (7, i_if (fun x => x = 0) 10 12),
  (10, i_push (.int (-1)) 1),
  (11, i_iret),
  (12, i_iload 1 1),
  (13, i_tsw 0 8 [64, 69, 74, 79, 84, 92, 100, 105, 110] 115),
  (64, i_aload 0 1),
  (65, i_get 7 0),
  (68, i_iret),
  (69, i_aload 0 1),
  (70, i_get 7 1),
  (73, i_iret),
  (74, i_aload 0 1),
  (75, i_get 7 3),
  (78, i_iret),
  (79, i_aload 0 1),
  (80, i_callV 143 1 7),
  (83, i_iret),
  (84, i_aload 0 1),
  (85, i_callV 142 1 7),
  (88, i_callS 119 1),
  (91, i_iret),
  (92, i_aload 0 1),
  (93, i_callV 141 1 7),
  (96, i_callS 119 1),
  (99, i_iret),
  (100, i_aload 0 1),
  (101, i_get 7 7),
  (104, i_iret),
  (105, i_aload 0 1),
  (106, i_get 7 22),
  (109, i_iret),
  (110, i_aload 0 1),
  (111, i_get 7 27),
  (114, i_iret),
  (115, i_aload 0 1),
  (116, i_get 7 12),
  (119, i_iret)]
theorem s_X7_count : ∀ q ∈ k_X7_count, Snd RX7 cX7_count (some .int) false q.1 q.2 := by
  unfold k_X7_count
  refine List.forall_mem_cons.mpr ⟨snd_iload_n (by decide +kernel : decode cX7_count 0 = .ok (.iload_n 1, 1)) rfl, ?_⟩
  refine List.forall_mem_cons.mpr ⟨snd_iconst (by decide +kernel : decode cX7_count 1 = .ok (.iconst 0, 1)) (by decide +kernel), ?_⟩
  refine List.forall_mem_cons.mpr ⟨snd_bipush (by decide +kernel : decode cX7_count 2 = .ok (.bipush 9, 2)) (by decide +kernel), ?_⟩
  refine List.forall_mem_cons.mpr ⟨snd_callS mok_117 wd_554 wd_557 (by decide +kernel : decode cX7_count 4 = .ok (.invokestatic 75, 3)), ?_⟩
  refine List.forall_mem_cons.mpr ⟨snd_if_ne (by decide +kernel : decode cX7_count 7 = .ok (.ifCond .ne 5, 3)) (by decide +kernel), ?_⟩
  refine List.forall_mem_cons.mpr ⟨snd_iconst (by decide +kernel : decode cX7_count 10 = .ok (.iconst (-1), 1)) (by decide +kernel), ?_⟩
  refine List.forall_mem_cons.mpr ⟨snd_iret (by decide +kernel : decode cX7_count 11 = .ok (.ireturn, 1)), ?_⟩
  refine List.forall_mem_cons.mpr ⟨snd_iload_n (by decide +kernel : decode cX7_count 12 = .ok (.iload_n 1, 1)) rfl, ?_⟩
  refine List.forall_mem_cons.mpr ⟨snd_tsw (by decide +kernel : decode cX7_count 13 = .ok (.tableswitch 102 0 8 #[51, 56, 61, 66, 71, 79, 87, 92, 97], 51)) (by decide +kernel) (by decide +kernel) (by decide +kernel), ?_⟩
  refine List.forall_mem_cons.mpr ⟨snd_aload_n (by decide +kernel : decode cX7_count 64 = .ok (.aload_n 0, 1)) rfl, ?_⟩
  refine List.forall_mem_cons.mpr ⟨snd_get fl_7_72 (by decide +kernel : decode cX7_count 65 = .ok (.getfield 72, 3)), ?_⟩
  refine List.forall_mem_cons.mpr ⟨snd_iret (by decide +kernel : decode cX7_count 68 = .ok (.ireturn, 1)), ?_⟩
  refine List.forall_mem_cons.mpr ⟨snd_aload_n (by decide +kernel : decode cX7_count 69 = .ok (.aload_n 0, 1)) rfl, ?_⟩
  refine List.forall_mem_cons.mpr ⟨snd_get fl_7_64 (by decide +kernel : decode cX7_count 70 = .ok (.getfield 64, 3)), ?_⟩
  refine List.forall_mem_cons.mpr ⟨snd_iret (by decide +kernel : decode cX7_count 73 = .ok (.ireturn, 1)), ?_⟩
  refine List.forall_mem_cons.mpr ⟨snd_aload_n (by decide +kernel : decode cX7_count 74 = .ok (.aload_n 0, 1)) rfl, ?_⟩
  refine List.forall_mem_cons.mpr ⟨snd_get fl_7_119 (by decide +kernel : decode cX7_count 75 = .ok (.getfield 119, 3)), ?_⟩
  refine List.forall_mem_cons.mpr ⟨snd_iret (by decide +kernel : decode cX7_count 78 = .ok (.ireturn, 1)), ?_⟩
  refine List.forall_mem_cons.mpr ⟨snd_aload_n (by decide +kernel : decode cX7_count 79 = .ok (.aload_n 0, 1)) rfl, ?_⟩
  refine List.forall_mem_cons.mpr ⟨snd_callV mok_143 wd_646 wd_649 wd_650 rfl rfl (by decide +kernel : decode cX7_count 80 = .ok (.invokevirtual 158, 3)), ?_⟩
  refine List.forall_mem_cons.mpr ⟨snd_iret (by decide +kernel : decode cX7_count 83 = .ok (.ireturn, 1)), ?_⟩
  refine List.forall_mem_cons.mpr ⟨snd_aload_n (by decide +kernel : decode cX7_count 84 = .ok (.aload_n 0, 1)) rfl, ?_⟩
  refine List.forall_mem_cons.mpr ⟨snd_callV mok_142 wd_719 wd_722 wd_723 rfl rfl (by decide +kernel : decode cX7_count 85 = .ok (.invokevirtual 214, 3)), ?_⟩
  refine List.forall_mem_cons.mpr ⟨snd_callS mok_119 wd_690 wd_693 (by decide +kernel : decode cX7_count 88 = .ok (.invokestatic 186, 3)), ?_⟩
  refine List.forall_mem_cons.mpr ⟨snd_iret (by decide +kernel : decode cX7_count 91 = .ok (.ireturn, 1)), ?_⟩
  refine List.forall_mem_cons.mpr ⟨snd_aload_n (by decide +kernel : decode cX7_count 92 = .ok (.aload_n 0, 1)) rfl, ?_⟩
  refine List.forall_mem_cons.mpr ⟨snd_callV mok_141 wd_671 wd_674 wd_675 rfl rfl (by decide +kernel : decode cX7_count 93 = .ok (.invokevirtual 173, 3)), ?_⟩
  refine List.forall_mem_cons.mpr ⟨snd_callS mok_119 wd_690 wd_693 (by decide +kernel : decode cX7_count 96 = .ok (.invokestatic 186, 3)), ?_⟩
  refine List.forall_mem_cons.mpr ⟨snd_iret (by decide +kernel : decode cX7_count 99 = .ok (.ireturn, 1)), ?_⟩
  refine List.forall_mem_cons.mpr ⟨snd_aload_n (by decide +kernel : decode cX7_count 100 = .ok (.aload_n 0, 1)) rfl, ?_⟩
  refine List.forall_mem_cons.mpr ⟨snd_get fl_7_122 (by decide +kernel : decode cX7_count 101 = .ok (.getfield 122, 3)), ?_⟩
  refine List.forall_mem_cons.mpr ⟨snd_iret (by decide +kernel : decode cX7_count 104 = .ok (.ireturn, 1)), ?_⟩
  refine List.forall_mem_cons.mpr ⟨snd_aload_n (by decide +kernel : decode cX7_count 105 = .ok (.aload_n 0, 1)) rfl, ?_⟩
  refine List.forall_mem_cons.mpr ⟨snd_get fl_7_125 (by decide +kernel : decode cX7_count 106 = .ok (.getfield 125, 3)), ?_⟩
  refine List.forall_mem_cons.mpr ⟨snd_iret (by decide +kernel : decode cX7_count 109 = .ok (.ireturn, 1)), ?_⟩
  refine List.forall_mem_cons.mpr ⟨snd_aload_n (by decide +kernel : decode cX7_count 110 = .ok (.aload_n 0, 1)) rfl, ?_⟩
  refine List.forall_mem_cons.mpr ⟨snd_get fl_7_128 (by decide +kernel : decode cX7_count 111 = .ok (.getfield 128, 3)), ?_⟩
  refine List.forall_mem_cons.mpr ⟨snd_iret (by decide +kernel : decode cX7_count 114 = .ok (.ireturn, 1)), ?_⟩
  refine List.forall_mem_cons.mpr ⟨snd_aload_n (by decide +kernel : decode cX7_count 115 = .ok (.aload_n 0, 1)) rfl, ?_⟩
  refine List.forall_mem_cons.mpr ⟨snd_get fl_7_79 (by decide +kernel : decode cX7_count 116 = .ok (.getfield 79, 3)), ?_⟩
  refine List.forall_mem_cons.mpr ⟨snd_iret (by decide +kernel : decode cX7_count 119 = .ok (.ireturn, 1)), ?_⟩
  exact fun _ h => absurd h List.not_mem_nil
theorem m_X7_count : ∀ q ∈ k_X7_count, Mono q.2 := by
  unfold k_X7_count
  refine List.forall_mem_cons.mpr ⟨mo_iload _ _, ?_⟩
  refine List.forall_mem_cons.mpr ⟨mo_push _ _, ?_⟩
  refine List.forall_mem_cons.mpr ⟨mo_push _ _, ?_⟩
  refine List.forall_mem_cons.mpr ⟨mo_call _ _ _, ?_⟩
  refine List.forall_mem_cons.mpr ⟨mo_if _ _ _, ?_⟩
  refine List.forall_mem_cons.mpr ⟨mo_push _ _, ?_⟩
  refine List.forall_mem_cons.mpr ⟨mo_iret, ?_⟩
  refine List.forall_mem_cons.mpr ⟨mo_iload _ _, ?_⟩
  refine List.forall_mem_cons.mpr ⟨mo_tsw _ _ _ _, ?_⟩
  refine List.forall_mem_cons.mpr ⟨mo_aload _ _, ?_⟩
  refine List.forall_mem_cons.mpr ⟨mo_get _ _, ?_⟩
  refine List.forall_mem_cons.mpr ⟨mo_iret, ?_⟩
  refine List.forall_mem_cons.mpr ⟨mo_aload _ _, ?_⟩
  refine List.forall_mem_cons.mpr ⟨mo_get _ _, ?_⟩
  refine List.forall_mem_cons.mpr ⟨mo_iret, ?_⟩
  refine List.forall_mem_cons.mpr ⟨mo_aload _ _, ?_⟩
  refine List.forall_mem_cons.mpr ⟨mo_get _ _, ?_⟩
  refine List.forall_mem_cons.mpr ⟨mo_iret, ?_⟩
  refine List.forall_mem_cons.mpr ⟨mo_aload _ _, ?_⟩
  refine List.forall_mem_cons.mpr ⟨mo_call _ _ _, ?_⟩
  refine List.forall_mem_cons.mpr ⟨mo_iret, ?_⟩
  refine List.forall_mem_cons.mpr ⟨mo_aload _ _, ?_⟩
  refine List.forall_mem_cons.mpr ⟨mo_call _ _ _, ?_⟩
  refine List.forall_mem_cons.mpr ⟨mo_call _ _ _, ?_⟩
  refine List.forall_mem_cons.mpr ⟨mo_iret, ?_⟩
  refine List.forall_mem_cons.mpr ⟨mo_aload _ _, ?_⟩
  refine List.forall_mem_cons.mpr ⟨mo_call _ _ _, ?_⟩
  refine List.forall_mem_cons.mpr ⟨mo_call _ _ _, ?_⟩
  refine List.forall_mem_cons.mpr ⟨mo_iret, ?_⟩
  refine List.forall_mem_cons.mpr ⟨mo_aload _ _, ?_⟩
  refine List.forall_mem_cons.mpr ⟨mo_get _ _, ?_⟩
  refine List.forall_mem_cons.mpr ⟨mo_iret, ?_⟩
  refine List.forall_mem_cons.mpr ⟨mo_aload _ _, ?_⟩
  refine List.forall_mem_cons.mpr ⟨mo_get _ _, ?_⟩
  refine List.forall_mem_cons.mpr ⟨mo_iret, ?_⟩
  refine List.forall_mem_cons.mpr ⟨mo_aload _ _, ?_⟩
  refine List.forall_mem_cons.mpr ⟨mo_get _ _, ?_⟩
  refine List.forall_mem_cons.mpr ⟨mo_iret, ?_⟩
  refine List.forall_mem_cons.mpr ⟨mo_aload _ _, ?_⟩
  refine List.forall_mem_cons.mpr ⟨mo_get _ _, ?_⟩
  refine List.forall_mem_cons.mpr ⟨mo_iret, ?_⟩
  exact fun _ h => absurd h List.not_mem_nil
