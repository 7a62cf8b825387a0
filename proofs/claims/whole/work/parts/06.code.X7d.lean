def k_X7_one : List (Nat × aI) := [
  (0, i_iload 1 1),
  (1, i_push (.int 0) 1),
  (2, i_push (.int 40) 2),
  (4, i_callS 117 3),
  (7, i_if (fun x => x = 0) 19 10),
  (10, i_iload 2 1),
  (11, i_push (.int 0) 1),
  (12, i_push (.int 1) 1),
  (13, i_callS 117 3),
  (16, i_if (fun x => x = 0) 19 21),
  (19, i_push (.int (-1)) 1),
  (20, i_iret),
  (21, i_push (.int (-4)) 2),
  (23, i_istore 3 1),
  (24, i_push (.int (-1)) 1),
  (25, i_istore 4 2),
  (27, i_push (.int 0) 1),
  (28, i_istore 5 2),
  (30, i_iload 5 2),
  (32, i_push (.int 100) 2),
  (34, i_aload 0 1),
  (35, i_get 7 0),
  (38, i_bin (fun x y => x * y)),
  (39, i_icmp (fun x y => x < y) 42 179),
  (42, i_iload 5 2),
  (44, i_push (.int 100) 2),
  (46, i_div (fun x y => x / y)),
  (47, i_istore 6 2),
  (49, i_iload 5 2),
  (51, i_push (.int 10) 2),
  (53, i_div (fun x y => x / y)),
  (54, i_push (.int 10) 2),
  (56, i_div (fun x y => x - x / y * y)),
  (57, i_istore 7 2),
  (59, i_iload 7 2),
  (61, i_aload 0 1),
  (62, i_get 7 1),
  (65, i_icmp (fun x y => x < y) 68 173),
  (68, i_aload 0 1),
  (69, i_get 7 4),
  (72, i_push (.int 5) 1),
  (73, i_iload 6 2),
  (75, i_bin (fun x y => x * y)),
  (76, i_iload 7 2),
  (78, i_bin (fun x y => x + y)),
  (79, i_iald),
  (80, i_istore 8 2),
  (82, i_aload 0 1),
  (83, i_get 7 4),
  (86, i_push (.int 5) 1),
  (87, i_iload 6 2),
  (89, i_bin (fun x y => x * y)),
  (90, i_iload 7 2),
  (92, i_bin (fun x y => x + y)),
  (93, i_iload 5 2),
  (95, i_push (.int 10) 2),
  (97, i_div (fun x y => x - x / y * y)),
  (98, i_iast),
  (99, i_aload 0 1),
  (100, i_iload 1 1),
  (101, i_callV 161 2 7),
  (104, i_callS 119 1),
  (107, i_istore 9 2),
  (109, i_aload 0 1),
  (110, i_get 7 4),
  (113, i_push (.int 5) 1),
  (114, i_iload 6 2),
  (116, i_bin (fun x y => x * y)),
  (117, i_iload 7 2),
  (119, i_bin (fun x y => x + y)),
  (120, i_iload 8 2),
  (122, i_iast),
  (123, i_iload 8 2),
  (125, i_iload 5 2),
  (127, i_push (.int 10) 2),
  (129, i_div (fun x y => x - x / y * y)),
  (130, i_icmp (fun x y => x = y) 144 133),
  (133, i_iload 9 2),
  (135, i_iload 4 2),
  (137, i_icmp (fun x y => y < x) 140 144),
  (140, i_push (.int 1) 1),
  (141, i_goto 145),
  (144, i_push (.int 0) 1),
  (145, i_istore 10 2),
  (147, i_iload 10 2),
  (149, i_if (fun x => x = 0) 157 152),
  (152, i_iload 5 2),
  (154, i_goto 158),
  (157, i_iload 3 1),
  (158, i_istore 3 1),
  (159, i_iload 10 2),
  (161, i_if (fun x => x = 0) 169 164),
  (164, i_iload 9 2),
  (166, i_goto 171),
  (169, i_iload 4 2),
  (171, i_istore 4 2),
  (173, i_iinc 5 1),
  (176, i_goto 30),
  (179, i_iload 2 1),
  (180, i_if (fun x => x = 0) 183 187),
  (183, i_iload 3 1),
  (184, i_goto 189),
  (187, i_iload 4 2),
  (189, i_iret)]
theorem s_X7_one : ∀ q ∈ k_X7_one, Snd RX7 cX7_one (some .int) false q.1 q.2 := by
  unfold k_X7_one
  refine List.forall_mem_cons.mpr ⟨snd_iload_n (by decide +kernel : decode cX7_one 0 = .ok (.iload_n 1, 1)) rfl, ?_⟩
  refine List.forall_mem_cons.mpr ⟨snd_iconst (by decide +kernel : decode cX7_one 1 = .ok (.iconst 0, 1)) (by decide +kernel), ?_⟩
  refine List.forall_mem_cons.mpr ⟨snd_bipush (by decide +kernel : decode cX7_one 2 = .ok (.bipush 40, 2)) (by decide +kernel), ?_⟩
  refine List.forall_mem_cons.mpr ⟨snd_callS mok_117 wd_554 wd_557 (by decide +kernel : decode cX7_one 4 = .ok (.invokestatic 75, 3)), ?_⟩
  refine List.forall_mem_cons.mpr ⟨snd_if_eq (by decide +kernel : decode cX7_one 7 = .ok (.ifCond .eq 12, 3)) (by decide +kernel), ?_⟩
  refine List.forall_mem_cons.mpr ⟨snd_iload_n (by decide +kernel : decode cX7_one 10 = .ok (.iload_n 2, 1)) rfl, ?_⟩
  refine List.forall_mem_cons.mpr ⟨snd_iconst (by decide +kernel : decode cX7_one 11 = .ok (.iconst 0, 1)) (by decide +kernel), ?_⟩
  refine List.forall_mem_cons.mpr ⟨snd_iconst (by decide +kernel : decode cX7_one 12 = .ok (.iconst 1, 1)) (by decide +kernel), ?_⟩
  refine List.forall_mem_cons.mpr ⟨snd_callS mok_117 wd_554 wd_557 (by decide +kernel : decode cX7_one 13 = .ok (.invokestatic 75, 3)), ?_⟩
  refine List.forall_mem_cons.mpr ⟨snd_if_ne (by decide +kernel : decode cX7_one 16 = .ok (.ifCond .ne 5, 3)) (by decide +kernel), ?_⟩
  refine List.forall_mem_cons.mpr ⟨snd_iconst (by decide +kernel : decode cX7_one 19 = .ok (.iconst (-1), 1)) (by decide +kernel), ?_⟩
  refine List.forall_mem_cons.mpr ⟨snd_iret (by decide +kernel : decode cX7_one 20 = .ok (.ireturn, 1)), ?_⟩
  refine List.forall_mem_cons.mpr ⟨snd_bipush (by decide +kernel : decode cX7_one 21 = .ok (.bipush (-4), 2)) (by decide +kernel), ?_⟩
  refine List.forall_mem_cons.mpr ⟨snd_istore_n (by decide +kernel : decode cX7_one 23 = .ok (.istore_n 3, 1)) rfl, ?_⟩
  refine List.forall_mem_cons.mpr ⟨snd_iconst (by decide +kernel : decode cX7_one 24 = .ok (.iconst (-1), 1)) (by decide +kernel), ?_⟩
  refine List.forall_mem_cons.mpr ⟨snd_istore (by decide +kernel : decode cX7_one 25 = .ok (.istore 4, 2)), ?_⟩
  refine List.forall_mem_cons.mpr ⟨snd_iconst (by decide +kernel : decode cX7_one 27 = .ok (.iconst 0, 1)) (by decide +kernel), ?_⟩
  refine List.forall_mem_cons.mpr ⟨snd_istore (by decide +kernel : decode cX7_one 28 = .ok (.istore 5, 2)), ?_⟩
  refine List.forall_mem_cons.mpr ⟨snd_iload (by decide +kernel : decode cX7_one 30 = .ok (.iload 5, 2)), ?_⟩
  refine List.forall_mem_cons.mpr ⟨snd_bipush (by decide +kernel : decode cX7_one 32 = .ok (.bipush 100, 2)) (by decide +kernel), ?_⟩
  refine List.forall_mem_cons.mpr ⟨snd_aload_n (by decide +kernel : decode cX7_one 34 = .ok (.aload_n 0, 1)) rfl, ?_⟩
  refine List.forall_mem_cons.mpr ⟨snd_get fl_7_72 (by decide +kernel : decode cX7_one 35 = .ok (.getfield 72, 3)), ?_⟩
  refine List.forall_mem_cons.mpr ⟨snd_imul (by decide +kernel : decode cX7_one 38 = .ok (.imul, 1)), ?_⟩
  refine List.forall_mem_cons.mpr ⟨snd_icmp_ge (by decide +kernel : decode cX7_one 39 = .ok (.if_icmp .ge 140, 3)) (by decide +kernel), ?_⟩
  refine List.forall_mem_cons.mpr ⟨snd_iload (by decide +kernel : decode cX7_one 42 = .ok (.iload 5, 2)), ?_⟩
  refine List.forall_mem_cons.mpr ⟨snd_bipush (by decide +kernel : decode cX7_one 44 = .ok (.bipush 100, 2)) (by decide +kernel), ?_⟩
  refine List.forall_mem_cons.mpr ⟨snd_idiv (by decide +kernel : decode cX7_one 46 = .ok (.idiv, 1)), ?_⟩
  refine List.forall_mem_cons.mpr ⟨snd_istore (by decide +kernel : decode cX7_one 47 = .ok (.istore 6, 2)), ?_⟩
  refine List.forall_mem_cons.mpr ⟨snd_iload (by decide +kernel : decode cX7_one 49 = .ok (.iload 5, 2)), ?_⟩
  refine List.forall_mem_cons.mpr ⟨snd_bipush (by decide +kernel : decode cX7_one 51 = .ok (.bipush 10, 2)) (by decide +kernel), ?_⟩
  refine List.forall_mem_cons.mpr ⟨snd_idiv (by decide +kernel : decode cX7_one 53 = .ok (.idiv, 1)), ?_⟩
  refine List.forall_mem_cons.mpr ⟨snd_bipush (by decide +kernel : decode cX7_one 54 = .ok (.bipush 10, 2)) (by decide +kernel), ?_⟩
  refine List.forall_mem_cons.mpr ⟨snd_irem (by decide +kernel : decode cX7_one 56 = .ok (.irem, 1)), ?_⟩
  refine List.forall_mem_cons.mpr ⟨snd_istore (by decide +kernel : decode cX7_one 57 = .ok (.istore 7, 2)), ?_⟩
  refine List.forall_mem_cons.mpr ⟨snd_iload (by decide +kernel : decode cX7_one 59 = .ok (.iload 7, 2)), ?_⟩
  refine List.forall_mem_cons.mpr ⟨snd_aload_n (by decide +kernel : decode cX7_one 61 = .ok (.aload_n 0, 1)) rfl, ?_⟩
  refine List.forall_mem_cons.mpr ⟨snd_get fl_7_64 (by decide +kernel : decode cX7_one 62 = .ok (.getfield 64, 3)), ?_⟩
  refine List.forall_mem_cons.mpr ⟨snd_icmp_ge (by decide +kernel : decode cX7_one 65 = .ok (.if_icmp .ge 108, 3)) (by decide +kernel), ?_⟩
  refine List.forall_mem_cons.mpr ⟨snd_aload_n (by decide +kernel : decode cX7_one 68 = .ok (.aload_n 0, 1)) rfl, ?_⟩
  refine List.forall_mem_cons.mpr ⟨snd_get fl_7_13 (by decide +kernel : decode cX7_one 69 = .ok (.getfield 13, 3)), ?_⟩
  refine List.forall_mem_cons.mpr ⟨snd_iconst (by decide +kernel : decode cX7_one 72 = .ok (.iconst 5, 1)) (by decide +kernel), ?_⟩
  refine List.forall_mem_cons.mpr ⟨snd_iload (by decide +kernel : decode cX7_one 73 = .ok (.iload 6, 2)), ?_⟩
  refine List.forall_mem_cons.mpr ⟨snd_imul (by decide +kernel : decode cX7_one 75 = .ok (.imul, 1)), ?_⟩
  refine List.forall_mem_cons.mpr ⟨snd_iload (by decide +kernel : decode cX7_one 76 = .ok (.iload 7, 2)), ?_⟩
  refine List.forall_mem_cons.mpr ⟨snd_iadd (by decide +kernel : decode cX7_one 78 = .ok (.iadd, 1)), ?_⟩
  refine List.forall_mem_cons.mpr ⟨snd_iald (by decide +kernel : decode cX7_one 79 = .ok (.iaload, 1)), ?_⟩
  refine List.forall_mem_cons.mpr ⟨snd_istore (by decide +kernel : decode cX7_one 80 = .ok (.istore 8, 2)), ?_⟩
  refine List.forall_mem_cons.mpr ⟨snd_aload_n (by decide +kernel : decode cX7_one 82 = .ok (.aload_n 0, 1)) rfl, ?_⟩
  refine List.forall_mem_cons.mpr ⟨snd_get fl_7_13 (by decide +kernel : decode cX7_one 83 = .ok (.getfield 13, 3)), ?_⟩
  refine List.forall_mem_cons.mpr ⟨snd_iconst (by decide +kernel : decode cX7_one 86 = .ok (.iconst 5, 1)) (by decide +kernel), ?_⟩
  refine List.forall_mem_cons.mpr ⟨snd_iload (by decide +kernel : decode cX7_one 87 = .ok (.iload 6, 2)), ?_⟩
  refine List.forall_mem_cons.mpr ⟨snd_imul (by decide +kernel : decode cX7_one 89 = .ok (.imul, 1)), ?_⟩
  refine List.forall_mem_cons.mpr ⟨snd_iload (by decide +kernel : decode cX7_one 90 = .ok (.iload 7, 2)), ?_⟩
  refine List.forall_mem_cons.mpr ⟨snd_iadd (by decide +kernel : decode cX7_one 92 = .ok (.iadd, 1)), ?_⟩
  refine List.forall_mem_cons.mpr ⟨snd_iload (by decide +kernel : decode cX7_one 93 = .ok (.iload 5, 2)), ?_⟩
  refine List.forall_mem_cons.mpr ⟨snd_bipush (by decide +kernel : decode cX7_one 95 = .ok (.bipush 10, 2)) (by decide +kernel), ?_⟩
  refine List.forall_mem_cons.mpr ⟨snd_irem (by decide +kernel : decode cX7_one 97 = .ok (.irem, 1)), ?_⟩
  refine List.forall_mem_cons.mpr ⟨snd_iast (by decide +kernel : decode cX7_one 98 = .ok (.iastore, 1)), ?_⟩
  refine List.forall_mem_cons.mpr ⟨snd_aload_n (by decide +kernel : decode cX7_one 99 = .ok (.aload_n 0, 1)) rfl, ?_⟩
  refine List.forall_mem_cons.mpr ⟨snd_iload_n (by decide +kernel : decode cX7_one 100 = .ok (.iload_n 1, 1)) rfl, ?_⟩
  refine List.forall_mem_cons.mpr ⟨snd_callV mok_161 wd_676 wd_679 wd_680 rfl rfl (by decide +kernel : decode cX7_one 101 = .ok (.invokevirtual 176, 3)), ?_⟩
  refine List.forall_mem_cons.mpr ⟨snd_callS mok_119 wd_690 wd_693 (by decide +kernel : decode cX7_one 104 = .ok (.invokestatic 186, 3)), ?_⟩
  refine List.forall_mem_cons.mpr ⟨snd_istore (by decide +kernel : decode cX7_one 107 = .ok (.istore 9, 2)), ?_⟩
  refine List.forall_mem_cons.mpr ⟨snd_aload_n (by decide +kernel : decode cX7_one 109 = .ok (.aload_n 0, 1)) rfl, ?_⟩
  refine List.forall_mem_cons.mpr ⟨snd_get fl_7_13 (by decide +kernel : decode cX7_one 110 = .ok (.getfield 13, 3)), ?_⟩
  refine List.forall_mem_cons.mpr ⟨snd_iconst (by decide +kernel : decode cX7_one 113 = .ok (.iconst 5, 1)) (by decide +kernel), ?_⟩
  refine List.forall_mem_cons.mpr ⟨snd_iload (by decide +kernel : decode cX7_one 114 = .ok (.iload 6, 2)), ?_⟩
  refine List.forall_mem_cons.mpr ⟨snd_imul (by decide +kernel : decode cX7_one 116 = .ok (.imul, 1)), ?_⟩
  refine List.forall_mem_cons.mpr ⟨snd_iload (by decide +kernel : decode cX7_one 117 = .ok (.iload 7, 2)), ?_⟩
  refine List.forall_mem_cons.mpr ⟨snd_iadd (by decide +kernel : decode cX7_one 119 = .ok (.iadd, 1)), ?_⟩
  refine List.forall_mem_cons.mpr ⟨snd_iload (by decide +kernel : decode cX7_one 120 = .ok (.iload 8, 2)), ?_⟩
  refine List.forall_mem_cons.mpr ⟨snd_iast (by decide +kernel : decode cX7_one 122 = .ok (.iastore, 1)), ?_⟩
  refine List.forall_mem_cons.mpr ⟨snd_iload (by decide +kernel : decode cX7_one 123 = .ok (.iload 8, 2)), ?_⟩
  refine List.forall_mem_cons.mpr ⟨snd_iload (by decide +kernel : decode cX7_one 125 = .ok (.iload 5, 2)), ?_⟩
  refine List.forall_mem_cons.mpr ⟨snd_bipush (by decide +kernel : decode cX7_one 127 = .ok (.bipush 10, 2)) (by decide +kernel), ?_⟩
  refine List.forall_mem_cons.mpr ⟨snd_irem (by decide +kernel : decode cX7_one 129 = .ok (.irem, 1)), ?_⟩
  refine List.forall_mem_cons.mpr ⟨snd_icmp_eq (by decide +kernel : decode cX7_one 130 = .ok (.if_icmp .eq 14, 3)) (by decide +kernel), ?_⟩
  refine List.forall_mem_cons.mpr ⟨snd_iload (by decide +kernel : decode cX7_one 133 = .ok (.iload 9, 2)), ?_⟩
  refine List.forall_mem_cons.mpr ⟨snd_iload (by decide +kernel : decode cX7_one 135 = .ok (.iload 4, 2)), ?_⟩
  refine List.forall_mem_cons.mpr ⟨snd_icmp_le (by decide +kernel : decode cX7_one 137 = .ok (.if_icmp .le 7, 3)) (by decide +kernel), ?_⟩
  refine List.forall_mem_cons.mpr ⟨snd_iconst (by decide +kernel : decode cX7_one 140 = .ok (.iconst 1, 1)) (by decide +kernel), ?_⟩
  refine List.forall_mem_cons.mpr ⟨snd_goto (by decide +kernel : decode cX7_one 141 = .ok (.goto 4, 3)) (by decide +kernel), ?_⟩
  refine List.forall_mem_cons.mpr ⟨snd_iconst (by decide +kernel : decode cX7_one 144 = .ok (.iconst 0, 1)) (by decide +kernel), ?_⟩
  refine List.forall_mem_cons.mpr ⟨snd_istore (by decide +kernel : decode cX7_one 145 = .ok (.istore 10, 2)), ?_⟩
  refine List.forall_mem_cons.mpr ⟨snd_iload (by decide +kernel : decode cX7_one 147 = .ok (.iload 10, 2)), ?_⟩
  refine List.forall_mem_cons.mpr ⟨snd_if_eq (by decide +kernel : decode cX7_one 149 = .ok (.ifCond .eq 8, 3)) (by decide +kernel), ?_⟩
  refine List.forall_mem_cons.mpr ⟨snd_iload (by decide +kernel : decode cX7_one 152 = .ok (.iload 5, 2)), ?_⟩
  refine List.forall_mem_cons.mpr ⟨snd_goto (by decide +kernel : decode cX7_one 154 = .ok (.goto 4, 3)) (by decide +kernel), ?_⟩
  refine List.forall_mem_cons.mpr ⟨snd_iload_n (by decide +kernel : decode cX7_one 157 = .ok (.iload_n 3, 1)) rfl, ?_⟩
  refine List.forall_mem_cons.mpr ⟨snd_istore_n (by decide +kernel : decode cX7_one 158 = .ok (.istore_n 3, 1)) rfl, ?_⟩
  refine List.forall_mem_cons.mpr ⟨snd_iload (by decide +kernel : decode cX7_one 159 = .ok (.iload 10, 2)), ?_⟩
  refine List.forall_mem_cons.mpr ⟨snd_if_eq (by decide +kernel : decode cX7_one 161 = .ok (.ifCond .eq 8, 3)) (by decide +kernel), ?_⟩
  refine List.forall_mem_cons.mpr ⟨snd_iload (by decide +kernel : decode cX7_one 164 = .ok (.iload 9, 2)), ?_⟩
  refine List.forall_mem_cons.mpr ⟨snd_goto (by decide +kernel : decode cX7_one 166 = .ok (.goto 5, 3)) (by decide +kernel), ?_⟩
  refine List.forall_mem_cons.mpr ⟨snd_iload (by decide +kernel : decode cX7_one 169 = .ok (.iload 4, 2)), ?_⟩
  refine List.forall_mem_cons.mpr ⟨snd_istore (by decide +kernel : decode cX7_one 171 = .ok (.istore 4, 2)), ?_⟩
  refine List.forall_mem_cons.mpr ⟨snd_iinc (by decide +kernel : decode cX7_one 173 = .ok (.iinc 5 1, 3)) (by decide +kernel), ?_⟩
  refine List.forall_mem_cons.mpr ⟨snd_goto (by decide +kernel : decode cX7_one 176 = .ok (.goto (-146), 3)) (by decide +kernel), ?_⟩
  refine List.forall_mem_cons.mpr ⟨snd_iload_n (by decide +kernel : decode cX7_one 179 = .ok (.iload_n 2, 1)) rfl, ?_⟩
  refine List.forall_mem_cons.mpr ⟨snd_if_ne (by decide +kernel : decode cX7_one 180 = .ok (.ifCond .ne 7, 3)) (by decide +kernel), ?_⟩
  refine List.forall_mem_cons.mpr ⟨snd_iload_n (by decide +kernel : decode cX7_one 183 = .ok (.iload_n 3, 1)) rfl, ?_⟩
  refine List.forall_mem_cons.mpr ⟨snd_goto (by decide +kernel : decode cX7_one 184 = .ok (.goto 5, 3)) (by decide +kernel), ?_⟩
  refine List.forall_mem_cons.mpr ⟨snd_iload (by decide +kernel : decode cX7_one 187 = .ok (.iload 4, 2)), ?_⟩
  refine List.forall_mem_cons.mpr ⟨snd_iret (by decide +kernel : decode cX7_one 189 = .ok (.ireturn, 1)), ?_⟩
  exact fun _ h => absurd h List.not_mem_nil
theorem m_X7_one : ∀ q ∈ k_X7_one, Mono q.2 := by
  unfold k_X7_one
  refine List.forall_mem_cons.mpr ⟨mo_iload _ _, ?_⟩
  refine List.forall_mem_cons.mpr ⟨mo_push _ _, ?_⟩
  refine List.forall_mem_cons.mpr ⟨mo_push _ _, ?_⟩
  refine List.forall_mem_cons.mpr ⟨mo_call _ _ _, ?_⟩
  refine List.forall_mem_cons.mpr ⟨mo_if _ _ _, ?_⟩
  refine List.forall_mem_cons.mpr ⟨mo_iload _ _, ?_⟩
  refine List.forall_mem_cons.mpr ⟨mo_push _ _, ?_⟩
  refine List.forall_mem_cons.mpr ⟨mo_push _ _, ?_⟩
  refine List.forall_mem_cons.mpr ⟨mo_call _ _ _, ?_⟩
  refine List.forall_mem_cons.mpr ⟨mo_if _ _ _, ?_⟩
  refine List.forall_mem_cons.mpr ⟨mo_push _ _, ?_⟩
  refine List.forall_mem_cons.mpr ⟨mo_iret, ?_⟩
  refine List.forall_mem_cons.mpr ⟨mo_push _ _, ?_⟩
  refine List.forall_mem_cons.mpr ⟨mo_istore _ _, ?_⟩
  refine List.forall_mem_cons.mpr ⟨mo_push _ _, ?_⟩
  refine List.forall_mem_cons.mpr ⟨mo_istore _ _, ?_⟩
  refine List.forall_mem_cons.mpr ⟨mo_push _ _, ?_⟩
  refine List.forall_mem_cons.mpr ⟨mo_istore _ _, ?_⟩
  refine List.forall_mem_cons.mpr ⟨mo_iload _ _, ?_⟩
  refine List.forall_mem_cons.mpr ⟨mo_push _ _, ?_⟩
  refine List.forall_mem_cons.mpr ⟨mo_aload _ _, ?_⟩
  refine List.forall_mem_cons.mpr ⟨mo_get _ _, ?_⟩
  refine List.forall_mem_cons.mpr ⟨mo_bin _, ?_⟩
  refine List.forall_mem_cons.mpr ⟨mo_icmp _ _ _, ?_⟩
  refine List.forall_mem_cons.mpr ⟨mo_iload _ _, ?_⟩
  refine List.forall_mem_cons.mpr ⟨mo_push _ _, ?_⟩
  refine List.forall_mem_cons.mpr ⟨mo_div _, ?_⟩
  refine List.forall_mem_cons.mpr ⟨mo_istore _ _, ?_⟩
  refine List.forall_mem_cons.mpr ⟨mo_iload _ _, ?_⟩
  refine List.forall_mem_cons.mpr ⟨mo_push _ _, ?_⟩
  refine List.forall_mem_cons.mpr ⟨mo_div _, ?_⟩
  refine List.forall_mem_cons.mpr ⟨mo_push _ _, ?_⟩
  refine List.forall_mem_cons.mpr ⟨mo_div _, ?_⟩
  refine List.forall_mem_cons.mpr ⟨mo_istore _ _, ?_⟩
  refine List.forall_mem_cons.mpr ⟨mo_iload _ _, ?_⟩
  refine List.forall_mem_cons.mpr ⟨mo_aload _ _, ?_⟩
  refine List.forall_mem_cons.mpr ⟨mo_get _ _, ?_⟩
  refine List.forall_mem_cons.mpr ⟨mo_icmp _ _ _, ?_⟩
  refine List.forall_mem_cons.mpr ⟨mo_aload _ _, ?_⟩
  refine List.forall_mem_cons.mpr ⟨mo_get _ _, ?_⟩
  refine List.forall_mem_cons.mpr ⟨mo_push _ _, ?_⟩
  refine List.forall_mem_cons.mpr ⟨mo_iload _ _, ?_⟩
  refine List.forall_mem_cons.mpr ⟨mo_bin _, ?_⟩
  refine List.forall_mem_cons.mpr ⟨mo_iload _ _, ?_⟩
  refine List.forall_mem_cons.mpr ⟨mo_bin _, ?_⟩
  refine List.forall_mem_cons.mpr ⟨mo_iald, ?_⟩
  refine List.forall_mem_cons.mpr ⟨mo_istore _ _, ?_⟩
  refine List.forall_mem_cons.mpr ⟨mo_aload _ _, ?_⟩
  refine List.forall_mem_cons.mpr ⟨mo_get _ _, ?_⟩
  refine List.forall_mem_cons.mpr ⟨mo_push _ _, ?_⟩
  refine List.forall_mem_cons.mpr ⟨mo_iload _ _, ?_⟩
  refine List.forall_mem_cons.mpr ⟨mo_bin _, ?_⟩
  refine List.forall_mem_cons.mpr ⟨mo_iload _ _, ?_⟩
  refine List.forall_mem_cons.mpr ⟨mo_bin _, ?_⟩
  refine List.forall_mem_cons.mpr ⟨mo_iload _ _, ?_⟩
  refine List.forall_mem_cons.mpr ⟨mo_push _ _, ?_⟩
  refine List.forall_mem_cons.mpr ⟨mo_div _, ?_⟩
  refine List.forall_mem_cons.mpr ⟨mo_iast, ?_⟩
  refine List.forall_mem_cons.mpr ⟨mo_aload _ _, ?_⟩
  refine List.forall_mem_cons.mpr ⟨mo_iload _ _, ?_⟩
  refine List.forall_mem_cons.mpr ⟨mo_call _ _ _, ?_⟩
  refine List.forall_mem_cons.mpr ⟨mo_call _ _ _, ?_⟩
  refine List.forall_mem_cons.mpr ⟨mo_istore _ _, ?_⟩
  refine List.forall_mem_cons.mpr ⟨mo_aload _ _, ?_⟩
  refine List.forall_mem_cons.mpr ⟨mo_get _ _, ?_⟩
  refine List.forall_mem_cons.mpr ⟨mo_push _ _, ?_⟩
  refine List.forall_mem_cons.mpr ⟨mo_iload _ _, ?_⟩
  refine List.forall_mem_cons.mpr ⟨mo_bin _, ?_⟩
  refine List.forall_mem_cons.mpr ⟨mo_iload _ _, ?_⟩
  refine List.forall_mem_cons.mpr ⟨mo_bin _, ?_⟩
  refine List.forall_mem_cons.mpr ⟨mo_iload _ _, ?_⟩
  refine List.forall_mem_cons.mpr ⟨mo_iast, ?_⟩
  refine List.forall_mem_cons.mpr ⟨mo_iload _ _, ?_⟩
  refine List.forall_mem_cons.mpr ⟨mo_iload _ _, ?_⟩
  refine List.forall_mem_cons.mpr ⟨mo_push _ _, ?_⟩
  refine List.forall_mem_cons.mpr ⟨mo_div _, ?_⟩
  refine List.forall_mem_cons.mpr ⟨mo_icmp _ _ _, ?_⟩
  refine List.forall_mem_cons.mpr ⟨mo_iload _ _, ?_⟩
  refine List.forall_mem_cons.mpr ⟨mo_iload _ _, ?_⟩
  refine List.forall_mem_cons.mpr ⟨mo_icmp _ _ _, ?_⟩
  refine List.forall_mem_cons.mpr ⟨mo_push _ _, ?_⟩
  refine List.forall_mem_cons.mpr ⟨mo_goto _, ?_⟩
  refine List.forall_mem_cons.mpr ⟨mo_push _ _, ?_⟩
  refine List.forall_mem_cons.mpr ⟨mo_istore _ _, ?_⟩
  refine List.forall_mem_cons.mpr ⟨mo_iload _ _, ?_⟩
  refine List.forall_mem_cons.mpr ⟨mo_if _ _ _, ?_⟩
  refine List.forall_mem_cons.mpr ⟨mo_iload _ _, ?_⟩
  refine List.forall_mem_cons.mpr ⟨mo_goto _, ?_⟩
  refine List.forall_mem_cons.mpr ⟨mo_iload _ _, ?_⟩
  refine List.forall_mem_cons.mpr ⟨mo_istore _ _, ?_⟩
  refine List.forall_mem_cons.mpr ⟨mo_iload _ _, ?_⟩
  refine List.forall_mem_cons.mpr ⟨mo_if _ _ _, ?_⟩
  refine List.forall_mem_cons.mpr ⟨mo_iload _ _, ?_⟩
  refine List.forall_mem_cons.mpr ⟨mo_goto _, ?_⟩
  refine List.forall_mem_cons.mpr ⟨mo_iload _ _, ?_⟩
  refine List.forall_mem_cons.mpr ⟨mo_istore _ _, ?_⟩
  refine List.forall_mem_cons.mpr ⟨mo_iinc _ _, ?_⟩
  refine List.forall_mem_cons.mpr ⟨mo_goto _, ?_⟩
  refine List.forall_mem_cons.mpr ⟨mo_iload _ _, ?_⟩
  refine List.forall_mem_cons.mpr ⟨mo_if _ _ _, ?_⟩
  refine List.forall_mem_cons.mpr ⟨mo_iload _ _, ?_⟩
  refine List.forall_mem_cons.mpr ⟨mo_goto _, ?_⟩
  refine List.forall_mem_cons.mpr ⟨mo_iload _ _, ?_⟩
  refine List.forall_mem_cons.mpr ⟨mo_iret, ?_⟩
  exact fun _ h => absurd h List.not_mem_nil
def k_X7_harm : List (Nat × aI) := [
  (0, i_iload 1 1),
  (1, i_push (.int 0) 1),
  (2, i_push (.int 40) 2),
  (4, i_callS 117 3),
  (7, i_if (fun x => x = 0) 19 10),
  (10, i_iload 2 1),
  (11, i_push (.int 0) 1),
  (12, i_push (.int 1) 1),
  (13, i_callS 117 3),
  (16, i_if (fun x => x = 0) 19 21),
  (19, i_push (.int (-1)) 1),
  (20, i_iret),
  (21, i_push (.int (-4)) 2),
  (23, i_istore 3 1),
  (24, i_push (.int 1048576) 2),
  (26, i_istore 4 2),
  (28, i_push (.int 0) 1),
  (29, i_istore 5 2),
  (31, i_iload 5 2),
  (33, i_aload 0 1),
  (34, i_get 7 0),
  (37, i_icmp (fun x y => x < y) 40 112),
  (40, i_aload 0 1),
  (41, i_get 7 5),
  (44, i_iload 5 2),
  (46, i_iald),
  (47, i_if (fun x => x = 0) 50 106),
  (50, i_aload 0 1),
  (51, i_get 7 5),
  (54, i_iload 5 2),
  (56, i_push (.int 1) 1),
  (57, i_iast),
  (58, i_aload 0 1),
  (59, i_iload 1 1),
  (60, i_callV 161 2 7),
  (63, i_callS 119 1),
  (66, i_istore 6 2),
  (68, i_aload 0 1),
  (69, i_get 7 5),
  (72, i_iload 5 2),
  (74, i_push (.int 0) 1),
  (75, i_iast),
  (76, i_iload 6 2),
  (78, i_iload 4 2),
  (80, i_icmp (fun x y => x < y) 83 88),
  (83, i_iload 5 2),
  (85, i_goto 89),
  (88, i_iload 3 1),
  (89, i_istore 3 1),
  (90, i_iload 6 2),
  (92, i_iload 4 2),
  (94, i_icmp (fun x y => x < y) 97 102),
  (97, i_iload 6 2),
  (99, i_goto 104),
  (102, i_iload 4 2),
  (104, i_istore 4 2),
  (106, i_iinc 5 1),
  (109, i_goto 31),
  (112, i_iload 3 1),
  (113, i_push (.int (-4)) 2),
  (115, i_icmp (fun x y => x = y) 122 118),
  (118, i_iload 2 1),
  (119, i_if (fun x => x = 0) 122 126),
  (122, i_iload 3 1),
  (123, i_goto 128),
  (126, i_iload 4 2),
  (128, i_iret)]
theorem s_X7_harm : ∀ q ∈ k_X7_harm, Snd RX7 cX7_harm (some .int) false q.1 q.2 := by
  unfold k_X7_harm
  refine List.forall_mem_cons.mpr ⟨snd_iload_n (by decide +kernel : decode cX7_harm 0 = .ok (.iload_n 1, 1)) rfl, ?_⟩
  refine List.forall_mem_cons.mpr ⟨snd_iconst (by decide +kernel : decode cX7_harm 1 = .ok (.iconst 0, 1)) (by decide +kernel), ?_⟩
  refine List.forall_mem_cons.mpr ⟨snd_bipush (by decide +kernel : decode cX7_harm 2 = .ok (.bipush 40, 2)) (by decide +kernel), ?_⟩
  refine List.forall_mem_cons.mpr ⟨snd_callS mok_117 wd_554 wd_557 (by decide +kernel : decode cX7_harm 4 = .ok (.invokestatic 75, 3)), ?_⟩
  refine List.forall_mem_cons.mpr ⟨snd_if_eq (by decide +kernel : decode cX7_harm 7 = .ok (.ifCond .eq 12, 3)) (by decide +kernel), ?_⟩
  refine List.forall_mem_cons.mpr ⟨snd_iload_n (by decide +kernel : decode cX7_harm 10 = .ok (.iload_n 2, 1)) rfl, ?_⟩
  refine List.forall_mem_cons.mpr ⟨snd_iconst (by decide +kernel : decode cX7_harm 11 = .ok (.iconst 0, 1)) (by decide +kernel), ?_⟩
  refine List.forall_mem_cons.mpr ⟨snd_iconst (by decide +kernel : decode cX7_harm 12 = .ok (.iconst 1, 1)) (by decide +kernel), ?_⟩
  refine List.forall_mem_cons.mpr ⟨snd_callS mok_117 wd_554 wd_557 (by decide +kernel : decode cX7_harm 13 = .ok (.invokestatic 75, 3)), ?_⟩
  refine List.forall_mem_cons.mpr ⟨snd_if_ne (by decide +kernel : decode cX7_harm 16 = .ok (.ifCond .ne 5, 3)) (by decide +kernel), ?_⟩
  refine List.forall_mem_cons.mpr ⟨snd_iconst (by decide +kernel : decode cX7_harm 19 = .ok (.iconst (-1), 1)) (by decide +kernel), ?_⟩
  refine List.forall_mem_cons.mpr ⟨snd_iret (by decide +kernel : decode cX7_harm 20 = .ok (.ireturn, 1)), ?_⟩
  refine List.forall_mem_cons.mpr ⟨snd_bipush (by decide +kernel : decode cX7_harm 21 = .ok (.bipush (-4), 2)) (by decide +kernel), ?_⟩
  refine List.forall_mem_cons.mpr ⟨snd_istore_n (by decide +kernel : decode cX7_harm 23 = .ok (.istore_n 3, 1)) rfl, ?_⟩
  refine List.forall_mem_cons.mpr ⟨snd_ldc (by decide +kernel : decode cX7_harm 24 = .ok (.ldc 189, 2)) wd_694, ?_⟩
  refine List.forall_mem_cons.mpr ⟨snd_istore (by decide +kernel : decode cX7_harm 26 = .ok (.istore 4, 2)), ?_⟩
  refine List.forall_mem_cons.mpr ⟨snd_iconst (by decide +kernel : decode cX7_harm 28 = .ok (.iconst 0, 1)) (by decide +kernel), ?_⟩
  refine List.forall_mem_cons.mpr ⟨snd_istore (by decide +kernel : decode cX7_harm 29 = .ok (.istore 5, 2)), ?_⟩
  refine List.forall_mem_cons.mpr ⟨snd_iload (by decide +kernel : decode cX7_harm 31 = .ok (.iload 5, 2)), ?_⟩
  refine List.forall_mem_cons.mpr ⟨snd_aload_n (by decide +kernel : decode cX7_harm 33 = .ok (.aload_n 0, 1)) rfl, ?_⟩
  refine List.forall_mem_cons.mpr ⟨snd_get fl_7_72 (by decide +kernel : decode cX7_harm 34 = .ok (.getfield 72, 3)), ?_⟩
  refine List.forall_mem_cons.mpr ⟨snd_icmp_ge (by decide +kernel : decode cX7_harm 37 = .ok (.if_icmp .ge 75, 3)) (by decide +kernel), ?_⟩
  refine List.forall_mem_cons.mpr ⟨snd_aload_n (by decide +kernel : decode cX7_harm 40 = .ok (.aload_n 0, 1)) rfl, ?_⟩
  refine List.forall_mem_cons.mpr ⟨snd_get fl_7_16 (by decide +kernel : decode cX7_harm 41 = .ok (.getfield 16, 3)), ?_⟩
  refine List.forall_mem_cons.mpr ⟨snd_iload (by decide +kernel : decode cX7_harm 44 = .ok (.iload 5, 2)), ?_⟩
  refine List.forall_mem_cons.mpr ⟨snd_iald (by decide +kernel : decode cX7_harm 46 = .ok (.iaload, 1)), ?_⟩
  refine List.forall_mem_cons.mpr ⟨snd_if_ne (by decide +kernel : decode cX7_harm 47 = .ok (.ifCond .ne 59, 3)) (by decide +kernel), ?_⟩
  refine List.forall_mem_cons.mpr ⟨snd_aload_n (by decide +kernel : decode cX7_harm 50 = .ok (.aload_n 0, 1)) rfl, ?_⟩
  refine List.forall_mem_cons.mpr ⟨snd_get fl_7_16 (by decide +kernel : decode cX7_harm 51 = .ok (.getfield 16, 3)), ?_⟩
  refine List.forall_mem_cons.mpr ⟨snd_iload (by decide +kernel : decode cX7_harm 54 = .ok (.iload 5, 2)), ?_⟩
  refine List.forall_mem_cons.mpr ⟨snd_iconst (by decide +kernel : decode cX7_harm 56 = .ok (.iconst 1, 1)) (by decide +kernel), ?_⟩
  refine List.forall_mem_cons.mpr ⟨snd_iast (by decide +kernel : decode cX7_harm 57 = .ok (.iastore, 1)), ?_⟩
  refine List.forall_mem_cons.mpr ⟨snd_aload_n (by decide +kernel : decode cX7_harm 58 = .ok (.aload_n 0, 1)) rfl, ?_⟩
  refine List.forall_mem_cons.mpr ⟨snd_iload_n (by decide +kernel : decode cX7_harm 59 = .ok (.iload_n 1, 1)) rfl, ?_⟩
  refine List.forall_mem_cons.mpr ⟨snd_callV mok_161 wd_676 wd_679 wd_680 rfl rfl (by decide +kernel : decode cX7_harm 60 = .ok (.invokevirtual 176, 3)), ?_⟩
  refine List.forall_mem_cons.mpr ⟨snd_callS mok_119 wd_690 wd_693 (by decide +kernel : decode cX7_harm 63 = .ok (.invokestatic 186, 3)), ?_⟩
  refine List.forall_mem_cons.mpr ⟨snd_istore (by decide +kernel : decode cX7_harm 66 = .ok (.istore 6, 2)), ?_⟩
  refine List.forall_mem_cons.mpr ⟨snd_aload_n (by decide +kernel : decode cX7_harm 68 = .ok (.aload_n 0, 1)) rfl, ?_⟩
  refine List.forall_mem_cons.mpr ⟨snd_get fl_7_16 (by decide +kernel : decode cX7_harm 69 = .ok (.getfield 16, 3)), ?_⟩
  refine List.forall_mem_cons.mpr ⟨snd_iload (by decide +kernel : decode cX7_harm 72 = .ok (.iload 5, 2)), ?_⟩
  refine List.forall_mem_cons.mpr ⟨snd_iconst (by decide +kernel : decode cX7_harm 74 = .ok (.iconst 0, 1)) (by decide +kernel), ?_⟩
  refine List.forall_mem_cons.mpr ⟨snd_iast (by decide +kernel : decode cX7_harm 75 = .ok (.iastore, 1)), ?_⟩
  refine List.forall_mem_cons.mpr ⟨snd_iload (by decide +kernel : decode cX7_harm 76 = .ok (.iload 6, 2)), ?_⟩
  refine List.forall_mem_cons.mpr ⟨snd_iload (by decide +kernel : decode cX7_harm 78 = .ok (.iload 4, 2)), ?_⟩
  refine List.forall_mem_cons.mpr ⟨snd_icmp_ge (by decide +kernel : decode cX7_harm 80 = .ok (.if_icmp .ge 8, 3)) (by decide +kernel), ?_⟩
  refine List.forall_mem_cons.mpr ⟨snd_iload (by decide +kernel : decode cX7_harm 83 = .ok (.iload 5, 2)), ?_⟩
  refine List.forall_mem_cons.mpr ⟨snd_goto (by decide +kernel : decode cX7_harm 85 = .ok (.goto 4, 3)) (by decide +kernel), ?_⟩
  refine List.forall_mem_cons.mpr ⟨snd_iload_n (by decide +kernel : decode cX7_harm 88 = .ok (.iload_n 3, 1)) rfl, ?_⟩
  refine List.forall_mem_cons.mpr ⟨snd_istore_n (by decide +kernel : decode cX7_harm 89 = .ok (.istore_n 3, 1)) rfl, ?_⟩
  refine List.forall_mem_cons.mpr ⟨snd_iload (by decide +kernel : decode cX7_harm 90 = .ok (.iload 6, 2)), ?_⟩
  refine List.forall_mem_cons.mpr ⟨snd_iload (by decide +kernel : decode cX7_harm 92 = .ok (.iload 4, 2)), ?_⟩
  refine List.forall_mem_cons.mpr ⟨snd_icmp_ge (by decide +kernel : decode cX7_harm 94 = .ok (.if_icmp .ge 8, 3)) (by decide +kernel), ?_⟩
  refine List.forall_mem_cons.mpr ⟨snd_iload (by decide +kernel : decode cX7_harm 97 = .ok (.iload 6, 2)), ?_⟩
  refine List.forall_mem_cons.mpr ⟨snd_goto (by decide +kernel : decode cX7_harm 99 = .ok (.goto 5, 3)) (by decide +kernel), ?_⟩
  refine List.forall_mem_cons.mpr ⟨snd_iload (by decide +kernel : decode cX7_harm 102 = .ok (.iload 4, 2)), ?_⟩
  refine List.forall_mem_cons.mpr ⟨snd_istore (by decide +kernel : decode cX7_harm 104 = .ok (.istore 4, 2)), ?_⟩
  refine List.forall_mem_cons.mpr ⟨snd_iinc (by decide +kernel : decode cX7_harm 106 = .ok (.iinc 5 1, 3)) (by decide +kernel), ?_⟩
  refine List.forall_mem_cons.mpr ⟨snd_goto (by decide +kernel : decode cX7_harm 109 = .ok (.goto (-78), 3)) (by decide +kernel), ?_⟩
  refine List.forall_mem_cons.mpr ⟨snd_iload_n (by decide +kernel : decode cX7_harm 112 = .ok (.iload_n 3, 1)) rfl, ?_⟩
  refine List.forall_mem_cons.mpr ⟨snd_bipush (by decide +kernel : decode cX7_harm 113 = .ok (.bipush (-4), 2)) (by decide +kernel), ?_⟩
  refine List.forall_mem_cons.mpr ⟨snd_icmp_eq (by decide +kernel : decode cX7_harm 115 = .ok (.if_icmp .eq 7, 3)) (by decide +kernel), ?_⟩
  refine List.forall_mem_cons.mpr ⟨snd_iload_n (by decide +kernel : decode cX7_harm 118 = .ok (.iload_n 2, 1)) rfl, ?_⟩
  refine List.forall_mem_cons.mpr ⟨snd_if_ne (by decide +kernel : decode cX7_harm 119 = .ok (.ifCond .ne 7, 3)) (by decide +kernel), ?_⟩
  refine List.forall_mem_cons.mpr ⟨snd_iload_n (by decide +kernel : decode cX7_harm 122 = .ok (.iload_n 3, 1)) rfl, ?_⟩
  refine List.forall_mem_cons.mpr ⟨snd_goto (by decide +kernel : decode cX7_harm 123 = .ok (.goto 5, 3)) (by decide +kernel), ?_⟩
  refine List.forall_mem_cons.mpr ⟨snd_iload (by decide +kernel : decode cX7_harm 126 = .ok (.iload 4, 2)), ?_⟩
  refine List.forall_mem_cons.mpr ⟨snd_iret (by decide +kernel : decode cX7_harm 128 = .ok (.ireturn, 1)), ?_⟩
  exact fun _ h => absurd h List.not_mem_nil
theorem m_X7_harm : ∀ q ∈ k_X7_harm, Mono q.2 := by
  unfold k_X7_harm
  refine List.forall_mem_cons.mpr ⟨mo_iload _ _, ?_⟩
  refine List.forall_mem_cons.mpr ⟨mo_push _ _, ?_⟩
  refine List.forall_mem_cons.mpr ⟨mo_push _ _, ?_⟩
  refine List.forall_mem_cons.mpr ⟨mo_call _ _ _, ?_⟩
  refine List.forall_mem_cons.mpr ⟨mo_if _ _ _, ?_⟩
  refine List.forall_mem_cons.mpr ⟨mo_iload _ _, ?_⟩
  refine List.forall_mem_cons.mpr ⟨mo_push _ _, ?_⟩
  refine List.forall_mem_cons.mpr ⟨mo_push _ _, ?_⟩
  refine List.forall_mem_cons.mpr ⟨mo_call _ _ _, ?_⟩
  refine List.forall_mem_cons.mpr ⟨mo_if _ _ _, ?_⟩
  refine List.forall_mem_cons.mpr ⟨mo_push _ _, ?_⟩
  refine List.forall_mem_cons.mpr ⟨mo_iret, ?_⟩
  refine List.forall_mem_cons.mpr ⟨mo_push _ _, ?_⟩
  refine List.forall_mem_cons.mpr ⟨mo_istore _ _, ?_⟩
  refine List.forall_mem_cons.mpr ⟨mo_push _ _, ?_⟩
  refine List.forall_mem_cons.mpr ⟨mo_istore _ _, ?_⟩
  refine List.forall_mem_cons.mpr ⟨mo_push _ _, ?_⟩
  refine List.forall_mem_cons.mpr ⟨mo_istore _ _, ?_⟩
  refine List.forall_mem_cons.mpr ⟨mo_iload _ _, ?_⟩
  refine List.forall_mem_cons.mpr ⟨mo_aload _ _, ?_⟩
  refine List.forall_mem_cons.mpr ⟨mo_get _ _, ?_⟩
  refine List.forall_mem_cons.mpr ⟨mo_icmp _ _ _, ?_⟩
  refine List.forall_mem_cons.mpr ⟨mo_aload _ _, ?_⟩
  refine List.forall_mem_cons.mpr ⟨mo_get _ _, ?_⟩
  refine List.forall_mem_cons.mpr ⟨mo_iload _ _, ?_⟩
  refine List.forall_mem_cons.mpr ⟨mo_iald, ?_⟩
  refine List.forall_mem_cons.mpr ⟨mo_if _ _ _, ?_⟩
  refine List.forall_mem_cons.mpr ⟨mo_aload _ _, ?_⟩
  refine List.forall_mem_cons.mpr ⟨mo_get _ _, ?_⟩
  refine List.forall_mem_cons.mpr ⟨mo_iload _ _, ?_⟩
  refine List.forall_mem_cons.mpr ⟨mo_push _ _, ?_⟩
  refine List.forall_mem_cons.mpr ⟨mo_iast, ?_⟩
  refine List.forall_mem_cons.mpr ⟨mo_aload _ _, ?_⟩
  refine List.forall_mem_cons.mpr ⟨mo_iload _ _, ?_⟩
  refine List.forall_mem_cons.mpr ⟨mo_call _ _ _, ?_⟩
  refine List.forall_mem_cons.mpr ⟨mo_call _ _ _, ?_⟩
  refine List.forall_mem_cons.mpr ⟨mo_istore _ _, ?_⟩
  refine List.forall_mem_cons.mpr ⟨mo_aload _ _, ?_⟩
  refine List.forall_mem_cons.mpr ⟨mo_get _ _, ?_⟩
  refine List.forall_mem_cons.mpr ⟨mo_iload _ _, ?_⟩
  refine List.forall_mem_cons.mpr ⟨mo_push _ _, ?_⟩
  refine List.forall_mem_cons.mpr ⟨mo_iast, ?_⟩
  refine List.forall_mem_cons.mpr ⟨mo_iload _ _, ?_⟩
  refine List.forall_mem_cons.mpr ⟨mo_iload _ _, ?_⟩
  refine List.forall_mem_cons.mpr ⟨mo_icmp _ _ _, ?_⟩
  refine List.forall_mem_cons.mpr ⟨mo_iload _ _, ?_⟩
  refine List.forall_mem_cons.mpr ⟨mo_goto _, ?_⟩
  refine List.forall_mem_cons.mpr ⟨mo_iload _ _, ?_⟩
  refine List.forall_mem_cons.mpr ⟨mo_istore _ _, ?_⟩
  refine List.forall_mem_cons.mpr ⟨mo_iload _ _, ?_⟩
  refine List.forall_mem_cons.mpr ⟨mo_iload _ _, ?_⟩
  refine List.forall_mem_cons.mpr ⟨mo_icmp _ _ _, ?_⟩
  refine List.forall_mem_cons.mpr ⟨mo_iload _ _, ?_⟩
  refine List.forall_mem_cons.mpr ⟨mo_goto _, ?_⟩
  refine List.forall_mem_cons.mpr ⟨mo_iload _ _, ?_⟩
  refine List.forall_mem_cons.mpr ⟨mo_istore _ _, ?_⟩
  refine List.forall_mem_cons.mpr ⟨mo_iinc _ _, ?_⟩
  refine List.forall_mem_cons.mpr ⟨mo_goto _, ?_⟩
  refine List.forall_mem_cons.mpr ⟨mo_iload _ _, ?_⟩
  refine List.forall_mem_cons.mpr ⟨mo_push _ _, ?_⟩
  refine List.forall_mem_cons.mpr ⟨mo_icmp _ _ _, ?_⟩
  refine List.forall_mem_cons.mpr ⟨mo_iload _ _, ?_⟩
  refine List.forall_mem_cons.mpr ⟨mo_if _ _ _, ?_⟩
  refine List.forall_mem_cons.mpr ⟨mo_iload _ _, ?_⟩
  refine List.forall_mem_cons.mpr ⟨mo_goto _, ?_⟩
  refine List.forall_mem_cons.mpr ⟨mo_iload _ _, ?_⟩
  refine List.forall_mem_cons.mpr ⟨mo_iret, ?_⟩
  exact fun _ h => absurd h List.not_mem_nil
def k_X7_seen : List (Nat × aI) := [
  (0, i_iload 1 1),
  (1, i_push (.int 0) 1),
  (2, i_push (.int 20) 2),
  (4, i_callS 117 3),
  (7, i_if (fun x => x = 0) 37 10),
  (10, i_aload 0 1),
  (11, i_iload 2 1),
  (12, i_callV 122 2 7),
  (15, i_if (fun x => x = 0) 37 18),
  (18, i_aload 0 1),
  (19, i_iload 3 1),
  (20, i_callV 123 2 7),
  (23, i_if (fun x => x = 0) 37 26),
  (26, i_iload 4 2),
  (28, i_push (.int 0) 1),
  (29, i_push (.int 9) 2),
  (31, i_callS 117 3),
  (34, i_if (fun x => x = 0) 37 39),
  (37, i_push (.int (-1)) 1),
  (38, i_iret),
  (39, i_aload 0 1),
  (40, i_get 7 7),
  (43, i_push (.int 6) 2),
  (45, i_icmp (fun x y => x = y) 48 51),
  (48, i_push (.int (-3)) 2),
  (50, i_iret),
  (51, i_aload 0 1),
  (52, i_get 7 8),
  (55, i_aload 0 1),
  (56, i_get 7 7),
  (59, i_iload 1 1),
  (60, i_iast),
  (61, i_aload 0 1),
  (62, i_get 7 9),
  (65, i_aload 0 1),
  (66, i_get 7 7),
  (69, i_push (.int 5) 1),
  (70, i_iload 2 1),
  (71, i_bin (fun x y => x * y)),
  (72, i_iload 3 1),
  (73, i_bin (fun x y => x + y)),
  (74, i_iast),
  (75, i_aload 0 1),
  (76, i_get 7 10),
  (79, i_aload 0 1),
  (80, i_get 7 7),
  (83, i_iload 4 2),
  (85, i_iast),
  (86, i_aload 0 1),
  (87, i_dup),
  (88, i_get 7 7),
  (91, i_push (.int 1) 1),
  (92, i_bin (fun x y => x + y)),
  (93, i_put 7 7),
  (96, i_aload 0 1),
  (97, i_get 7 7),
  (100, i_iret)]
theorem s_X7_seen : ∀ q ∈ k_X7_seen, Snd RX7 cX7_seen (some .int) false q.1 q.2 := by
  unfold k_X7_seen
  refine List.forall_mem_cons.mpr ⟨snd_iload_n (by decide +kernel : decode cX7_seen 0 = .ok (.iload_n 1, 1)) rfl, ?_⟩
  refine List.forall_mem_cons.mpr ⟨snd_iconst (by decide +kernel : decode cX7_seen 1 = .ok (.iconst 0, 1)) (by decide +kernel), ?_⟩
  refine List.forall_mem_cons.mpr ⟨snd_bipush (by decide +kernel : decode cX7_seen 2 = .ok (.bipush 20, 2)) (by decide +kernel), ?_⟩
  refine List.forall_mem_cons.mpr ⟨snd_callS mok_117 wd_554 wd_557 (by decide +kernel : decode cX7_seen 4 = .ok (.invokestatic 75, 3)), ?_⟩
  refine List.forall_mem_cons.mpr ⟨snd_if_eq (by decide +kernel : decode cX7_seen 7 = .ok (.ifCond .eq 30, 3)) (by decide +kernel), ?_⟩
  refine List.forall_mem_cons.mpr ⟨snd_aload_n (by decide +kernel : decode cX7_seen 10 = .ok (.aload_n 0, 1)) rfl, ?_⟩
  refine List.forall_mem_cons.mpr ⟨snd_iload_n (by decide +kernel : decode cX7_seen 11 = .ok (.iload_n 2, 1)) rfl, ?_⟩
  refine List.forall_mem_cons.mpr ⟨snd_callV mok_122 wd_606 wd_609 wd_610 rfl rfl (by decide +kernel : decode cX7_seen 12 = .ok (.invokevirtual 131, 3)), ?_⟩
  refine List.forall_mem_cons.mpr ⟨snd_if_eq (by decide +kernel : decode cX7_seen 15 = .ok (.ifCond .eq 22, 3)) (by decide +kernel), ?_⟩
  refine List.forall_mem_cons.mpr ⟨snd_aload_n (by decide +kernel : decode cX7_seen 18 = .ok (.aload_n 0, 1)) rfl, ?_⟩
  refine List.forall_mem_cons.mpr ⟨snd_iload_n (by decide +kernel : decode cX7_seen 19 = .ok (.iload_n 3, 1)) rfl, ?_⟩
  refine List.forall_mem_cons.mpr ⟨snd_callV mok_123 wd_611 wd_614 wd_615 rfl rfl (by decide +kernel : decode cX7_seen 20 = .ok (.invokevirtual 134, 3)), ?_⟩
  refine List.forall_mem_cons.mpr ⟨snd_if_eq (by decide +kernel : decode cX7_seen 23 = .ok (.ifCond .eq 14, 3)) (by decide +kernel), ?_⟩
  refine List.forall_mem_cons.mpr ⟨snd_iload (by decide +kernel : decode cX7_seen 26 = .ok (.iload 4, 2)), ?_⟩
  refine List.forall_mem_cons.mpr ⟨snd_iconst (by decide +kernel : decode cX7_seen 28 = .ok (.iconst 0, 1)) (by decide +kernel), ?_⟩
  refine List.forall_mem_cons.mpr ⟨snd_bipush (by decide +kernel : decode cX7_seen 29 = .ok (.bipush 9, 2)) (by decide +kernel), ?_⟩
  refine List.forall_mem_cons.mpr ⟨snd_callS mok_117 wd_554 wd_557 (by decide +kernel : decode cX7_seen 31 = .ok (.invokestatic 75, 3)), ?_⟩
  refine List.forall_mem_cons.mpr ⟨snd_if_ne (by decide +kernel : decode cX7_seen 34 = .ok (.ifCond .ne 5, 3)) (by decide +kernel), ?_⟩
  refine List.forall_mem_cons.mpr ⟨snd_iconst (by decide +kernel : decode cX7_seen 37 = .ok (.iconst (-1), 1)) (by decide +kernel), ?_⟩
  refine List.forall_mem_cons.mpr ⟨snd_iret (by decide +kernel : decode cX7_seen 38 = .ok (.ireturn, 1)), ?_⟩
  refine List.forall_mem_cons.mpr ⟨snd_aload_n (by decide +kernel : decode cX7_seen 39 = .ok (.aload_n 0, 1)) rfl, ?_⟩
  refine List.forall_mem_cons.mpr ⟨snd_get fl_7_122 (by decide +kernel : decode cX7_seen 40 = .ok (.getfield 122, 3)), ?_⟩
  refine List.forall_mem_cons.mpr ⟨snd_bipush (by decide +kernel : decode cX7_seen 43 = .ok (.bipush 6, 2)) (by decide +kernel), ?_⟩
  refine List.forall_mem_cons.mpr ⟨snd_icmp_ne (by decide +kernel : decode cX7_seen 45 = .ok (.if_icmp .ne 6, 3)) (by decide +kernel), ?_⟩
  refine List.forall_mem_cons.mpr ⟨snd_bipush (by decide +kernel : decode cX7_seen 48 = .ok (.bipush (-3), 2)) (by decide +kernel), ?_⟩
  refine List.forall_mem_cons.mpr ⟨snd_iret (by decide +kernel : decode cX7_seen 50 = .ok (.ireturn, 1)), ?_⟩
  refine List.forall_mem_cons.mpr ⟨snd_aload_n (by decide +kernel : decode cX7_seen 51 = .ok (.aload_n 0, 1)) rfl, ?_⟩
  refine List.forall_mem_cons.mpr ⟨snd_get fl_7_22 (by decide +kernel : decode cX7_seen 52 = .ok (.getfield 22, 3)), ?_⟩
  refine List.forall_mem_cons.mpr ⟨snd_aload_n (by decide +kernel : decode cX7_seen 55 = .ok (.aload_n 0, 1)) rfl, ?_⟩
  refine List.forall_mem_cons.mpr ⟨snd_get fl_7_122 (by decide +kernel : decode cX7_seen 56 = .ok (.getfield 122, 3)), ?_⟩
  refine List.forall_mem_cons.mpr ⟨snd_iload_n (by decide +kernel : decode cX7_seen 59 = .ok (.iload_n 1, 1)) rfl, ?_⟩
  refine List.forall_mem_cons.mpr ⟨snd_iast (by decide +kernel : decode cX7_seen 60 = .ok (.iastore, 1)), ?_⟩
  refine List.forall_mem_cons.mpr ⟨snd_aload_n (by decide +kernel : decode cX7_seen 61 = .ok (.aload_n 0, 1)) rfl, ?_⟩
  refine List.forall_mem_cons.mpr ⟨snd_get fl_7_25 (by decide +kernel : decode cX7_seen 62 = .ok (.getfield 25, 3)), ?_⟩
  refine List.forall_mem_cons.mpr ⟨snd_aload_n (by decide +kernel : decode cX7_seen 65 = .ok (.aload_n 0, 1)) rfl, ?_⟩
  refine List.forall_mem_cons.mpr ⟨snd_get fl_7_122 (by decide +kernel : decode cX7_seen 66 = .ok (.getfield 122, 3)), ?_⟩
  refine List.forall_mem_cons.mpr ⟨snd_iconst (by decide +kernel : decode cX7_seen 69 = .ok (.iconst 5, 1)) (by decide +kernel), ?_⟩
  refine List.forall_mem_cons.mpr ⟨snd_iload_n (by decide +kernel : decode cX7_seen 70 = .ok (.iload_n 2, 1)) rfl, ?_⟩
  refine List.forall_mem_cons.mpr ⟨snd_imul (by decide +kernel : decode cX7_seen 71 = .ok (.imul, 1)), ?_⟩
  refine List.forall_mem_cons.mpr ⟨snd_iload_n (by decide +kernel : decode cX7_seen 72 = .ok (.iload_n 3, 1)) rfl, ?_⟩
  refine List.forall_mem_cons.mpr ⟨snd_iadd (by decide +kernel : decode cX7_seen 73 = .ok (.iadd, 1)), ?_⟩
  refine List.forall_mem_cons.mpr ⟨snd_iast (by decide +kernel : decode cX7_seen 74 = .ok (.iastore, 1)), ?_⟩
  refine List.forall_mem_cons.mpr ⟨snd_aload_n (by decide +kernel : decode cX7_seen 75 = .ok (.aload_n 0, 1)) rfl, ?_⟩
  refine List.forall_mem_cons.mpr ⟨snd_get fl_7_28 (by decide +kernel : decode cX7_seen 76 = .ok (.getfield 28, 3)), ?_⟩
  refine List.forall_mem_cons.mpr ⟨snd_aload_n (by decide +kernel : decode cX7_seen 79 = .ok (.aload_n 0, 1)) rfl, ?_⟩
  refine List.forall_mem_cons.mpr ⟨snd_get fl_7_122 (by decide +kernel : decode cX7_seen 80 = .ok (.getfield 122, 3)), ?_⟩
  refine List.forall_mem_cons.mpr ⟨snd_iload (by decide +kernel : decode cX7_seen 83 = .ok (.iload 4, 2)), ?_⟩
  refine List.forall_mem_cons.mpr ⟨snd_iast (by decide +kernel : decode cX7_seen 85 = .ok (.iastore, 1)), ?_⟩
  refine List.forall_mem_cons.mpr ⟨snd_aload_n (by decide +kernel : decode cX7_seen 86 = .ok (.aload_n 0, 1)) rfl, ?_⟩
  refine List.forall_mem_cons.mpr ⟨snd_dup (by decide +kernel : decode cX7_seen 87 = .ok (.dup, 1)), ?_⟩
  refine List.forall_mem_cons.mpr ⟨snd_get fl_7_122 (by decide +kernel : decode cX7_seen 88 = .ok (.getfield 122, 3)), ?_⟩
  refine List.forall_mem_cons.mpr ⟨snd_iconst (by decide +kernel : decode cX7_seen 91 = .ok (.iconst 1, 1)) (by decide +kernel), ?_⟩
  refine List.forall_mem_cons.mpr ⟨snd_iadd (by decide +kernel : decode cX7_seen 92 = .ok (.iadd, 1)), ?_⟩
  refine List.forall_mem_cons.mpr ⟨snd_put fl_7_122 (by decide +kernel : decode cX7_seen 93 = .ok (.putfield 122, 3)), ?_⟩
  refine List.forall_mem_cons.mpr ⟨snd_aload_n (by decide +kernel : decode cX7_seen 96 = .ok (.aload_n 0, 1)) rfl, ?_⟩
  refine List.forall_mem_cons.mpr ⟨snd_get fl_7_122 (by decide +kernel : decode cX7_seen 97 = .ok (.getfield 122, 3)), ?_⟩
  refine List.forall_mem_cons.mpr ⟨snd_iret (by decide +kernel : decode cX7_seen 100 = .ok (.ireturn, 1)), ?_⟩
  exact fun _ h => absurd h List.not_mem_nil
theorem m_X7_seen : ∀ q ∈ k_X7_seen, Mono q.2 := by
  unfold k_X7_seen
  refine List.forall_mem_cons.mpr ⟨mo_iload _ _, ?_⟩
  refine List.forall_mem_cons.mpr ⟨mo_push _ _, ?_⟩
  refine List.forall_mem_cons.mpr ⟨mo_push _ _, ?_⟩
  refine List.forall_mem_cons.mpr ⟨mo_call _ _ _, ?_⟩
  refine List.forall_mem_cons.mpr ⟨mo_if _ _ _, ?_⟩
  refine List.forall_mem_cons.mpr ⟨mo_aload _ _, ?_⟩
  refine List.forall_mem_cons.mpr ⟨mo_iload _ _, ?_⟩
  refine List.forall_mem_cons.mpr ⟨mo_call _ _ _, ?_⟩
  refine List.forall_mem_cons.mpr ⟨mo_if _ _ _, ?_⟩
  refine List.forall_mem_cons.mpr ⟨mo_aload _ _, ?_⟩
  refine List.forall_mem_cons.mpr ⟨mo_iload _ _, ?_⟩
  refine List.forall_mem_cons.mpr ⟨mo_call _ _ _, ?_⟩
  refine List.forall_mem_cons.mpr ⟨mo_if _ _ _, ?_⟩
  refine List.forall_mem_cons.mpr ⟨mo_iload _ _, ?_⟩
  refine List.forall_mem_cons.mpr ⟨mo_push _ _, ?_⟩
  refine List.forall_mem_cons.mpr ⟨mo_push _ _, ?_⟩
  refine List.forall_mem_cons.mpr ⟨mo_call _ _ _, ?_⟩
  refine List.forall_mem_cons.mpr ⟨mo_if _ _ _, ?_⟩
  refine List.forall_mem_cons.mpr ⟨mo_push _ _, ?_⟩
  refine List.forall_mem_cons.mpr ⟨mo_iret, ?_⟩
  refine List.forall_mem_cons.mpr ⟨mo_aload _ _, ?_⟩
  refine List.forall_mem_cons.mpr ⟨mo_get _ _, ?_⟩
  refine List.forall_mem_cons.mpr ⟨mo_push _ _, ?_⟩
  refine List.forall_mem_cons.mpr ⟨mo_icmp _ _ _, ?_⟩
  refine List.forall_mem_cons.mpr ⟨mo_push _ _, ?_⟩
  refine List.forall_mem_cons.mpr ⟨mo_iret, ?_⟩
  refine List.forall_mem_cons.mpr ⟨mo_aload _ _, ?_⟩
  refine List.forall_mem_cons.mpr ⟨mo_get _ _, ?_⟩
  refine List.forall_mem_cons.mpr ⟨mo_aload _ _, ?_⟩
  refine List.forall_mem_cons.mpr ⟨mo_get _ _, ?_⟩
  refine List.forall_mem_cons.mpr ⟨mo_iload _ _, ?_⟩
  refine List.forall_mem_cons.mpr ⟨mo_iast, ?_⟩
  refine List.forall_mem_cons.mpr ⟨mo_aload _ _, ?_⟩
  refine List.forall_mem_cons.mpr ⟨mo_get _ _, ?_⟩
  refine List.forall_mem_cons.mpr ⟨mo_aload _ _, ?_⟩
  refine List.forall_mem_cons.mpr ⟨mo_get _ _, ?_⟩
  refine List.forall_mem_cons.mpr ⟨mo_push _ _, ?_⟩
  refine List.forall_mem_cons.mpr ⟨mo_iload _ _, ?_⟩
  refine List.forall_mem_cons.mpr ⟨mo_bin _, ?_⟩
  refine List.forall_mem_cons.mpr ⟨mo_iload _ _, ?_⟩
  refine List.forall_mem_cons.mpr ⟨mo_bin _, ?_⟩
  refine List.forall_mem_cons.mpr ⟨mo_iast, ?_⟩
  refine List.forall_mem_cons.mpr ⟨mo_aload _ _, ?_⟩
  refine List.forall_mem_cons.mpr ⟨mo_get _ _, ?_⟩
  refine List.forall_mem_cons.mpr ⟨mo_aload _ _, ?_⟩
  refine List.forall_mem_cons.mpr ⟨mo_get _ _, ?_⟩
  refine List.forall_mem_cons.mpr ⟨mo_iload _ _, ?_⟩
  refine List.forall_mem_cons.mpr ⟨mo_iast, ?_⟩
  refine List.forall_mem_cons.mpr ⟨mo_aload _ _, ?_⟩
  refine List.forall_mem_cons.mpr ⟨mo_dup, ?_⟩
  refine List.forall_mem_cons.mpr ⟨mo_get _ _, ?_⟩
  refine List.forall_mem_cons.mpr ⟨mo_push _ _, ?_⟩
  refine List.forall_mem_cons.mpr ⟨mo_bin _, ?_⟩
  refine List.forall_mem_cons.mpr ⟨mo_put _ _, ?_⟩
  refine List.forall_mem_cons.mpr ⟨mo_aload _ _, ?_⟩
  refine List.forall_mem_cons.mpr ⟨mo_get _ _, ?_⟩
  refine List.forall_mem_cons.mpr ⟨mo_iret, ?_⟩
  exact fun _ h => absurd h List.not_mem_nil
def k_X7_forget : List (Nat × aI) := [
  (0, i_aload 0 1),
  (1, i_get 7 7),
  (4, i_istore 1 1),
  (5, i_aload 0 1),
  (6, i_push (.int 0) 1),
  (7, i_put 7 7),
  (10, i_iload 1 1),
  (11, i_iret)]
theorem s_X7_forget : ∀ q ∈ k_X7_forget, Snd RX7 cX7_forget (some .int) false q.1 q.2 := by
  unfold k_X7_forget
  refine List.forall_mem_cons.mpr ⟨snd_aload_n (by decide +kernel : decode cX7_forget 0 = .ok (.aload_n 0, 1)) rfl, ?_⟩
  refine List.forall_mem_cons.mpr ⟨snd_get fl_7_122 (by decide +kernel : decode cX7_forget 1 = .ok (.getfield 122, 3)), ?_⟩
  refine List.forall_mem_cons.mpr ⟨snd_istore_n (by decide +kernel : decode cX7_forget 4 = .ok (.istore_n 1, 1)) rfl, ?_⟩
  refine List.forall_mem_cons.mpr ⟨snd_aload_n (by decide +kernel : decode cX7_forget 5 = .ok (.aload_n 0, 1)) rfl, ?_⟩
  refine List.forall_mem_cons.mpr ⟨snd_iconst (by decide +kernel : decode cX7_forget 6 = .ok (.iconst 0, 1)) (by decide +kernel), ?_⟩
  refine List.forall_mem_cons.mpr ⟨snd_put fl_7_122 (by decide +kernel : decode cX7_forget 7 = .ok (.putfield 122, 3)), ?_⟩
  refine List.forall_mem_cons.mpr ⟨snd_iload_n (by decide +kernel : decode cX7_forget 10 = .ok (.iload_n 1, 1)) rfl, ?_⟩
  refine List.forall_mem_cons.mpr ⟨snd_iret (by decide +kernel : decode cX7_forget 11 = .ok (.ireturn, 1)), ?_⟩
  exact fun _ h => absurd h List.not_mem_nil
theorem m_X7_forget : ∀ q ∈ k_X7_forget, Mono q.2 := by
  unfold k_X7_forget
  refine List.forall_mem_cons.mpr ⟨mo_aload _ _, ?_⟩
  refine List.forall_mem_cons.mpr ⟨mo_get _ _, ?_⟩
  refine List.forall_mem_cons.mpr ⟨mo_istore _ _, ?_⟩
  refine List.forall_mem_cons.mpr ⟨mo_aload _ _, ?_⟩
  refine List.forall_mem_cons.mpr ⟨mo_push _ _, ?_⟩
  refine List.forall_mem_cons.mpr ⟨mo_put _ _, ?_⟩
  refine List.forall_mem_cons.mpr ⟨mo_iload _ _, ?_⟩
  refine List.forall_mem_cons.mpr ⟨mo_iret, ?_⟩
  exact fun _ h => absurd h List.not_mem_nil
def k_X7_isSo : List (Nat × aI) := [
  (0, i_push (.int 1) 1),
  (1, i_istore 1 1),
  (2, i_aload 0 1),
  (3, i_callV 156 1 7),
  (6, i_push (.int 0) 1),
  (7, i_istore 2 1),
  (8, i_iload 2 1),
  (9, i_push (.int 20) 2),
  (11, i_icmp (fun x y => y < x) 81 14),
  (14, i_push (.int 0) 1),
  (15, i_istore 3 1),
  (16, i_iload 3 1),
  (17, i_aload 0 1),
  (18, i_get 7 7),
  (21, i_icmp (fun x y => x < y) 24 70),
  (24, i_iload 1 1),
  (25, i_if (fun x => x = 0) 62 28),
  (28, i_aload 0 1),
  (29, i_get 7 8),
  (32, i_iload 3 1),
  (33, i_iald),
  (34, i_iload 2 1),
  (35, i_icmp (fun x y => x = y) 38 58),
  (38, i_aload 0 1),
  (39, i_get 7 4),
  (42, i_aload 0 1),
  (43, i_get 7 9),
  (46, i_iload 3 1),
  (47, i_iald),
  (48, i_iald),
  (49, i_aload 0 1),
  (50, i_get 7 10),
  (53, i_iload 3 1),
  (54, i_iald),
  (55, i_icmp (fun x y => x = y) 58 62),
  (58, i_push (.int 1) 1),
  (59, i_goto 63),
  (62, i_push (.int 0) 1),
  (63, i_istore 1 1),
  (64, i_iinc 3 1),
  (67, i_goto 16),
  (70, i_aload 0 1),
  (71, i_callV 139 1 7),
  (74, i_pop),
  (75, i_iinc 2 1),
  (78, i_goto 8),
  (81, i_aload 0 1),
  (82, i_callV 157 1 7),
  (85, i_iload 1 1),
  (86, i_zret)]
theorem s_X7_isSo : ∀ q ∈ k_X7_isSo, Snd RX7 cX7_isSo (some .boolean) false q.1 q.2 := by
  unfold k_X7_isSo
  refine List.forall_mem_cons.mpr ⟨snd_iconst (by decide +kernel : decode cX7_isSo 0 = .ok (.iconst 1, 1)) (by decide +kernel), ?_⟩
  refine List.forall_mem_cons.mpr ⟨snd_istore_n (by decide +kernel : decode cX7_isSo 1 = .ok (.istore_n 1, 1)) rfl, ?_⟩
  refine List.forall_mem_cons.mpr ⟨snd_aload_n (by decide +kernel : decode cX7_isSo 2 = .ok (.aload_n 0, 1)) rfl, ?_⟩
  refine List.forall_mem_cons.mpr ⟨snd_callV mok_156 wd_661 wd_664 wd_665 rfl rfl (by decide +kernel : decode cX7_isSo 3 = .ok (.invokevirtual 167, 3)), ?_⟩
  refine List.forall_mem_cons.mpr ⟨snd_iconst (by decide +kernel : decode cX7_isSo 6 = .ok (.iconst 0, 1)) (by decide +kernel), ?_⟩
  refine List.forall_mem_cons.mpr ⟨snd_istore_n (by decide +kernel : decode cX7_isSo 7 = .ok (.istore_n 2, 1)) rfl, ?_⟩
  refine List.forall_mem_cons.mpr ⟨snd_iload_n (by decide +kernel : decode cX7_isSo 8 = .ok (.iload_n 2, 1)) rfl, ?_⟩
  refine List.forall_mem_cons.mpr ⟨snd_bipush (by decide +kernel : decode cX7_isSo 9 = .ok (.bipush 20, 2)) (by decide +kernel), ?_⟩
  refine List.forall_mem_cons.mpr ⟨snd_icmp_gt (by decide +kernel : decode cX7_isSo 11 = .ok (.if_icmp .gt 70, 3)) (by decide +kernel), ?_⟩
  refine List.forall_mem_cons.mpr ⟨snd_iconst (by decide +kernel : decode cX7_isSo 14 = .ok (.iconst 0, 1)) (by decide +kernel), ?_⟩
  refine List.forall_mem_cons.mpr ⟨snd_istore_n (by decide +kernel : decode cX7_isSo 15 = .ok (.istore_n 3, 1)) rfl, ?_⟩
  refine List.forall_mem_cons.mpr ⟨snd_iload_n (by decide +kernel : decode cX7_isSo 16 = .ok (.iload_n 3, 1)) rfl, ?_⟩
  refine List.forall_mem_cons.mpr ⟨snd_aload_n (by decide +kernel : decode cX7_isSo 17 = .ok (.aload_n 0, 1)) rfl, ?_⟩
  refine List.forall_mem_cons.mpr ⟨snd_get fl_7_122 (by decide +kernel : decode cX7_isSo 18 = .ok (.getfield 122, 3)), ?_⟩
  refine List.forall_mem_cons.mpr ⟨snd_icmp_ge (by decide +kernel : decode cX7_isSo 21 = .ok (.if_icmp .ge 49, 3)) (by decide +kernel), ?_⟩
  refine List.forall_mem_cons.mpr ⟨snd_iload_n (by decide +kernel : decode cX7_isSo 24 = .ok (.iload_n 1, 1)) rfl, ?_⟩
  refine List.forall_mem_cons.mpr ⟨snd_if_eq (by decide +kernel : decode cX7_isSo 25 = .ok (.ifCond .eq 37, 3)) (by decide +kernel), ?_⟩
  refine List.forall_mem_cons.mpr ⟨snd_aload_n (by decide +kernel : decode cX7_isSo 28 = .ok (.aload_n 0, 1)) rfl, ?_⟩
  refine List.forall_mem_cons.mpr ⟨snd_get fl_7_22 (by decide +kernel : decode cX7_isSo 29 = .ok (.getfield 22, 3)), ?_⟩
  refine List.forall_mem_cons.mpr ⟨snd_iload_n (by decide +kernel : decode cX7_isSo 32 = .ok (.iload_n 3, 1)) rfl, ?_⟩
  refine List.forall_mem_cons.mpr ⟨snd_iald (by decide +kernel : decode cX7_isSo 33 = .ok (.iaload, 1)), ?_⟩
  refine List.forall_mem_cons.mpr ⟨snd_iload_n (by decide +kernel : decode cX7_isSo 34 = .ok (.iload_n 2, 1)) rfl, ?_⟩
  refine List.forall_mem_cons.mpr ⟨snd_icmp_ne (by decide +kernel : decode cX7_isSo 35 = .ok (.if_icmp .ne 23, 3)) (by decide +kernel), ?_⟩
  refine List.forall_mem_cons.mpr ⟨snd_aload_n (by decide +kernel : decode cX7_isSo 38 = .ok (.aload_n 0, 1)) rfl, ?_⟩
  refine List.forall_mem_cons.mpr ⟨snd_get fl_7_13 (by decide +kernel : decode cX7_isSo 39 = .ok (.getfield 13, 3)), ?_⟩
  refine List.forall_mem_cons.mpr ⟨snd_aload_n (by decide +kernel : decode cX7_isSo 42 = .ok (.aload_n 0, 1)) rfl, ?_⟩
  refine List.forall_mem_cons.mpr ⟨snd_get fl_7_25 (by decide +kernel : decode cX7_isSo 43 = .ok (.getfield 25, 3)), ?_⟩
  refine List.forall_mem_cons.mpr ⟨snd_iload_n (by decide +kernel : decode cX7_isSo 46 = .ok (.iload_n 3, 1)) rfl, ?_⟩
  refine List.forall_mem_cons.mpr ⟨snd_iald (by decide +kernel : decode cX7_isSo 47 = .ok (.iaload, 1)), ?_⟩
  refine List.forall_mem_cons.mpr ⟨snd_iald (by decide +kernel : decode cX7_isSo 48 = .ok (.iaload, 1)), ?_⟩
  refine List.forall_mem_cons.mpr ⟨snd_aload_n (by decide +kernel : decode cX7_isSo 49 = .ok (.aload_n 0, 1)) rfl, ?_⟩
  refine List.forall_mem_cons.mpr ⟨snd_get fl_7_28 (by decide +kernel : decode cX7_isSo 50 = .ok (.getfield 28, 3)), ?_⟩
  refine List.forall_mem_cons.mpr ⟨snd_iload_n (by decide +kernel : decode cX7_isSo 53 = .ok (.iload_n 3, 1)) rfl, ?_⟩
  refine List.forall_mem_cons.mpr ⟨snd_iald (by decide +kernel : decode cX7_isSo 54 = .ok (.iaload, 1)), ?_⟩
  refine List.forall_mem_cons.mpr ⟨snd_icmp_ne (by decide +kernel : decode cX7_isSo 55 = .ok (.if_icmp .ne 7, 3)) (by decide +kernel), ?_⟩
  refine List.forall_mem_cons.mpr ⟨snd_iconst (by decide +kernel : decode cX7_isSo 58 = .ok (.iconst 1, 1)) (by decide +kernel), ?_⟩
  refine List.forall_mem_cons.mpr ⟨snd_goto (by decide +kernel : decode cX7_isSo 59 = .ok (.goto 4, 3)) (by decide +kernel), ?_⟩
  refine List.forall_mem_cons.mpr ⟨snd_iconst (by decide +kernel : decode cX7_isSo 62 = .ok (.iconst 0, 1)) (by decide +kernel), ?_⟩
  refine List.forall_mem_cons.mpr ⟨snd_istore_n (by decide +kernel : decode cX7_isSo 63 = .ok (.istore_n 1, 1)) rfl, ?_⟩
  refine List.forall_mem_cons.mpr ⟨snd_iinc (by decide +kernel : decode cX7_isSo 64 = .ok (.iinc 3 1, 3)) (by decide +kernel), ?_⟩
  refine List.forall_mem_cons.mpr ⟨snd_goto (by decide +kernel : decode cX7_isSo 67 = .ok (.goto (-51), 3)) (by decide +kernel), ?_⟩
  refine List.forall_mem_cons.mpr ⟨snd_aload_n (by decide +kernel : decode cX7_isSo 70 = .ok (.aload_n 0, 1)) rfl, ?_⟩
  refine List.forall_mem_cons.mpr ⟨snd_callV mok_139 wd_621 wd_624 wd_625 rfl rfl (by decide +kernel : decode cX7_isSo 71 = .ok (.invokevirtual 141, 3)), ?_⟩
  refine List.forall_mem_cons.mpr ⟨snd_pop (by decide +kernel : decode cX7_isSo 74 = .ok (.pop, 1)), ?_⟩
  refine List.forall_mem_cons.mpr ⟨snd_iinc (by decide +kernel : decode cX7_isSo 75 = .ok (.iinc 2 1, 3)) (by decide +kernel), ?_⟩
  refine List.forall_mem_cons.mpr ⟨snd_goto (by decide +kernel : decode cX7_isSo 78 = .ok (.goto (-70), 3)) (by decide +kernel), ?_⟩
  refine List.forall_mem_cons.mpr ⟨snd_aload_n (by decide +kernel : decode cX7_isSo 81 = .ok (.aload_n 0, 1)) rfl, ?_⟩
  refine List.forall_mem_cons.mpr ⟨snd_callV mok_157 wd_666 wd_669 wd_670 rfl rfl (by decide +kernel : decode cX7_isSo 82 = .ok (.invokevirtual 170, 3)), ?_⟩
  refine List.forall_mem_cons.mpr ⟨snd_iload_n (by decide +kernel : decode cX7_isSo 85 = .ok (.iload_n 1, 1)) rfl, ?_⟩
  refine List.forall_mem_cons.mpr ⟨snd_zret (by decide +kernel : decode cX7_isSo 86 = .ok (.ireturn, 1)), ?_⟩
  exact fun _ h => absurd h List.not_mem_nil
theorem m_X7_isSo : ∀ q ∈ k_X7_isSo, Mono q.2 := by
  unfold k_X7_isSo
  refine List.forall_mem_cons.mpr ⟨mo_push _ _, ?_⟩
  refine List.forall_mem_cons.mpr ⟨mo_istore _ _, ?_⟩
  refine List.forall_mem_cons.mpr ⟨mo_aload _ _, ?_⟩
  refine List.forall_mem_cons.mpr ⟨mo_call _ _ _, ?_⟩
  refine List.forall_mem_cons.mpr ⟨mo_push _ _, ?_⟩
  refine List.forall_mem_cons.mpr ⟨mo_istore _ _, ?_⟩
  refine List.forall_mem_cons.mpr ⟨mo_iload _ _, ?_⟩
  refine List.forall_mem_cons.mpr ⟨mo_push _ _, ?_⟩
  refine List.forall_mem_cons.mpr ⟨mo_icmp _ _ _, ?_⟩
  refine List.forall_mem_cons.mpr ⟨mo_push _ _, ?_⟩
  refine List.forall_mem_cons.mpr ⟨mo_istore _ _, ?_⟩
  refine List.forall_mem_cons.mpr ⟨mo_iload _ _, ?_⟩
  refine List.forall_mem_cons.mpr ⟨mo_aload _ _, ?_⟩
  refine List.forall_mem_cons.mpr ⟨mo_get _ _, ?_⟩
  refine List.forall_mem_cons.mpr ⟨mo_icmp _ _ _, ?_⟩
  refine List.forall_mem_cons.mpr ⟨mo_iload _ _, ?_⟩
  refine List.forall_mem_cons.mpr ⟨mo_if _ _ _, ?_⟩
  refine List.forall_mem_cons.mpr ⟨mo_aload _ _, ?_⟩
  refine List.forall_mem_cons.mpr ⟨mo_get _ _, ?_⟩
  refine List.forall_mem_cons.mpr ⟨mo_iload _ _, ?_⟩
  refine List.forall_mem_cons.mpr ⟨mo_iald, ?_⟩
  refine List.forall_mem_cons.mpr ⟨mo_iload _ _, ?_⟩
  refine List.forall_mem_cons.mpr ⟨mo_icmp _ _ _, ?_⟩
  refine List.forall_mem_cons.mpr ⟨mo_aload _ _, ?_⟩
  refine List.forall_mem_cons.mpr ⟨mo_get _ _, ?_⟩
  refine List.forall_mem_cons.mpr ⟨mo_aload _ _, ?_⟩
  refine List.forall_mem_cons.mpr ⟨mo_get _ _, ?_⟩
  refine List.forall_mem_cons.mpr ⟨mo_iload _ _, ?_⟩
  refine List.forall_mem_cons.mpr ⟨mo_iald, ?_⟩
  refine List.forall_mem_cons.mpr ⟨mo_iald, ?_⟩
  refine List.forall_mem_cons.mpr ⟨mo_aload _ _, ?_⟩
  refine List.forall_mem_cons.mpr ⟨mo_get _ _, ?_⟩
  refine List.forall_mem_cons.mpr ⟨mo_iload _ _, ?_⟩
  refine List.forall_mem_cons.mpr ⟨mo_iald, ?_⟩
  refine List.forall_mem_cons.mpr ⟨mo_icmp _ _ _, ?_⟩
  refine List.forall_mem_cons.mpr ⟨mo_push _ _, ?_⟩
  refine List.forall_mem_cons.mpr ⟨mo_goto _, ?_⟩
  refine List.forall_mem_cons.mpr ⟨mo_push _ _, ?_⟩
  refine List.forall_mem_cons.mpr ⟨mo_istore _ _, ?_⟩
  refine List.forall_mem_cons.mpr ⟨mo_iinc _ _, ?_⟩
  refine List.forall_mem_cons.mpr ⟨mo_goto _, ?_⟩
  refine List.forall_mem_cons.mpr ⟨mo_aload _ _, ?_⟩
  refine List.forall_mem_cons.mpr ⟨mo_call _ _ _, ?_⟩
  refine List.forall_mem_cons.mpr ⟨mo_pop, ?_⟩
  refine List.forall_mem_cons.mpr ⟨mo_iinc _ _, ?_⟩
  refine List.forall_mem_cons.mpr ⟨mo_goto _, ?_⟩
  refine List.forall_mem_cons.mpr ⟨mo_aload _ _, ?_⟩
  refine List.forall_mem_cons.mpr ⟨mo_call _ _ _, ?_⟩
  refine List.forall_mem_cons.mpr ⟨mo_iload _ _, ?_⟩
  refine List.forall_mem_cons.mpr ⟨mo_zret, ?_⟩
  exact fun _ h => absurd h List.not_mem_nil
def k_X7_kinds : List (Nat × aI) := [
  (0, i_aload 0 1),
  (1, i_iload 1 1),
  (2, i_callV 122 2 7),
  (5, i_if (fun x => x = 0) 8 10),
  (8, i_push (.int (-1)) 1),
  (9, i_iret),
  (10, i_aload 0 1),
  (11, i_get 7 2),
  (14, i_iload 1 1),
  (15, i_iald),
  (16, i_istore 2 1),
  (17, i_push (.int 0) 1),
  (18, i_istore 3 1),
  (19, i_push (.int 0) 1),
  (20, i_istore 4 2),
  (22, i_iload 4 2),
  (24, i_push (.int 3) 1),
  (25, i_icmp (fun x y => y < x) 60 28),
  (28, i_aload 0 1),
  (29, i_get 7 2),
  (32, i_iload 1 1),
  (33, i_iload 4 2),
  (35, i_iast),
  (36, i_iload 3 1),
  (37, i_aload 0 1),
  (38, i_callV 169 1 7),
  (41, i_if (fun x => x = 0) 51 44),
  (44, i_push (.int 1) 1),
  (45, i_iload 4 2),
  (47, i_bin (fun x y => x <<< (y &&& 31))),
  (48, i_goto 52),
  (51, i_push (.int 0) 1),
  (52, i_bin (fun x y => x ||| y)),
  (53, i_istore 3 1),
  (54, i_iinc 4 1),
  (57, i_goto 22),
  (60, i_aload 0 1),
  (61, i_get 7 2),
  (64, i_iload 1 1),
  (65, i_iload 2 1),
  (66, i_iast),
  (67, i_iload 3 1),
  (68, i_iret)]
theorem s_X7_kinds : ∀ q ∈ k_X7_kinds, Snd RX7 cX7_kinds (some .int) false q.1 q.2 := by
  unfold k_X7_kinds
  refine List.forall_mem_cons.mpr ⟨snd_aload_n (by decide +kernel : decode cX7_kinds 0 = .ok (.aload_n 0, 1)) rfl, ?_⟩
  refine List.forall_mem_cons.mpr ⟨snd_iload_n (by decide +kernel : decode cX7_kinds 1 = .ok (.iload_n 1, 1)) rfl, ?_⟩
  refine List.forall_mem_cons.mpr ⟨snd_callV mok_122 wd_606 wd_609 wd_610 rfl rfl (by decide +kernel : decode cX7_kinds 2 = .ok (.invokevirtual 131, 3)), ?_⟩
  refine List.forall_mem_cons.mpr ⟨snd_if_ne (by decide +kernel : decode cX7_kinds 5 = .ok (.ifCond .ne 5, 3)) (by decide +kernel), ?_⟩
  refine List.forall_mem_cons.mpr ⟨snd_iconst (by decide +kernel : decode cX7_kinds 8 = .ok (.iconst (-1), 1)) (by decide +kernel), ?_⟩
  refine List.forall_mem_cons.mpr ⟨snd_iret (by decide +kernel : decode cX7_kinds 9 = .ok (.ireturn, 1)), ?_⟩
  refine List.forall_mem_cons.mpr ⟨snd_aload_n (by decide +kernel : decode cX7_kinds 10 = .ok (.aload_n 0, 1)) rfl, ?_⟩
  refine List.forall_mem_cons.mpr ⟨snd_get fl_7_9 (by decide +kernel : decode cX7_kinds 11 = .ok (.getfield 9, 3)), ?_⟩
  refine List.forall_mem_cons.mpr ⟨snd_iload_n (by decide +kernel : decode cX7_kinds 14 = .ok (.iload_n 1, 1)) rfl, ?_⟩
  refine List.forall_mem_cons.mpr ⟨snd_iald (by decide +kernel : decode cX7_kinds 15 = .ok (.iaload, 1)), ?_⟩
  refine List.forall_mem_cons.mpr ⟨snd_istore_n (by decide +kernel : decode cX7_kinds 16 = .ok (.istore_n 2, 1)) rfl, ?_⟩
  refine List.forall_mem_cons.mpr ⟨snd_iconst (by decide +kernel : decode cX7_kinds 17 = .ok (.iconst 0, 1)) (by decide +kernel), ?_⟩
  refine List.forall_mem_cons.mpr ⟨snd_istore_n (by decide +kernel : decode cX7_kinds 18 = .ok (.istore_n 3, 1)) rfl, ?_⟩
  refine List.forall_mem_cons.mpr ⟨snd_iconst (by decide +kernel : decode cX7_kinds 19 = .ok (.iconst 0, 1)) (by decide +kernel), ?_⟩
  refine List.forall_mem_cons.mpr ⟨snd_istore (by decide +kernel : decode cX7_kinds 20 = .ok (.istore 4, 2)), ?_⟩
  refine List.forall_mem_cons.mpr ⟨snd_iload (by decide +kernel : decode cX7_kinds 22 = .ok (.iload 4, 2)), ?_⟩
  refine List.forall_mem_cons.mpr ⟨snd_iconst (by decide +kernel : decode cX7_kinds 24 = .ok (.iconst 3, 1)) (by decide +kernel), ?_⟩
  refine List.forall_mem_cons.mpr ⟨snd_icmp_gt (by decide +kernel : decode cX7_kinds 25 = .ok (.if_icmp .gt 35, 3)) (by decide +kernel), ?_⟩
  refine List.forall_mem_cons.mpr ⟨snd_aload_n (by decide +kernel : decode cX7_kinds 28 = .ok (.aload_n 0, 1)) rfl, ?_⟩
  refine List.forall_mem_cons.mpr ⟨snd_get fl_7_9 (by decide +kernel : decode cX7_kinds 29 = .ok (.getfield 9, 3)), ?_⟩
  refine List.forall_mem_cons.mpr ⟨snd_iload_n (by decide +kernel : decode cX7_kinds 32 = .ok (.iload_n 1, 1)) rfl, ?_⟩
  refine List.forall_mem_cons.mpr ⟨snd_iload (by decide +kernel : decode cX7_kinds 33 = .ok (.iload 4, 2)), ?_⟩
  refine List.forall_mem_cons.mpr ⟨snd_iast (by decide +kernel : decode cX7_kinds 35 = .ok (.iastore, 1)), ?_⟩
  refine List.forall_mem_cons.mpr ⟨snd_iload_n (by decide +kernel : decode cX7_kinds 36 = .ok (.iload_n 3, 1)) rfl, ?_⟩
  refine List.forall_mem_cons.mpr ⟨snd_aload_n (by decide +kernel : decode cX7_kinds 37 = .ok (.aload_n 0, 1)) rfl, ?_⟩
  refine List.forall_mem_cons.mpr ⟨snd_callV mok_169 wd_695 wd_698 wd_699 rfl rfl (by decide +kernel : decode cX7_kinds 38 = .ok (.invokevirtual 190, 3)), ?_⟩
  refine List.forall_mem_cons.mpr ⟨snd_if_eq (by decide +kernel : decode cX7_kinds 41 = .ok (.ifCond .eq 10, 3)) (by decide +kernel), ?_⟩
  refine List.forall_mem_cons.mpr ⟨snd_iconst (by decide +kernel : decode cX7_kinds 44 = .ok (.iconst 1, 1)) (by decide +kernel), ?_⟩
  refine List.forall_mem_cons.mpr ⟨snd_iload (by decide +kernel : decode cX7_kinds 45 = .ok (.iload 4, 2)), ?_⟩
  refine List.forall_mem_cons.mpr ⟨snd_ishl (by decide +kernel : decode cX7_kinds 47 = .ok (.ishl, 1)), ?_⟩
  refine List.forall_mem_cons.mpr ⟨snd_goto (by decide +kernel : decode cX7_kinds 48 = .ok (.goto 4, 3)) (by decide +kernel), ?_⟩
  refine List.forall_mem_cons.mpr ⟨snd_iconst (by decide +kernel : decode cX7_kinds 51 = .ok (.iconst 0, 1)) (by decide +kernel), ?_⟩
  refine List.forall_mem_cons.mpr ⟨snd_ior (by decide +kernel : decode cX7_kinds 52 = .ok (.ior, 1)), ?_⟩
  refine List.forall_mem_cons.mpr ⟨snd_istore_n (by decide +kernel : decode cX7_kinds 53 = .ok (.istore_n 3, 1)) rfl, ?_⟩
  refine List.forall_mem_cons.mpr ⟨snd_iinc (by decide +kernel : decode cX7_kinds 54 = .ok (.iinc 4 1, 3)) (by decide +kernel), ?_⟩
  refine List.forall_mem_cons.mpr ⟨snd_goto (by decide +kernel : decode cX7_kinds 57 = .ok (.goto (-35), 3)) (by decide +kernel), ?_⟩
  refine List.forall_mem_cons.mpr ⟨snd_aload_n (by decide +kernel : decode cX7_kinds 60 = .ok (.aload_n 0, 1)) rfl, ?_⟩
  refine List.forall_mem_cons.mpr ⟨snd_get fl_7_9 (by decide +kernel : decode cX7_kinds 61 = .ok (.getfield 9, 3)), ?_⟩
  refine List.forall_mem_cons.mpr ⟨snd_iload_n (by decide +kernel : decode cX7_kinds 64 = .ok (.iload_n 1, 1)) rfl, ?_⟩
  refine List.forall_mem_cons.mpr ⟨snd_iload_n (by decide +kernel : decode cX7_kinds 65 = .ok (.iload_n 2, 1)) rfl, ?_⟩
  refine List.forall_mem_cons.mpr ⟨snd_iast (by decide +kernel : decode cX7_kinds 66 = .ok (.iastore, 1)), ?_⟩
  refine List.forall_mem_cons.mpr ⟨snd_iload_n (by decide +kernel : decode cX7_kinds 67 = .ok (.iload_n 3, 1)) rfl, ?_⟩
  refine List.forall_mem_cons.mpr ⟨snd_iret (by decide +kernel : decode cX7_kinds 68 = .ok (.ireturn, 1)), ?_⟩
  exact fun _ h => absurd h List.not_mem_nil
theorem m_X7_kinds : ∀ q ∈ k_X7_kinds, Mono q.2 := by
  unfold k_X7_kinds
  refine List.forall_mem_cons.mpr ⟨mo_aload _ _, ?_⟩
  refine List.forall_mem_cons.mpr ⟨mo_iload _ _, ?_⟩
  refine List.forall_mem_cons.mpr ⟨mo_call _ _ _, ?_⟩
  refine List.forall_mem_cons.mpr ⟨mo_if _ _ _, ?_⟩
  refine List.forall_mem_cons.mpr ⟨mo_push _ _, ?_⟩
  refine List.forall_mem_cons.mpr ⟨mo_iret, ?_⟩
  refine List.forall_mem_cons.mpr ⟨mo_aload _ _, ?_⟩
  refine List.forall_mem_cons.mpr ⟨mo_get _ _, ?_⟩
  refine List.forall_mem_cons.mpr ⟨mo_iload _ _, ?_⟩
  refine List.forall_mem_cons.mpr ⟨mo_iald, ?_⟩
  refine List.forall_mem_cons.mpr ⟨mo_istore _ _, ?_⟩
  refine List.forall_mem_cons.mpr ⟨mo_push _ _, ?_⟩
  refine List.forall_mem_cons.mpr ⟨mo_istore _ _, ?_⟩
  refine List.forall_mem_cons.mpr ⟨mo_push _ _, ?_⟩
  refine List.forall_mem_cons.mpr ⟨mo_istore _ _, ?_⟩
  refine List.forall_mem_cons.mpr ⟨mo_iload _ _, ?_⟩
  refine List.forall_mem_cons.mpr ⟨mo_push _ _, ?_⟩
  refine List.forall_mem_cons.mpr ⟨mo_icmp _ _ _, ?_⟩
  refine List.forall_mem_cons.mpr ⟨mo_aload _ _, ?_⟩
  refine List.forall_mem_cons.mpr ⟨mo_get _ _, ?_⟩
  refine List.forall_mem_cons.mpr ⟨mo_iload _ _, ?_⟩
  refine List.forall_mem_cons.mpr ⟨mo_iload _ _, ?_⟩
  refine List.forall_mem_cons.mpr ⟨mo_iast, ?_⟩
  refine List.forall_mem_cons.mpr ⟨mo_iload _ _, ?_⟩
  refine List.forall_mem_cons.mpr ⟨mo_aload _ _, ?_⟩
  refine List.forall_mem_cons.mpr ⟨mo_call _ _ _, ?_⟩
  refine List.forall_mem_cons.mpr ⟨mo_if _ _ _, ?_⟩
  refine List.forall_mem_cons.mpr ⟨mo_push _ _, ?_⟩
  refine List.forall_mem_cons.mpr ⟨mo_iload _ _, ?_⟩
  refine List.forall_mem_cons.mpr ⟨mo_bin _, ?_⟩
  refine List.forall_mem_cons.mpr ⟨mo_goto _, ?_⟩
  refine List.forall_mem_cons.mpr ⟨mo_push _ _, ?_⟩
  refine List.forall_mem_cons.mpr ⟨mo_bin _, ?_⟩
  refine List.forall_mem_cons.mpr ⟨mo_istore _ _, ?_⟩
  refine List.forall_mem_cons.mpr ⟨mo_iinc _ _, ?_⟩
  refine List.forall_mem_cons.mpr ⟨mo_goto _, ?_⟩
  refine List.forall_mem_cons.mpr ⟨mo_aload _ _, ?_⟩
  refine List.forall_mem_cons.mpr ⟨mo_get _ _, ?_⟩
  refine List.forall_mem_cons.mpr ⟨mo_iload _ _, ?_⟩
  refine List.forall_mem_cons.mpr ⟨mo_iload _ _, ?_⟩
  refine List.forall_mem_cons.mpr ⟨mo_iast, ?_⟩
  refine List.forall_mem_cons.mpr ⟨mo_iload _ _, ?_⟩
  refine List.forall_mem_cons.mpr ⟨mo_iret, ?_⟩
  exact fun _ h => absurd h List.not_mem_nil
def k_X7_stood : List (Nat × aI) := [
  (0, i_aload 0 1),
  (1, i_iload 1 1),
  (2, i_callV 123 2 7),
  (5, i_if (fun x => x = 0) 8 10),
  (8, i_push (.int (-1)) 1),
  (9, i_iret),
  (10, i_push (.int 5) 1),
  (11, i_aload 0 1),
  (12, i_get 7 0),
  (15, i_push (.int 1) 1),
  (16, i_bin (fun x y => x - y)),
  (17, i_bin (fun x y => x * y)),
  (18, i_iload 1 1),
  (19, i_bin (fun x y => x + y)),
  (20, i_istore 2 1),
  (21, i_aload 0 1),
  (22, i_get 7 4),
  (25, i_iload 2 1),
  (26, i_iald),
  (27, i_istore 3 1),
  (28, i_push (.int 0) 1),
  (29, i_istore 4 2),
  (31, i_push (.int 0) 1),
  (32, i_istore 5 2),
  (34, i_iload 5 2),
  (36, i_push (.int 9) 2),
  (38, i_icmp (fun x y => y < x) 75 41),
  (41, i_aload 0 1),
  (42, i_get 7 4),
  (45, i_iload 2 1),
  (46, i_iload 5 2),
  (48, i_iast),
  (49, i_iload 4 2),
  (51, i_aload 0 1),
  (52, i_callV 169 1 7),
  (55, i_if (fun x => x = 0) 65 58),
  (58, i_push (.int 1) 1),
  (59, i_iload 5 2),
  (61, i_bin (fun x y => x <<< (y &&& 31))),
  (62, i_goto 66),
  (65, i_push (.int 0) 1),
  (66, i_bin (fun x y => x ||| y)),
  (67, i_istore 4 2),
  (69, i_iinc 5 1),
  (72, i_goto 34),
  (75, i_aload 0 1),
  (76, i_get 7 4),
  (79, i_iload 2 1),
  (80, i_iload 3 1),
  (81, i_iast),
  (82, i_iload 4 2),
  (84, i_iret)]
theorem s_X7_stood : ∀ q ∈ k_X7_stood, Snd RX7 cX7_stood (some .int) false q.1 q.2 := by
  unfold k_X7_stood
  refine List.forall_mem_cons.mpr ⟨snd_aload_n (by decide +kernel : decode cX7_stood 0 = .ok (.aload_n 0, 1)) rfl, ?_⟩
  refine List.forall_mem_cons.mpr ⟨snd_iload_n (by decide +kernel : decode cX7_stood 1 = .ok (.iload_n 1, 1)) rfl, ?_⟩
  refine List.forall_mem_cons.mpr ⟨snd_callV mok_123 wd_611 wd_614 wd_615 rfl rfl (by decide +kernel : decode cX7_stood 2 = .ok (.invokevirtual 134, 3)), ?_⟩
  refine List.forall_mem_cons.mpr ⟨snd_if_ne (by decide +kernel : decode cX7_stood 5 = .ok (.ifCond .ne 5, 3)) (by decide +kernel), ?_⟩
  refine List.forall_mem_cons.mpr ⟨snd_iconst (by decide +kernel : decode cX7_stood 8 = .ok (.iconst (-1), 1)) (by decide +kernel), ?_⟩
  refine List.forall_mem_cons.mpr ⟨snd_iret (by decide +kernel : decode cX7_stood 9 = .ok (.ireturn, 1)), ?_⟩
  refine List.forall_mem_cons.mpr ⟨snd_iconst (by decide +kernel : decode cX7_stood 10 = .ok (.iconst 5, 1)) (by decide +kernel), ?_⟩
  refine List.forall_mem_cons.mpr ⟨snd_aload_n (by decide +kernel : decode cX7_stood 11 = .ok (.aload_n 0, 1)) rfl, ?_⟩
  refine List.forall_mem_cons.mpr ⟨snd_get fl_7_72 (by decide +kernel : decode cX7_stood 12 = .ok (.getfield 72, 3)), ?_⟩
  refine List.forall_mem_cons.mpr ⟨snd_iconst (by decide +kernel : decode cX7_stood 15 = .ok (.iconst 1, 1)) (by decide +kernel), ?_⟩
  refine List.forall_mem_cons.mpr ⟨snd_isub (by decide +kernel : decode cX7_stood 16 = .ok (.isub, 1)), ?_⟩
  refine List.forall_mem_cons.mpr ⟨snd_imul (by decide +kernel : decode cX7_stood 17 = .ok (.imul, 1)), ?_⟩
  refine List.forall_mem_cons.mpr ⟨snd_iload_n (by decide +kernel : decode cX7_stood 18 = .ok (.iload_n 1, 1)) rfl, ?_⟩
  refine List.forall_mem_cons.mpr ⟨snd_iadd (by decide +kernel : decode cX7_stood 19 = .ok (.iadd, 1)), ?_⟩
  refine List.forall_mem_cons.mpr ⟨snd_istore_n (by decide +kernel : decode cX7_stood 20 = .ok (.istore_n 2, 1)) rfl, ?_⟩
  refine List.forall_mem_cons.mpr ⟨snd_aload_n (by decide +kernel : decode cX7_stood 21 = .ok (.aload_n 0, 1)) rfl, ?_⟩
  refine List.forall_mem_cons.mpr ⟨snd_get fl_7_13 (by decide +kernel : decode cX7_stood 22 = .ok (.getfield 13, 3)), ?_⟩
  refine List.forall_mem_cons.mpr ⟨snd_iload_n (by decide +kernel : decode cX7_stood 25 = .ok (.iload_n 2, 1)) rfl, ?_⟩
  refine List.forall_mem_cons.mpr ⟨snd_iald (by decide +kernel : decode cX7_stood 26 = .ok (.iaload, 1)), ?_⟩
  refine List.forall_mem_cons.mpr ⟨snd_istore_n (by decide +kernel : decode cX7_stood 27 = .ok (.istore_n 3, 1)) rfl, ?_⟩
  refine List.forall_mem_cons.mpr ⟨snd_iconst (by decide +kernel : decode cX7_stood 28 = .ok (.iconst 0, 1)) (by decide +kernel), ?_⟩
  refine List.forall_mem_cons.mpr ⟨snd_istore (by decide +kernel : decode cX7_stood 29 = .ok (.istore 4, 2)), ?_⟩
  refine List.forall_mem_cons.mpr ⟨snd_iconst (by decide +kernel : decode cX7_stood 31 = .ok (.iconst 0, 1)) (by decide +kernel), ?_⟩
  refine List.forall_mem_cons.mpr ⟨snd_istore (by decide +kernel : decode cX7_stood 32 = .ok (.istore 5, 2)), ?_⟩
  refine List.forall_mem_cons.mpr ⟨snd_iload (by decide +kernel : decode cX7_stood 34 = .ok (.iload 5, 2)), ?_⟩
  refine List.forall_mem_cons.mpr ⟨snd_bipush (by decide +kernel : decode cX7_stood 36 = .ok (.bipush 9, 2)) (by decide +kernel), ?_⟩
  refine List.forall_mem_cons.mpr ⟨snd_icmp_gt (by decide +kernel : decode cX7_stood 38 = .ok (.if_icmp .gt 37, 3)) (by decide +kernel), ?_⟩
  refine List.forall_mem_cons.mpr ⟨snd_aload_n (by decide +kernel : decode cX7_stood 41 = .ok (.aload_n 0, 1)) rfl, ?_⟩
  refine List.forall_mem_cons.mpr ⟨snd_get fl_7_13 (by decide +kernel : decode cX7_stood 42 = .ok (.getfield 13, 3)), ?_⟩
  refine List.forall_mem_cons.mpr ⟨snd_iload_n (by decide +kernel : decode cX7_stood 45 = .ok (.iload_n 2, 1)) rfl, ?_⟩
  refine List.forall_mem_cons.mpr ⟨snd_iload (by decide +kernel : decode cX7_stood 46 = .ok (.iload 5, 2)), ?_⟩
  refine List.forall_mem_cons.mpr ⟨snd_iast (by decide +kernel : decode cX7_stood 48 = .ok (.iastore, 1)), ?_⟩
  refine List.forall_mem_cons.mpr ⟨snd_iload (by decide +kernel : decode cX7_stood 49 = .ok (.iload 4, 2)), ?_⟩
  refine List.forall_mem_cons.mpr ⟨snd_aload_n (by decide +kernel : decode cX7_stood 51 = .ok (.aload_n 0, 1)) rfl, ?_⟩
  refine List.forall_mem_cons.mpr ⟨snd_callV mok_169 wd_695 wd_698 wd_699 rfl rfl (by decide +kernel : decode cX7_stood 52 = .ok (.invokevirtual 190, 3)), ?_⟩
  refine List.forall_mem_cons.mpr ⟨snd_if_eq (by decide +kernel : decode cX7_stood 55 = .ok (.ifCond .eq 10, 3)) (by decide +kernel), ?_⟩
  refine List.forall_mem_cons.mpr ⟨snd_iconst (by decide +kernel : decode cX7_stood 58 = .ok (.iconst 1, 1)) (by decide +kernel), ?_⟩
  refine List.forall_mem_cons.mpr ⟨snd_iload (by decide +kernel : decode cX7_stood 59 = .ok (.iload 5, 2)), ?_⟩
  refine List.forall_mem_cons.mpr ⟨snd_ishl (by decide +kernel : decode cX7_stood 61 = .ok (.ishl, 1)), ?_⟩
  refine List.forall_mem_cons.mpr ⟨snd_goto (by decide +kernel : decode cX7_stood 62 = .ok (.goto 4, 3)) (by decide +kernel), ?_⟩
  refine List.forall_mem_cons.mpr ⟨snd_iconst (by decide +kernel : decode cX7_stood 65 = .ok (.iconst 0, 1)) (by decide +kernel), ?_⟩
  refine List.forall_mem_cons.mpr ⟨snd_ior (by decide +kernel : decode cX7_stood 66 = .ok (.ior, 1)), ?_⟩
  refine List.forall_mem_cons.mpr ⟨snd_istore (by decide +kernel : decode cX7_stood 67 = .ok (.istore 4, 2)), ?_⟩
  refine List.forall_mem_cons.mpr ⟨snd_iinc (by decide +kernel : decode cX7_stood 69 = .ok (.iinc 5 1, 3)) (by decide +kernel), ?_⟩
  refine List.forall_mem_cons.mpr ⟨snd_goto (by decide +kernel : decode cX7_stood 72 = .ok (.goto (-38), 3)) (by decide +kernel), ?_⟩
  refine List.forall_mem_cons.mpr ⟨snd_aload_n (by decide +kernel : decode cX7_stood 75 = .ok (.aload_n 0, 1)) rfl, ?_⟩
  refine List.forall_mem_cons.mpr ⟨snd_get fl_7_13 (by decide +kernel : decode cX7_stood 76 = .ok (.getfield 13, 3)), ?_⟩
  refine List.forall_mem_cons.mpr ⟨snd_iload_n (by decide +kernel : decode cX7_stood 79 = .ok (.iload_n 2, 1)) rfl, ?_⟩
  refine List.forall_mem_cons.mpr ⟨snd_iload_n (by decide +kernel : decode cX7_stood 80 = .ok (.iload_n 3, 1)) rfl, ?_⟩
  refine List.forall_mem_cons.mpr ⟨snd_iast (by decide +kernel : decode cX7_stood 81 = .ok (.iastore, 1)), ?_⟩
  refine List.forall_mem_cons.mpr ⟨snd_iload (by decide +kernel : decode cX7_stood 82 = .ok (.iload 4, 2)), ?_⟩
  refine List.forall_mem_cons.mpr ⟨snd_iret (by decide +kernel : decode cX7_stood 84 = .ok (.ireturn, 1)), ?_⟩
  exact fun _ h => absurd h List.not_mem_nil
theorem m_X7_stood : ∀ q ∈ k_X7_stood, Mono q.2 := by
  unfold k_X7_stood
  refine List.forall_mem_cons.mpr ⟨mo_aload _ _, ?_⟩
  refine List.forall_mem_cons.mpr ⟨mo_iload _ _, ?_⟩
  refine List.forall_mem_cons.mpr ⟨mo_call _ _ _, ?_⟩
  refine List.forall_mem_cons.mpr ⟨mo_if _ _ _, ?_⟩
  refine List.forall_mem_cons.mpr ⟨mo_push _ _, ?_⟩
  refine List.forall_mem_cons.mpr ⟨mo_iret, ?_⟩
  refine List.forall_mem_cons.mpr ⟨mo_push _ _, ?_⟩
  refine List.forall_mem_cons.mpr ⟨mo_aload _ _, ?_⟩
  refine List.forall_mem_cons.mpr ⟨mo_get _ _, ?_⟩
  refine List.forall_mem_cons.mpr ⟨mo_push _ _, ?_⟩
  refine List.forall_mem_cons.mpr ⟨mo_bin _, ?_⟩
  refine List.forall_mem_cons.mpr ⟨mo_bin _, ?_⟩
  refine List.forall_mem_cons.mpr ⟨mo_iload _ _, ?_⟩
  refine List.forall_mem_cons.mpr ⟨mo_bin _, ?_⟩
  refine List.forall_mem_cons.mpr ⟨mo_istore _ _, ?_⟩
  refine List.forall_mem_cons.mpr ⟨mo_aload _ _, ?_⟩
  refine List.forall_mem_cons.mpr ⟨mo_get _ _, ?_⟩
  refine List.forall_mem_cons.mpr ⟨mo_iload _ _, ?_⟩
  refine List.forall_mem_cons.mpr ⟨mo_iald, ?_⟩
  refine List.forall_mem_cons.mpr ⟨mo_istore _ _, ?_⟩
  refine List.forall_mem_cons.mpr ⟨mo_push _ _, ?_⟩
  refine List.forall_mem_cons.mpr ⟨mo_istore _ _, ?_⟩
  refine List.forall_mem_cons.mpr ⟨mo_push _ _, ?_⟩
  refine List.forall_mem_cons.mpr ⟨mo_istore _ _, ?_⟩
  refine List.forall_mem_cons.mpr ⟨mo_iload _ _, ?_⟩
  refine List.forall_mem_cons.mpr ⟨mo_push _ _, ?_⟩
  refine List.forall_mem_cons.mpr ⟨mo_icmp _ _ _, ?_⟩
  refine List.forall_mem_cons.mpr ⟨mo_aload _ _, ?_⟩
  refine List.forall_mem_cons.mpr ⟨mo_get _ _, ?_⟩
  refine List.forall_mem_cons.mpr ⟨mo_iload _ _, ?_⟩
  refine List.forall_mem_cons.mpr ⟨mo_iload _ _, ?_⟩
  refine List.forall_mem_cons.mpr ⟨mo_iast, ?_⟩
  refine List.forall_mem_cons.mpr ⟨mo_iload _ _, ?_⟩
  refine List.forall_mem_cons.mpr ⟨mo_aload _ _, ?_⟩
  refine List.forall_mem_cons.mpr ⟨mo_call _ _ _, ?_⟩
  refine List.forall_mem_cons.mpr ⟨mo_if _ _ _, ?_⟩
  refine List.forall_mem_cons.mpr ⟨mo_push _ _, ?_⟩
  refine List.forall_mem_cons.mpr ⟨mo_iload _ _, ?_⟩
  refine List.forall_mem_cons.mpr ⟨mo_bin _, ?_⟩
  refine List.forall_mem_cons.mpr ⟨mo_goto _, ?_⟩
  refine List.forall_mem_cons.mpr ⟨mo_push _ _, ?_⟩
  refine List.forall_mem_cons.mpr ⟨mo_bin _, ?_⟩
  refine List.forall_mem_cons.mpr ⟨mo_istore _ _, ?_⟩
  refine List.forall_mem_cons.mpr ⟨mo_iinc _ _, ?_⟩
  refine List.forall_mem_cons.mpr ⟨mo_goto _, ?_⟩
  refine List.forall_mem_cons.mpr ⟨mo_aload _ _, ?_⟩
  refine List.forall_mem_cons.mpr ⟨mo_get _ _, ?_⟩
  refine List.forall_mem_cons.mpr ⟨mo_iload _ _, ?_⟩
  refine List.forall_mem_cons.mpr ⟨mo_iload _ _, ?_⟩
  refine List.forall_mem_cons.mpr ⟨mo_iast, ?_⟩
  refine List.forall_mem_cons.mpr ⟨mo_iload _ _, ?_⟩
  refine List.forall_mem_cons.mpr ⟨mo_iret, ?_⟩
  exact fun _ h => absurd h List.not_mem_nil
def k_X7_rowBehind : List (Nat × aI) := [
  (0, i_aload 0 1),
  (1, i_callV 156 1 7),
  (4, i_aload 0 1),
  (5, i_iload 1 1),
  (6, i_callV 140 2 7),
  (9, i_push (.int 0) 1),
  (10, i_istore 3 1),
  (11, i_push (.int 0) 1),
  (12, i_istore 4 2),
  (14, i_iload 4 2),
  (16, i_aload 0 1),
  (17, i_get 7 1),
  (20, i_icmp (fun x y => x < y) 23 46),
  (23, i_push (.int 10) 2),
  (25, i_iload 3 1),
  (26, i_bin (fun x y => x * y)),
  (27, i_aload 0 1),
  (28, i_get 7 4),
  (31, i_push (.int 5) 1),
  (32, i_iload 2 1),
  (33, i_bin (fun x y => x * y)),
  (34, i_iload 4 2),
  (36, i_bin (fun x y => x + y)),
  (37, i_iald),
  (38, i_bin (fun x y => x + y)),
  (39, i_istore 3 1),
  (40, i_iinc 4 1),
  (43, i_goto 14),
  (46, i_aload 0 1),
  (47, i_callV 157 1 7),
  (50, i_iload 3 1),
  (51, i_iret)]
theorem s_X7_rowBehind : ∀ q ∈ k_X7_rowBehind, Snd RX7 cX7_rowBehind (some .int) false q.1 q.2 := by
  unfold k_X7_rowBehind
  refine List.forall_mem_cons.mpr ⟨snd_aload_n (by decide +kernel : decode cX7_rowBehind 0 = .ok (.aload_n 0, 1)) rfl, ?_⟩
  refine List.forall_mem_cons.mpr ⟨snd_callV mok_156 wd_661 wd_664 wd_665 rfl rfl (by decide +kernel : decode cX7_rowBehind 1 = .ok (.invokevirtual 167, 3)), ?_⟩
  refine List.forall_mem_cons.mpr ⟨snd_aload_n (by decide +kernel : decode cX7_rowBehind 4 = .ok (.aload_n 0, 1)) rfl, ?_⟩
  refine List.forall_mem_cons.mpr ⟨snd_iload_n (by decide +kernel : decode cX7_rowBehind 5 = .ok (.iload_n 1, 1)) rfl, ?_⟩
  refine List.forall_mem_cons.mpr ⟨snd_callV mok_140 wd_636 wd_639 wd_640 rfl rfl (by decide +kernel : decode cX7_rowBehind 6 = .ok (.invokevirtual 151, 3)), ?_⟩
  refine List.forall_mem_cons.mpr ⟨snd_iconst (by decide +kernel : decode cX7_rowBehind 9 = .ok (.iconst 0, 1)) (by decide +kernel), ?_⟩
  refine List.forall_mem_cons.mpr ⟨snd_istore_n (by decide +kernel : decode cX7_rowBehind 10 = .ok (.istore_n 3, 1)) rfl, ?_⟩
  refine List.forall_mem_cons.mpr ⟨snd_iconst (by decide +kernel : decode cX7_rowBehind 11 = .ok (.iconst 0, 1)) (by decide +kernel), ?_⟩
  refine List.forall_mem_cons.mpr ⟨snd_istore (by decide +kernel : decode cX7_rowBehind 12 = .ok (.istore 4, 2)), ?_⟩
  refine List.forall_mem_cons.mpr ⟨snd_iload (by decide +kernel : decode cX7_rowBehind 14 = .ok (.iload 4, 2)), ?_⟩
  refine List.forall_mem_cons.mpr ⟨snd_aload_n (by decide +kernel : decode cX7_rowBehind 16 = .ok (.aload_n 0, 1)) rfl, ?_⟩
  refine List.forall_mem_cons.mpr ⟨snd_get fl_7_64 (by decide +kernel : decode cX7_rowBehind 17 = .ok (.getfield 64, 3)), ?_⟩
  refine List.forall_mem_cons.mpr ⟨snd_icmp_ge (by decide +kernel : decode cX7_rowBehind 20 = .ok (.if_icmp .ge 26, 3)) (by decide +kernel), ?_⟩
  refine List.forall_mem_cons.mpr ⟨snd_bipush (by decide +kernel : decode cX7_rowBehind 23 = .ok (.bipush 10, 2)) (by decide +kernel), ?_⟩
  refine List.forall_mem_cons.mpr ⟨snd_iload_n (by decide +kernel : decode cX7_rowBehind 25 = .ok (.iload_n 3, 1)) rfl, ?_⟩
  refine List.forall_mem_cons.mpr ⟨snd_imul (by decide +kernel : decode cX7_rowBehind 26 = .ok (.imul, 1)), ?_⟩
  refine List.forall_mem_cons.mpr ⟨snd_aload_n (by decide +kernel : decode cX7_rowBehind 27 = .ok (.aload_n 0, 1)) rfl, ?_⟩
  refine List.forall_mem_cons.mpr ⟨snd_get fl_7_13 (by decide +kernel : decode cX7_rowBehind 28 = .ok (.getfield 13, 3)), ?_⟩
  refine List.forall_mem_cons.mpr ⟨snd_iconst (by decide +kernel : decode cX7_rowBehind 31 = .ok (.iconst 5, 1)) (by decide +kernel), ?_⟩
  refine List.forall_mem_cons.mpr ⟨snd_iload_n (by decide +kernel : decode cX7_rowBehind 32 = .ok (.iload_n 2, 1)) rfl, ?_⟩
  refine List.forall_mem_cons.mpr ⟨snd_imul (by decide +kernel : decode cX7_rowBehind 33 = .ok (.imul, 1)), ?_⟩
  refine List.forall_mem_cons.mpr ⟨snd_iload (by decide +kernel : decode cX7_rowBehind 34 = .ok (.iload 4, 2)), ?_⟩
  refine List.forall_mem_cons.mpr ⟨snd_iadd (by decide +kernel : decode cX7_rowBehind 36 = .ok (.iadd, 1)), ?_⟩
  refine List.forall_mem_cons.mpr ⟨snd_iald (by decide +kernel : decode cX7_rowBehind 37 = .ok (.iaload, 1)), ?_⟩
  refine List.forall_mem_cons.mpr ⟨snd_iadd (by decide +kernel : decode cX7_rowBehind 38 = .ok (.iadd, 1)), ?_⟩
  refine List.forall_mem_cons.mpr ⟨snd_istore_n (by decide +kernel : decode cX7_rowBehind 39 = .ok (.istore_n 3, 1)) rfl, ?_⟩
  refine List.forall_mem_cons.mpr ⟨snd_iinc (by decide +kernel : decode cX7_rowBehind 40 = .ok (.iinc 4 1, 3)) (by decide +kernel), ?_⟩
  refine List.forall_mem_cons.mpr ⟨snd_goto (by decide +kernel : decode cX7_rowBehind 43 = .ok (.goto (-29), 3)) (by decide +kernel), ?_⟩
  refine List.forall_mem_cons.mpr ⟨snd_aload_n (by decide +kernel : decode cX7_rowBehind 46 = .ok (.aload_n 0, 1)) rfl, ?_⟩
  refine List.forall_mem_cons.mpr ⟨snd_callV mok_157 wd_666 wd_669 wd_670 rfl rfl (by decide +kernel : decode cX7_rowBehind 47 = .ok (.invokevirtual 170, 3)), ?_⟩
  refine List.forall_mem_cons.mpr ⟨snd_iload_n (by decide +kernel : decode cX7_rowBehind 50 = .ok (.iload_n 3, 1)) rfl, ?_⟩
  refine List.forall_mem_cons.mpr ⟨snd_iret (by decide +kernel : decode cX7_rowBehind 51 = .ok (.ireturn, 1)), ?_⟩
  exact fun _ h => absurd h List.not_mem_nil
theorem m_X7_rowBehind : ∀ q ∈ k_X7_rowBehind, Mono q.2 := by
  unfold k_X7_rowBehind
  refine List.forall_mem_cons.mpr ⟨mo_aload _ _, ?_⟩
  refine List.forall_mem_cons.mpr ⟨mo_call _ _ _, ?_⟩
  refine List.forall_mem_cons.mpr ⟨mo_aload _ _, ?_⟩
  refine List.forall_mem_cons.mpr ⟨mo_iload _ _, ?_⟩
  refine List.forall_mem_cons.mpr ⟨mo_call _ _ _, ?_⟩
  refine List.forall_mem_cons.mpr ⟨mo_push _ _, ?_⟩
  refine List.forall_mem_cons.mpr ⟨mo_istore _ _, ?_⟩
  refine List.forall_mem_cons.mpr ⟨mo_push _ _, ?_⟩
  refine List.forall_mem_cons.mpr ⟨mo_istore _ _, ?_⟩
  refine List.forall_mem_cons.mpr ⟨mo_iload _ _, ?_⟩
  refine List.forall_mem_cons.mpr ⟨mo_aload _ _, ?_⟩
  refine List.forall_mem_cons.mpr ⟨mo_get _ _, ?_⟩
  refine List.forall_mem_cons.mpr ⟨mo_icmp _ _ _, ?_⟩
  refine List.forall_mem_cons.mpr ⟨mo_push _ _, ?_⟩
  refine List.forall_mem_cons.mpr ⟨mo_iload _ _, ?_⟩
  refine List.forall_mem_cons.mpr ⟨mo_bin _, ?_⟩
  refine List.forall_mem_cons.mpr ⟨mo_aload _ _, ?_⟩
  refine List.forall_mem_cons.mpr ⟨mo_get _ _, ?_⟩
  refine List.forall_mem_cons.mpr ⟨mo_push _ _, ?_⟩
  refine List.forall_mem_cons.mpr ⟨mo_iload _ _, ?_⟩
  refine List.forall_mem_cons.mpr ⟨mo_bin _, ?_⟩
  refine List.forall_mem_cons.mpr ⟨mo_iload _ _, ?_⟩
  refine List.forall_mem_cons.mpr ⟨mo_bin _, ?_⟩
  refine List.forall_mem_cons.mpr ⟨mo_iald, ?_⟩
  refine List.forall_mem_cons.mpr ⟨mo_bin _, ?_⟩
  refine List.forall_mem_cons.mpr ⟨mo_istore _ _, ?_⟩
  refine List.forall_mem_cons.mpr ⟨mo_iinc _ _, ?_⟩
  refine List.forall_mem_cons.mpr ⟨mo_goto _, ?_⟩
  refine List.forall_mem_cons.mpr ⟨mo_aload _ _, ?_⟩
  refine List.forall_mem_cons.mpr ⟨mo_call _ _ _, ?_⟩
  refine List.forall_mem_cons.mpr ⟨mo_iload _ _, ?_⟩
  refine List.forall_mem_cons.mpr ⟨mo_iret, ?_⟩
  exact fun _ h => absurd h List.not_mem_nil
def k_X7_unlike : List (Nat × aI) := [
  (0, i_push (.int 5) 1),
  (1, i_aload 0 1),
  (2, i_get 7 0),
  (5, i_push (.int 1) 1),
  (6, i_bin (fun x y => x - y)),
  (7, i_bin (fun x y => x * y)),
  (8, i_iload 3 1),
  (9, i_bin (fun x y => x + y)),
  (10, i_istore 4 2),
  (12, i_aload 0 1),
  (13, i_get 7 4),
  (16, i_iload 4 2),
  (18, i_iald),
  (19, i_istore 5 2),
  (21, i_push (.int 0) 1),
  (22, i_istore 6 2),
  (24, i_push (.int 0) 1),
  (25, i_istore 7 2),
  (27, i_iload 7 2),
  (29, i_push (.int 9) 2),
  (31, i_icmp (fun x y => y < x) 123 34),
  (34, i_aload 0 1),
  (35, i_get 7 4),
  (38, i_iload 4 2),
  (40, i_iload 7 2),
  (42, i_iast),
  (43, i_aload 0 1),
  (44, i_get 7 25),
  (47, i_iload 7 2),
  (49, i_aload 0 1),
  (50, i_iload 1 1),
  (51, i_iload 2 1),
  (52, i_callV 172 3 7),
  (55, i_iast),
  (56, i_push (.int 0) 1),
  (57, i_istore 8 2),
  (59, i_push (.int 0) 1),
  (60, i_istore 9 2),
  (62, i_iload 9 2),
  (64, i_iload 7 2),
  (66, i_icmp (fun x y => x < y) 69 102),
  (69, i_iload 8 2),
  (71, i_aload 0 1),
  (72, i_get 7 25),
  (75, i_iload 9 2),
  (77, i_iald),
  (78, i_aload 0 1),
  (79, i_get 7 25),
  (82, i_iload 7 2),
  (84, i_iald),
  (85, i_icmp (fun x y => x = y) 88 92),
  (88, i_push (.int 1) 1),
  (89, i_goto 93),
  (92, i_push (.int 0) 1),
  (93, i_bin (fun x y => x + y)),
  (94, i_istore 8 2),
  (96, i_iinc 9 1),
  (99, i_goto 62),
  (102, i_iload 6 2),
  (104, i_iload 8 2),
  (106, i_if (fun x => x = 0) 109 113),
  (109, i_push (.int 1) 1),
  (110, i_goto 114),
  (113, i_push (.int 0) 1),
  (114, i_bin (fun x y => x + y)),
  (115, i_istore 6 2),
  (117, i_iinc 7 1),
  (120, i_goto 27),
  (123, i_aload 0 1),
  (124, i_get 7 4),
  (127, i_iload 4 2),
  (129, i_iload 5 2),
  (131, i_iast),
  (132, i_iload 6 2),
  (134, i_iret)]
theorem s_X7_unlike : ∀ q ∈ k_X7_unlike, Snd RX7 cX7_unlike (some .int) false q.1 q.2 := by
  unfold k_X7_unlike
  refine List.forall_mem_cons.mpr ⟨snd_iconst (by decide +kernel : decode cX7_unlike 0 = .ok (.iconst 5, 1)) (by decide +kernel), ?_⟩
  refine List.forall_mem_cons.mpr ⟨snd_aload_n (by decide +kernel : decode cX7_unlike 1 = .ok (.aload_n 0, 1)) rfl, ?_⟩
  refine List.forall_mem_cons.mpr ⟨snd_get fl_7_72 (by decide +kernel : decode cX7_unlike 2 = .ok (.getfield 72, 3)), ?_⟩
  refine List.forall_mem_cons.mpr ⟨snd_iconst (by decide +kernel : decode cX7_unlike 5 = .ok (.iconst 1, 1)) (by decide +kernel), ?_⟩
  refine List.forall_mem_cons.mpr ⟨snd_isub (by decide +kernel : decode cX7_unlike 6 = .ok (.isub, 1)), ?_⟩
  refine List.forall_mem_cons.mpr ⟨snd_imul (by decide +kernel : decode cX7_unlike 7 = .ok (.imul, 1)), ?_⟩
  refine List.forall_mem_cons.mpr ⟨snd_iload_n (by decide +kernel : decode cX7_unlike 8 = .ok (.iload_n 3, 1)) rfl, ?_⟩
  refine List.forall_mem_cons.mpr ⟨snd_iadd (by decide +kernel : decode cX7_unlike 9 = .ok (.iadd, 1)), ?_⟩
  refine List.forall_mem_cons.mpr ⟨snd_istore (by decide +kernel : decode cX7_unlike 10 = .ok (.istore 4, 2)), ?_⟩
  refine List.forall_mem_cons.mpr ⟨snd_aload_n (by decide +kernel : decode cX7_unlike 12 = .ok (.aload_n 0, 1)) rfl, ?_⟩
  refine List.forall_mem_cons.mpr ⟨snd_get fl_7_13 (by decide +kernel : decode cX7_unlike 13 = .ok (.getfield 13, 3)), ?_⟩
  refine List.forall_mem_cons.mpr ⟨snd_iload (by decide +kernel : decode cX7_unlike 16 = .ok (.iload 4, 2)), ?_⟩
  refine List.forall_mem_cons.mpr ⟨snd_iald (by decide +kernel : decode cX7_unlike 18 = .ok (.iaload, 1)), ?_⟩
  refine List.forall_mem_cons.mpr ⟨snd_istore (by decide +kernel : decode cX7_unlike 19 = .ok (.istore 5, 2)), ?_⟩
  refine List.forall_mem_cons.mpr ⟨snd_iconst (by decide +kernel : decode cX7_unlike 21 = .ok (.iconst 0, 1)) (by decide +kernel), ?_⟩
  refine List.forall_mem_cons.mpr ⟨snd_istore (by decide +kernel : decode cX7_unlike 22 = .ok (.istore 6, 2)), ?_⟩
  refine List.forall_mem_cons.mpr ⟨snd_iconst (by decide +kernel : decode cX7_unlike 24 = .ok (.iconst 0, 1)) (by decide +kernel), ?_⟩
  refine List.forall_mem_cons.mpr ⟨snd_istore (by decide +kernel : decode cX7_unlike 25 = .ok (.istore 7, 2)), ?_⟩
  refine List.forall_mem_cons.mpr ⟨snd_iload (by decide +kernel : decode cX7_unlike 27 = .ok (.iload 7, 2)), ?_⟩
  refine List.forall_mem_cons.mpr ⟨snd_bipush (by decide +kernel : decode cX7_unlike 29 = .ok (.bipush 9, 2)) (by decide +kernel), ?_⟩
  refine List.forall_mem_cons.mpr ⟨snd_icmp_gt (by decide +kernel : decode cX7_unlike 31 = .ok (.if_icmp .gt 92, 3)) (by decide +kernel), ?_⟩
  refine List.forall_mem_cons.mpr ⟨snd_aload_n (by decide +kernel : decode cX7_unlike 34 = .ok (.aload_n 0, 1)) rfl, ?_⟩
  refine List.forall_mem_cons.mpr ⟨snd_get fl_7_13 (by decide +kernel : decode cX7_unlike 35 = .ok (.getfield 13, 3)), ?_⟩
  refine List.forall_mem_cons.mpr ⟨snd_iload (by decide +kernel : decode cX7_unlike 38 = .ok (.iload 4, 2)), ?_⟩
  refine List.forall_mem_cons.mpr ⟨snd_iload (by decide +kernel : decode cX7_unlike 40 = .ok (.iload 7, 2)), ?_⟩
  refine List.forall_mem_cons.mpr ⟨snd_iast (by decide +kernel : decode cX7_unlike 42 = .ok (.iastore, 1)), ?_⟩
  refine List.forall_mem_cons.mpr ⟨snd_aload_n (by decide +kernel : decode cX7_unlike 43 = .ok (.aload_n 0, 1)) rfl, ?_⟩
  refine List.forall_mem_cons.mpr ⟨snd_get fl_7_58 (by decide +kernel : decode cX7_unlike 44 = .ok (.getfield 58, 3)), ?_⟩
  refine List.forall_mem_cons.mpr ⟨snd_iload (by decide +kernel : decode cX7_unlike 47 = .ok (.iload 7, 2)), ?_⟩
  refine List.forall_mem_cons.mpr ⟨snd_aload_n (by decide +kernel : decode cX7_unlike 49 = .ok (.aload_n 0, 1)) rfl, ?_⟩
  refine List.forall_mem_cons.mpr ⟨snd_iload_n (by decide +kernel : decode cX7_unlike 50 = .ok (.iload_n 1, 1)) rfl, ?_⟩
  refine List.forall_mem_cons.mpr ⟨snd_iload_n (by decide +kernel : decode cX7_unlike 51 = .ok (.iload_n 2, 1)) rfl, ?_⟩
  refine List.forall_mem_cons.mpr ⟨snd_callV mok_172 wd_700 wd_703 wd_704 rfl rfl (by decide +kernel : decode cX7_unlike 52 = .ok (.invokevirtual 193, 3)), ?_⟩
  refine List.forall_mem_cons.mpr ⟨snd_iast (by decide +kernel : decode cX7_unlike 55 = .ok (.iastore, 1)), ?_⟩
  refine List.forall_mem_cons.mpr ⟨snd_iconst (by decide +kernel : decode cX7_unlike 56 = .ok (.iconst 0, 1)) (by decide +kernel), ?_⟩
  refine List.forall_mem_cons.mpr ⟨snd_istore (by decide +kernel : decode cX7_unlike 57 = .ok (.istore 8, 2)), ?_⟩
  refine List.forall_mem_cons.mpr ⟨snd_iconst (by decide +kernel : decode cX7_unlike 59 = .ok (.iconst 0, 1)) (by decide +kernel), ?_⟩
  refine List.forall_mem_cons.mpr ⟨snd_istore (by decide +kernel : decode cX7_unlike 60 = .ok (.istore 9, 2)), ?_⟩
  refine List.forall_mem_cons.mpr ⟨snd_iload (by decide +kernel : decode cX7_unlike 62 = .ok (.iload 9, 2)), ?_⟩
  refine List.forall_mem_cons.mpr ⟨snd_iload (by decide +kernel : decode cX7_unlike 64 = .ok (.iload 7, 2)), ?_⟩
  refine List.forall_mem_cons.mpr ⟨snd_icmp_ge (by decide +kernel : decode cX7_unlike 66 = .ok (.if_icmp .ge 36, 3)) (by decide +kernel), ?_⟩
  refine List.forall_mem_cons.mpr ⟨snd_iload (by decide +kernel : decode cX7_unlike 69 = .ok (.iload 8, 2)), ?_⟩
  refine List.forall_mem_cons.mpr ⟨snd_aload_n (by decide +kernel : decode cX7_unlike 71 = .ok (.aload_n 0, 1)) rfl, ?_⟩
  refine List.forall_mem_cons.mpr ⟨snd_get fl_7_58 (by decide +kernel : decode cX7_unlike 72 = .ok (.getfield 58, 3)), ?_⟩
  refine List.forall_mem_cons.mpr ⟨snd_iload (by decide +kernel : decode cX7_unlike 75 = .ok (.iload 9, 2)), ?_⟩
  refine List.forall_mem_cons.mpr ⟨snd_iald (by decide +kernel : decode cX7_unlike 77 = .ok (.iaload, 1)), ?_⟩
  refine List.forall_mem_cons.mpr ⟨snd_aload_n (by decide +kernel : decode cX7_unlike 78 = .ok (.aload_n 0, 1)) rfl, ?_⟩
  refine List.forall_mem_cons.mpr ⟨snd_get fl_7_58 (by decide +kernel : decode cX7_unlike 79 = .ok (.getfield 58, 3)), ?_⟩
  refine List.forall_mem_cons.mpr ⟨snd_iload (by decide +kernel : decode cX7_unlike 82 = .ok (.iload 7, 2)), ?_⟩
  refine List.forall_mem_cons.mpr ⟨snd_iald (by decide +kernel : decode cX7_unlike 84 = .ok (.iaload, 1)), ?_⟩
  refine List.forall_mem_cons.mpr ⟨snd_icmp_ne (by decide +kernel : decode cX7_unlike 85 = .ok (.if_icmp .ne 7, 3)) (by decide +kernel), ?_⟩
  refine List.forall_mem_cons.mpr ⟨snd_iconst (by decide +kernel : decode cX7_unlike 88 = .ok (.iconst 1, 1)) (by decide +kernel), ?_⟩
  refine List.forall_mem_cons.mpr ⟨snd_goto (by decide +kernel : decode cX7_unlike 89 = .ok (.goto 4, 3)) (by decide +kernel), ?_⟩
  refine List.forall_mem_cons.mpr ⟨snd_iconst (by decide +kernel : decode cX7_unlike 92 = .ok (.iconst 0, 1)) (by decide +kernel), ?_⟩
  refine List.forall_mem_cons.mpr ⟨snd_iadd (by decide +kernel : decode cX7_unlike 93 = .ok (.iadd, 1)), ?_⟩
  refine List.forall_mem_cons.mpr ⟨snd_istore (by decide +kernel : decode cX7_unlike 94 = .ok (.istore 8, 2)), ?_⟩
  refine List.forall_mem_cons.mpr ⟨snd_iinc (by decide +kernel : decode cX7_unlike 96 = .ok (.iinc 9 1, 3)) (by decide +kernel), ?_⟩
  refine List.forall_mem_cons.mpr ⟨snd_goto (by decide +kernel : decode cX7_unlike 99 = .ok (.goto (-37), 3)) (by decide +kernel), ?_⟩
  refine List.forall_mem_cons.mpr ⟨snd_iload (by decide +kernel : decode cX7_unlike 102 = .ok (.iload 6, 2)), ?_⟩
  refine List.forall_mem_cons.mpr ⟨snd_iload (by decide +kernel : decode cX7_unlike 104 = .ok (.iload 8, 2)), ?_⟩
  refine List.forall_mem_cons.mpr ⟨snd_if_ne (by decide +kernel : decode cX7_unlike 106 = .ok (.ifCond .ne 7, 3)) (by decide +kernel), ?_⟩
  refine List.forall_mem_cons.mpr ⟨snd_iconst (by decide +kernel : decode cX7_unlike 109 = .ok (.iconst 1, 1)) (by decide +kernel), ?_⟩
  refine List.forall_mem_cons.mpr ⟨snd_goto (by decide +kernel : decode cX7_unlike 110 = .ok (.goto 4, 3)) (by decide +kernel), ?_⟩
  refine List.forall_mem_cons.mpr ⟨snd_iconst (by decide +kernel : decode cX7_unlike 113 = .ok (.iconst 0, 1)) (by decide +kernel), ?_⟩
  refine List.forall_mem_cons.mpr ⟨snd_iadd (by decide +kernel : decode cX7_unlike 114 = .ok (.iadd, 1)), ?_⟩
  refine List.forall_mem_cons.mpr ⟨snd_istore (by decide +kernel : decode cX7_unlike 115 = .ok (.istore 6, 2)), ?_⟩
  refine List.forall_mem_cons.mpr ⟨snd_iinc (by decide +kernel : decode cX7_unlike 117 = .ok (.iinc 7 1, 3)) (by decide +kernel), ?_⟩
  refine List.forall_mem_cons.mpr ⟨snd_goto (by decide +kernel : decode cX7_unlike 120 = .ok (.goto (-93), 3)) (by decide +kernel), ?_⟩
  refine List.forall_mem_cons.mpr ⟨snd_aload_n (by decide +kernel : decode cX7_unlike 123 = .ok (.aload_n 0, 1)) rfl, ?_⟩
  refine List.forall_mem_cons.mpr ⟨snd_get fl_7_13 (by decide +kernel : decode cX7_unlike 124 = .ok (.getfield 13, 3)), ?_⟩
  refine List.forall_mem_cons.mpr ⟨snd_iload (by decide +kernel : decode cX7_unlike 127 = .ok (.iload 4, 2)), ?_⟩
  refine List.forall_mem_cons.mpr ⟨snd_iload (by decide +kernel : decode cX7_unlike 129 = .ok (.iload 5, 2)), ?_⟩
  refine List.forall_mem_cons.mpr ⟨snd_iast (by decide +kernel : decode cX7_unlike 131 = .ok (.iastore, 1)), ?_⟩
  refine List.forall_mem_cons.mpr ⟨snd_iload (by decide +kernel : decode cX7_unlike 132 = .ok (.iload 6, 2)), ?_⟩
  refine List.forall_mem_cons.mpr ⟨snd_iret (by decide +kernel : decode cX7_unlike 134 = .ok (.ireturn, 1)), ?_⟩
  exact fun _ h => absurd h List.not_mem_nil
theorem m_X7_unlike : ∀ q ∈ k_X7_unlike, Mono q.2 := by
  unfold k_X7_unlike
  refine List.forall_mem_cons.mpr ⟨mo_push _ _, ?_⟩
  refine List.forall_mem_cons.mpr ⟨mo_aload _ _, ?_⟩
  refine List.forall_mem_cons.mpr ⟨mo_get _ _, ?_⟩
  refine List.forall_mem_cons.mpr ⟨mo_push _ _, ?_⟩
  refine List.forall_mem_cons.mpr ⟨mo_bin _, ?_⟩
  refine List.forall_mem_cons.mpr ⟨mo_bin _, ?_⟩
  refine List.forall_mem_cons.mpr ⟨mo_iload _ _, ?_⟩
  refine List.forall_mem_cons.mpr ⟨mo_bin _, ?_⟩
  refine List.forall_mem_cons.mpr ⟨mo_istore _ _, ?_⟩
  refine List.forall_mem_cons.mpr ⟨mo_aload _ _, ?_⟩
  refine List.forall_mem_cons.mpr ⟨mo_get _ _, ?_⟩
  refine List.forall_mem_cons.mpr ⟨mo_iload _ _, ?_⟩
  refine List.forall_mem_cons.mpr ⟨mo_iald, ?_⟩
  refine List.forall_mem_cons.mpr ⟨mo_istore _ _, ?_⟩
  refine List.forall_mem_cons.mpr ⟨mo_push _ _, ?_⟩
  refine List.forall_mem_cons.mpr ⟨mo_istore _ _, ?_⟩
  refine List.forall_mem_cons.mpr ⟨mo_push _ _, ?_⟩
  refine List.forall_mem_cons.mpr ⟨mo_istore _ _, ?_⟩
  refine List.forall_mem_cons.mpr ⟨mo_iload _ _, ?_⟩
  refine List.forall_mem_cons.mpr ⟨mo_push _ _, ?_⟩
  refine List.forall_mem_cons.mpr ⟨mo_icmp _ _ _, ?_⟩
  refine List.forall_mem_cons.mpr ⟨mo_aload _ _, ?_⟩
  refine List.forall_mem_cons.mpr ⟨mo_get _ _, ?_⟩
  refine List.forall_mem_cons.mpr ⟨mo_iload _ _, ?_⟩
  refine List.forall_mem_cons.mpr ⟨mo_iload _ _, ?_⟩
  refine List.forall_mem_cons.mpr ⟨mo_iast, ?_⟩
  refine List.forall_mem_cons.mpr ⟨mo_aload _ _, ?_⟩
  refine List.forall_mem_cons.mpr ⟨mo_get _ _, ?_⟩
  refine List.forall_mem_cons.mpr ⟨mo_iload _ _, ?_⟩
  refine List.forall_mem_cons.mpr ⟨mo_aload _ _, ?_⟩
  refine List.forall_mem_cons.mpr ⟨mo_iload _ _, ?_⟩
  refine List.forall_mem_cons.mpr ⟨mo_iload _ _, ?_⟩
  refine List.forall_mem_cons.mpr ⟨mo_call _ _ _, ?_⟩
  refine List.forall_mem_cons.mpr ⟨mo_iast, ?_⟩
  refine List.forall_mem_cons.mpr ⟨mo_push _ _, ?_⟩
  refine List.forall_mem_cons.mpr ⟨mo_istore _ _, ?_⟩
  refine List.forall_mem_cons.mpr ⟨mo_push _ _, ?_⟩
  refine List.forall_mem_cons.mpr ⟨mo_istore _ _, ?_⟩
  refine List.forall_mem_cons.mpr ⟨mo_iload _ _, ?_⟩
  refine List.forall_mem_cons.mpr ⟨mo_iload _ _, ?_⟩
  refine List.forall_mem_cons.mpr ⟨mo_icmp _ _ _, ?_⟩
  refine List.forall_mem_cons.mpr ⟨mo_iload _ _, ?_⟩
  refine List.forall_mem_cons.mpr ⟨mo_aload _ _, ?_⟩
  refine List.forall_mem_cons.mpr ⟨mo_get _ _, ?_⟩
  refine List.forall_mem_cons.mpr ⟨mo_iload _ _, ?_⟩
  refine List.forall_mem_cons.mpr ⟨mo_iald, ?_⟩
  refine List.forall_mem_cons.mpr ⟨mo_aload _ _, ?_⟩
  refine List.forall_mem_cons.mpr ⟨mo_get _ _, ?_⟩
  refine List.forall_mem_cons.mpr ⟨mo_iload _ _, ?_⟩
  refine List.forall_mem_cons.mpr ⟨mo_iald, ?_⟩
  refine List.forall_mem_cons.mpr ⟨mo_icmp _ _ _, ?_⟩
  refine List.forall_mem_cons.mpr ⟨mo_push _ _, ?_⟩
  refine List.forall_mem_cons.mpr ⟨mo_goto _, ?_⟩
  refine List.forall_mem_cons.mpr ⟨mo_push _ _, ?_⟩
  refine List.forall_mem_cons.mpr ⟨mo_bin _, ?_⟩
  refine List.forall_mem_cons.mpr ⟨mo_istore _ _, ?_⟩
  refine List.forall_mem_cons.mpr ⟨mo_iinc _ _, ?_⟩
  refine List.forall_mem_cons.mpr ⟨mo_goto _, ?_⟩
  refine List.forall_mem_cons.mpr ⟨mo_iload _ _, ?_⟩
  refine List.forall_mem_cons.mpr ⟨mo_iload _ _, ?_⟩
  refine List.forall_mem_cons.mpr ⟨mo_if _ _ _, ?_⟩
  refine List.forall_mem_cons.mpr ⟨mo_push _ _, ?_⟩
  refine List.forall_mem_cons.mpr ⟨mo_goto _, ?_⟩
  refine List.forall_mem_cons.mpr ⟨mo_push _ _, ?_⟩
  refine List.forall_mem_cons.mpr ⟨mo_bin _, ?_⟩
  refine List.forall_mem_cons.mpr ⟨mo_istore _ _, ?_⟩
  refine List.forall_mem_cons.mpr ⟨mo_iinc _ _, ?_⟩
  refine List.forall_mem_cons.mpr ⟨mo_goto _, ?_⟩
  refine List.forall_mem_cons.mpr ⟨mo_aload _ _, ?_⟩
  refine List.forall_mem_cons.mpr ⟨mo_get _ _, ?_⟩
  refine List.forall_mem_cons.mpr ⟨mo_iload _ _, ?_⟩
  refine List.forall_mem_cons.mpr ⟨mo_iload _ _, ?_⟩
  refine List.forall_mem_cons.mpr ⟨mo_iast, ?_⟩
  refine List.forall_mem_cons.mpr ⟨mo_iload _ _, ?_⟩
  refine List.forall_mem_cons.mpr ⟨mo_iret, ?_⟩
  exact fun _ h => absurd h List.not_mem_nil
def k_X7_tells : List (Nat × aI) := [
  (0, i_iload 1 1),
  (1, i_push (.int 0) 1),
  (2, i_push (.int 20) 2),
  (4, i_callS 117 3),
  (7, i_if (fun x => x = 0) 27 10),
  (10, i_aload 0 1),
  (11, i_iload 2 1),
  (12, i_callV 122 2 7),
  (15, i_if (fun x => x = 0) 27 18),
  (18, i_iload 3 1),
  (19, i_push (.int 0) 1),
  (20, i_push (.int 1) 1),
  (21, i_callS 117 3),
  (24, i_if (fun x => x = 0) 27 29),
  (27, i_push (.int (-1)) 1),
  (28, i_iret),
  (29, i_push (.int 0) 1),
  (30, i_istore 4 2),
  (32, i_push (.int 0) 1),
  (33, i_istore 5 2),
  (35, i_push (.int 0) 1),
  (36, i_istore 6 2),
  (38, i_iload 6 2),
  (40, i_aload 0 1),
  (41, i_get 7 1),
  (44, i_icmp (fun x y => x < y) 47 95),
  (47, i_aload 0 1),
  (48, i_iload 1 1),
  (49, i_iload 2 1),
  (50, i_iload 6 2),
  (52, i_callV 173 4 7),
  (55, i_istore 7 2),
  (57, i_iload 7 2),
  (59, i_iload 5 2),
  (61, i_icmp (fun x y => y < x) 64 69),
  (64, i_iload 6 2),
  (66, i_goto 71),
  (69, i_iload 4 2),
  (71, i_istore 4 2),
  (73, i_iload 7 2),
  (75, i_iload 5 2),
  (77, i_icmp (fun x y => y < x) 80 85),
  (80, i_iload 7 2),
  (82, i_goto 87),
  (85, i_iload 5 2),
  (87, i_istore 5 2),
  (89, i_iinc 6 1),
  (92, i_goto 38),
  (95, i_iload 3 1),
  (96, i_if (fun x => x = 0) 99 104),
  (99, i_iload 4 2),
  (101, i_goto 106),
  (104, i_iload 5 2),
  (106, i_iret)]
theorem s_X7_tells : ∀ q ∈ k_X7_tells, Snd RX7 cX7_tells (some .int) false q.1 q.2 := by
  unfold k_X7_tells
  refine List.forall_mem_cons.mpr ⟨snd_iload_n (by decide +kernel : decode cX7_tells 0 = .ok (.iload_n 1, 1)) rfl, ?_⟩
  refine List.forall_mem_cons.mpr ⟨snd_iconst (by decide +kernel : decode cX7_tells 1 = .ok (.iconst 0, 1)) (by decide +kernel), ?_⟩
  refine List.forall_mem_cons.mpr ⟨snd_bipush (by decide +kernel : decode cX7_tells 2 = .ok (.bipush 20, 2)) (by decide +kernel), ?_⟩
  refine List.forall_mem_cons.mpr ⟨snd_callS mok_117 wd_554 wd_557 (by decide +kernel : decode cX7_tells 4 = .ok (.invokestatic 75, 3)), ?_⟩
  refine List.forall_mem_cons.mpr ⟨snd_if_eq (by decide +kernel : decode cX7_tells 7 = .ok (.ifCond .eq 20, 3)) (by decide +kernel), ?_⟩
  refine List.forall_mem_cons.mpr ⟨snd_aload_n (by decide +kernel : decode cX7_tells 10 = .ok (.aload_n 0, 1)) rfl, ?_⟩
  refine List.forall_mem_cons.mpr ⟨snd_iload_n (by decide +kernel : decode cX7_tells 11 = .ok (.iload_n 2, 1)) rfl, ?_⟩
  refine List.forall_mem_cons.mpr ⟨snd_callV mok_122 wd_606 wd_609 wd_610 rfl rfl (by decide +kernel : decode cX7_tells 12 = .ok (.invokevirtual 131, 3)), ?_⟩
  refine List.forall_mem_cons.mpr ⟨snd_if_eq (by decide +kernel : decode cX7_tells 15 = .ok (.ifCond .eq 12, 3)) (by decide +kernel), ?_⟩
  refine List.forall_mem_cons.mpr ⟨snd_iload_n (by decide +kernel : decode cX7_tells 18 = .ok (.iload_n 3, 1)) rfl, ?_⟩
  refine List.forall_mem_cons.mpr ⟨snd_iconst (by decide +kernel : decode cX7_tells 19 = .ok (.iconst 0, 1)) (by decide +kernel), ?_⟩
  refine List.forall_mem_cons.mpr ⟨snd_iconst (by decide +kernel : decode cX7_tells 20 = .ok (.iconst 1, 1)) (by decide +kernel), ?_⟩
  refine List.forall_mem_cons.mpr ⟨snd_callS mok_117 wd_554 wd_557 (by decide +kernel : decode cX7_tells 21 = .ok (.invokestatic 75, 3)), ?_⟩
  refine List.forall_mem_cons.mpr ⟨snd_if_ne (by decide +kernel : decode cX7_tells 24 = .ok (.ifCond .ne 5, 3)) (by decide +kernel), ?_⟩
  refine List.forall_mem_cons.mpr ⟨snd_iconst (by decide +kernel : decode cX7_tells 27 = .ok (.iconst (-1), 1)) (by decide +kernel), ?_⟩
  refine List.forall_mem_cons.mpr ⟨snd_iret (by decide +kernel : decode cX7_tells 28 = .ok (.ireturn, 1)), ?_⟩
  refine List.forall_mem_cons.mpr ⟨snd_iconst (by decide +kernel : decode cX7_tells 29 = .ok (.iconst 0, 1)) (by decide +kernel), ?_⟩
  refine List.forall_mem_cons.mpr ⟨snd_istore (by decide +kernel : decode cX7_tells 30 = .ok (.istore 4, 2)), ?_⟩
  refine List.forall_mem_cons.mpr ⟨snd_iconst (by decide +kernel : decode cX7_tells 32 = .ok (.iconst 0, 1)) (by decide +kernel), ?_⟩
  refine List.forall_mem_cons.mpr ⟨snd_istore (by decide +kernel : decode cX7_tells 33 = .ok (.istore 5, 2)), ?_⟩
  refine List.forall_mem_cons.mpr ⟨snd_iconst (by decide +kernel : decode cX7_tells 35 = .ok (.iconst 0, 1)) (by decide +kernel), ?_⟩
  refine List.forall_mem_cons.mpr ⟨snd_istore (by decide +kernel : decode cX7_tells 36 = .ok (.istore 6, 2)), ?_⟩
  refine List.forall_mem_cons.mpr ⟨snd_iload (by decide +kernel : decode cX7_tells 38 = .ok (.iload 6, 2)), ?_⟩
  refine List.forall_mem_cons.mpr ⟨snd_aload_n (by decide +kernel : decode cX7_tells 40 = .ok (.aload_n 0, 1)) rfl, ?_⟩
  refine List.forall_mem_cons.mpr ⟨snd_get fl_7_64 (by decide +kernel : decode cX7_tells 41 = .ok (.getfield 64, 3)), ?_⟩
  refine List.forall_mem_cons.mpr ⟨snd_icmp_ge (by decide +kernel : decode cX7_tells 44 = .ok (.if_icmp .ge 51, 3)) (by decide +kernel), ?_⟩
  refine List.forall_mem_cons.mpr ⟨snd_aload_n (by decide +kernel : decode cX7_tells 47 = .ok (.aload_n 0, 1)) rfl, ?_⟩
  refine List.forall_mem_cons.mpr ⟨snd_iload_n (by decide +kernel : decode cX7_tells 48 = .ok (.iload_n 1, 1)) rfl, ?_⟩
  refine List.forall_mem_cons.mpr ⟨snd_iload_n (by decide +kernel : decode cX7_tells 49 = .ok (.iload_n 2, 1)) rfl, ?_⟩
  refine List.forall_mem_cons.mpr ⟨snd_iload (by decide +kernel : decode cX7_tells 50 = .ok (.iload 6, 2)), ?_⟩
  refine List.forall_mem_cons.mpr ⟨snd_callV mok_173 wd_705 wd_708 wd_709 rfl rfl (by decide +kernel : decode cX7_tells 52 = .ok (.invokevirtual 196, 3)), ?_⟩
  refine List.forall_mem_cons.mpr ⟨snd_istore (by decide +kernel : decode cX7_tells 55 = .ok (.istore 7, 2)), ?_⟩
  refine List.forall_mem_cons.mpr ⟨snd_iload (by decide +kernel : decode cX7_tells 57 = .ok (.iload 7, 2)), ?_⟩
  refine List.forall_mem_cons.mpr ⟨snd_iload (by decide +kernel : decode cX7_tells 59 = .ok (.iload 5, 2)), ?_⟩
  refine List.forall_mem_cons.mpr ⟨snd_icmp_le (by decide +kernel : decode cX7_tells 61 = .ok (.if_icmp .le 8, 3)) (by decide +kernel), ?_⟩
  refine List.forall_mem_cons.mpr ⟨snd_iload (by decide +kernel : decode cX7_tells 64 = .ok (.iload 6, 2)), ?_⟩
  refine List.forall_mem_cons.mpr ⟨snd_goto (by decide +kernel : decode cX7_tells 66 = .ok (.goto 5, 3)) (by decide +kernel), ?_⟩
  refine List.forall_mem_cons.mpr ⟨snd_iload (by decide +kernel : decode cX7_tells 69 = .ok (.iload 4, 2)), ?_⟩
  refine List.forall_mem_cons.mpr ⟨snd_istore (by decide +kernel : decode cX7_tells 71 = .ok (.istore 4, 2)), ?_⟩
  refine List.forall_mem_cons.mpr ⟨snd_iload (by decide +kernel : decode cX7_tells 73 = .ok (.iload 7, 2)), ?_⟩
  refine List.forall_mem_cons.mpr ⟨snd_iload (by decide +kernel : decode cX7_tells 75 = .ok (.iload 5, 2)), ?_⟩
  refine List.forall_mem_cons.mpr ⟨snd_icmp_le (by decide +kernel : decode cX7_tells 77 = .ok (.if_icmp .le 8, 3)) (by decide +kernel), ?_⟩
  refine List.forall_mem_cons.mpr ⟨snd_iload (by decide +kernel : decode cX7_tells 80 = .ok (.iload 7, 2)), ?_⟩
  refine List.forall_mem_cons.mpr ⟨snd_goto (by decide +kernel : decode cX7_tells 82 = .ok (.goto 5, 3)) (by decide +kernel), ?_⟩
  refine List.forall_mem_cons.mpr ⟨snd_iload (by decide +kernel : decode cX7_tells 85 = .ok (.iload 5, 2)), ?_⟩
  refine List.forall_mem_cons.mpr ⟨snd_istore (by decide +kernel : decode cX7_tells 87 = .ok (.istore 5, 2)), ?_⟩
  refine List.forall_mem_cons.mpr ⟨snd_iinc (by decide +kernel : decode cX7_tells 89 = .ok (.iinc 6 1, 3)) (by decide +kernel), ?_⟩
  refine List.forall_mem_cons.mpr ⟨snd_goto (by decide +kernel : decode cX7_tells 92 = .ok (.goto (-54), 3)) (by decide +kernel), ?_⟩
  refine List.forall_mem_cons.mpr ⟨snd_iload_n (by decide +kernel : decode cX7_tells 95 = .ok (.iload_n 3, 1)) rfl, ?_⟩
  refine List.forall_mem_cons.mpr ⟨snd_if_ne (by decide +kernel : decode cX7_tells 96 = .ok (.ifCond .ne 8, 3)) (by decide +kernel), ?_⟩
  refine List.forall_mem_cons.mpr ⟨snd_iload (by decide +kernel : decode cX7_tells 99 = .ok (.iload 4, 2)), ?_⟩
  refine List.forall_mem_cons.mpr ⟨snd_goto (by decide +kernel : decode cX7_tells 101 = .ok (.goto 5, 3)) (by decide +kernel), ?_⟩
  refine List.forall_mem_cons.mpr ⟨snd_iload (by decide +kernel : decode cX7_tells 104 = .ok (.iload 5, 2)), ?_⟩
  refine List.forall_mem_cons.mpr ⟨snd_iret (by decide +kernel : decode cX7_tells 106 = .ok (.ireturn, 1)), ?_⟩
  exact fun _ h => absurd h List.not_mem_nil
theorem m_X7_tells : ∀ q ∈ k_X7_tells, Mono q.2 := by
  unfold k_X7_tells
  refine List.forall_mem_cons.mpr ⟨mo_iload _ _, ?_⟩
  refine List.forall_mem_cons.mpr ⟨mo_push _ _, ?_⟩
  refine List.forall_mem_cons.mpr ⟨mo_push _ _, ?_⟩
  refine List.forall_mem_cons.mpr ⟨mo_call _ _ _, ?_⟩
  refine List.forall_mem_cons.mpr ⟨mo_if _ _ _, ?_⟩
  refine List.forall_mem_cons.mpr ⟨mo_aload _ _, ?_⟩
  refine List.forall_mem_cons.mpr ⟨mo_iload _ _, ?_⟩
  refine List.forall_mem_cons.mpr ⟨mo_call _ _ _, ?_⟩
  refine List.forall_mem_cons.mpr ⟨mo_if _ _ _, ?_⟩
  refine List.forall_mem_cons.mpr ⟨mo_iload _ _, ?_⟩
  refine List.forall_mem_cons.mpr ⟨mo_push _ _, ?_⟩
  refine List.forall_mem_cons.mpr ⟨mo_push _ _, ?_⟩
  refine List.forall_mem_cons.mpr ⟨mo_call _ _ _, ?_⟩
  refine List.forall_mem_cons.mpr ⟨mo_if _ _ _, ?_⟩
  refine List.forall_mem_cons.mpr ⟨mo_push _ _, ?_⟩
  refine List.forall_mem_cons.mpr ⟨mo_iret, ?_⟩
  refine List.forall_mem_cons.mpr ⟨mo_push _ _, ?_⟩
  refine List.forall_mem_cons.mpr ⟨mo_istore _ _, ?_⟩
  refine List.forall_mem_cons.mpr ⟨mo_push _ _, ?_⟩
  refine List.forall_mem_cons.mpr ⟨mo_istore _ _, ?_⟩
  refine List.forall_mem_cons.mpr ⟨mo_push _ _, ?_⟩
  refine List.forall_mem_cons.mpr ⟨mo_istore _ _, ?_⟩
  refine List.forall_mem_cons.mpr ⟨mo_iload _ _, ?_⟩
  refine List.forall_mem_cons.mpr ⟨mo_aload _ _, ?_⟩
  refine List.forall_mem_cons.mpr ⟨mo_get _ _, ?_⟩
  refine List.forall_mem_cons.mpr ⟨mo_icmp _ _ _, ?_⟩
  refine List.forall_mem_cons.mpr ⟨mo_aload _ _, ?_⟩
  refine List.forall_mem_cons.mpr ⟨mo_iload _ _, ?_⟩
  refine List.forall_mem_cons.mpr ⟨mo_iload _ _, ?_⟩
  refine List.forall_mem_cons.mpr ⟨mo_iload _ _, ?_⟩
  refine List.forall_mem_cons.mpr ⟨mo_call _ _ _, ?_⟩
  refine List.forall_mem_cons.mpr ⟨mo_istore _ _, ?_⟩
  refine List.forall_mem_cons.mpr ⟨mo_iload _ _, ?_⟩
  refine List.forall_mem_cons.mpr ⟨mo_iload _ _, ?_⟩
  refine List.forall_mem_cons.mpr ⟨mo_icmp _ _ _, ?_⟩
  refine List.forall_mem_cons.mpr ⟨mo_iload _ _, ?_⟩
  refine List.forall_mem_cons.mpr ⟨mo_goto _, ?_⟩
  refine List.forall_mem_cons.mpr ⟨mo_iload _ _, ?_⟩
  refine List.forall_mem_cons.mpr ⟨mo_istore _ _, ?_⟩
  refine List.forall_mem_cons.mpr ⟨mo_iload _ _, ?_⟩
  refine List.forall_mem_cons.mpr ⟨mo_iload _ _, ?_⟩
  refine List.forall_mem_cons.mpr ⟨mo_icmp _ _ _, ?_⟩
  refine List.forall_mem_cons.mpr ⟨mo_iload _ _, ?_⟩
  refine List.forall_mem_cons.mpr ⟨mo_goto _, ?_⟩
  refine List.forall_mem_cons.mpr ⟨mo_iload _ _, ?_⟩
  refine List.forall_mem_cons.mpr ⟨mo_istore _ _, ?_⟩
  refine List.forall_mem_cons.mpr ⟨mo_iinc _ _, ?_⟩
  refine List.forall_mem_cons.mpr ⟨mo_goto _, ?_⟩
  refine List.forall_mem_cons.mpr ⟨mo_iload _ _, ?_⟩
  refine List.forall_mem_cons.mpr ⟨mo_if _ _ _, ?_⟩
  refine List.forall_mem_cons.mpr ⟨mo_iload _ _, ?_⟩
  refine List.forall_mem_cons.mpr ⟨mo_goto _, ?_⟩
  refine List.forall_mem_cons.mpr ⟨mo_iload _ _, ?_⟩
  refine List.forall_mem_cons.mpr ⟨mo_iret, ?_⟩
  exact fun _ h => absurd h List.not_mem_nil
