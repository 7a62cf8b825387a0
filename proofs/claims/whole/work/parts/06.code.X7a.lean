def k_X7_in : List (Nat × aI) := [
  (0, i_iload 0 1),
  (1, i_iload 1 1),
  (2, i_icmp (fun x y => x < y) 14 5),
  (5, i_iload 0 1),
  (6, i_iload 2 1),
  (7, i_icmp (fun x y => y < x) 14 10),
  (10, i_push (.int 1) 1),
  (11, i_goto 15),
  (14, i_push (.int 0) 1),
  (15, i_zret)]
theorem s_X7_in : ∀ q ∈ k_X7_in, Snd RX7 cX7_in (some .boolean) false q.1 q.2 := by
  unfold k_X7_in
  refine List.forall_mem_cons.mpr ⟨snd_iload_n (by decide +kernel : decode cX7_in 0 = .ok (.iload_n 0, 1)) rfl, ?_⟩
  refine List.forall_mem_cons.mpr ⟨snd_iload_n (by decide +kernel : decode cX7_in 1 = .ok (.iload_n 1, 1)) rfl, ?_⟩
  refine List.forall_mem_cons.mpr ⟨snd_icmp_lt (by decide +kernel : decode cX7_in 2 = .ok (.if_icmp .lt 12, 3)) (by decide +kernel), ?_⟩
  refine List.forall_mem_cons.mpr ⟨snd_iload_n (by decide +kernel : decode cX7_in 5 = .ok (.iload_n 0, 1)) rfl, ?_⟩
  refine List.forall_mem_cons.mpr ⟨snd_iload_n (by decide +kernel : decode cX7_in 6 = .ok (.iload_n 2, 1)) rfl, ?_⟩
  refine List.forall_mem_cons.mpr ⟨snd_icmp_gt (by decide +kernel : decode cX7_in 7 = .ok (.if_icmp .gt 7, 3)) (by decide +kernel), ?_⟩
  refine List.forall_mem_cons.mpr ⟨snd_iconst (by decide +kernel : decode cX7_in 10 = .ok (.iconst 1, 1)) (by decide +kernel), ?_⟩
  refine List.forall_mem_cons.mpr ⟨snd_goto (by decide +kernel : decode cX7_in 11 = .ok (.goto 4, 3)) (by decide +kernel), ?_⟩
  refine List.forall_mem_cons.mpr ⟨snd_iconst (by decide +kernel : decode cX7_in 14 = .ok (.iconst 0, 1)) (by decide +kernel), ?_⟩
  refine List.forall_mem_cons.mpr ⟨snd_zret (by decide +kernel : decode cX7_in 15 = .ok (.ireturn, 1)), ?_⟩
  exact fun _ h => absurd h List.not_mem_nil
theorem m_X7_in : ∀ q ∈ k_X7_in, Mono q.2 := by
  unfold k_X7_in
  refine List.forall_mem_cons.mpr ⟨mo_iload _ _, ?_⟩
  refine List.forall_mem_cons.mpr ⟨mo_iload _ _, ?_⟩
  refine List.forall_mem_cons.mpr ⟨mo_icmp _ _ _, ?_⟩
  refine List.forall_mem_cons.mpr ⟨mo_iload _ _, ?_⟩
  refine List.forall_mem_cons.mpr ⟨mo_iload _ _, ?_⟩
  refine List.forall_mem_cons.mpr ⟨mo_icmp _ _ _, ?_⟩
  refine List.forall_mem_cons.mpr ⟨mo_push _ _, ?_⟩
  refine List.forall_mem_cons.mpr ⟨mo_goto _, ?_⟩
  refine List.forall_mem_cons.mpr ⟨mo_push _ _, ?_⟩
  refine List.forall_mem_cons.mpr ⟨mo_zret, ?_⟩
  exact fun _ h => absurd h List.not_mem_nil
def k_X7_has : List (Nat × aI) := [
  (0, i_iload 0 1),
  (1, i_iload 1 1),
  (2, i_bin (fun x y => x >>> (y &&& 31))),
  (3, i_push (.int 1) 1),
  (4, i_bin (fun x y => x &&& y)),
  (5, i_push (.int 1) 1),
  (6, i_icmp (fun x y => x = y) 9 13),
  (9, i_push (.int 1) 1),
  (10, i_goto 14),
  (13, i_push (.int 0) 1),
  (14, i_zret)]
theorem s_X7_has : ∀ q ∈ k_X7_has, Snd RX7 cX7_has (some .boolean) false q.1 q.2 := by
  unfold k_X7_has
  refine List.forall_mem_cons.mpr ⟨snd_iload_n (by decide +kernel : decode cX7_has 0 = .ok (.iload_n 0, 1)) rfl, ?_⟩
  refine List.forall_mem_cons.mpr ⟨snd_iload_n (by decide +kernel : decode cX7_has 1 = .ok (.iload_n 1, 1)) rfl, ?_⟩
  refine List.forall_mem_cons.mpr ⟨snd_ishr (by decide +kernel : decode cX7_has 2 = .ok (.ishr, 1)), ?_⟩
  refine List.forall_mem_cons.mpr ⟨snd_iconst (by decide +kernel : decode cX7_has 3 = .ok (.iconst 1, 1)) (by decide +kernel), ?_⟩
  refine List.forall_mem_cons.mpr ⟨snd_iand (by decide +kernel : decode cX7_has 4 = .ok (.iand, 1)), ?_⟩
  refine List.forall_mem_cons.mpr ⟨snd_iconst (by decide +kernel : decode cX7_has 5 = .ok (.iconst 1, 1)) (by decide +kernel), ?_⟩
  refine List.forall_mem_cons.mpr ⟨snd_icmp_ne (by decide +kernel : decode cX7_has 6 = .ok (.if_icmp .ne 7, 3)) (by decide +kernel), ?_⟩
  refine List.forall_mem_cons.mpr ⟨snd_iconst (by decide +kernel : decode cX7_has 9 = .ok (.iconst 1, 1)) (by decide +kernel), ?_⟩
  refine List.forall_mem_cons.mpr ⟨snd_goto (by decide +kernel : decode cX7_has 10 = .ok (.goto 4, 3)) (by decide +kernel), ?_⟩
  refine List.forall_mem_cons.mpr ⟨snd_iconst (by decide +kernel : decode cX7_has 13 = .ok (.iconst 0, 1)) (by decide +kernel), ?_⟩
  refine List.forall_mem_cons.mpr ⟨snd_zret (by decide +kernel : decode cX7_has 14 = .ok (.ireturn, 1)), ?_⟩
  exact fun _ h => absurd h List.not_mem_nil
theorem m_X7_has : ∀ q ∈ k_X7_has, Mono q.2 := by
  unfold k_X7_has
  refine List.forall_mem_cons.mpr ⟨mo_iload _ _, ?_⟩
  refine List.forall_mem_cons.mpr ⟨mo_iload _ _, ?_⟩
  refine List.forall_mem_cons.mpr ⟨mo_bin _, ?_⟩
  refine List.forall_mem_cons.mpr ⟨mo_push _ _, ?_⟩
  refine List.forall_mem_cons.mpr ⟨mo_bin _, ?_⟩
  refine List.forall_mem_cons.mpr ⟨mo_push _ _, ?_⟩
  refine List.forall_mem_cons.mpr ⟨mo_icmp _ _ _, ?_⟩
  refine List.forall_mem_cons.mpr ⟨mo_push _ _, ?_⟩
  refine List.forall_mem_cons.mpr ⟨mo_goto _, ?_⟩
  refine List.forall_mem_cons.mpr ⟨mo_push _ _, ?_⟩
  refine List.forall_mem_cons.mpr ⟨mo_zret, ?_⟩
  exact fun _ h => absurd h List.not_mem_nil
def k_X7_bits : List (Nat × aI) := [
  (0, i_push (.int 0) 1),
  (1, i_istore 1 1),
  (2, i_push (.int 0) 1),
  (3, i_istore 2 1),
  (4, i_iload 2 1),
  (5, i_push (.int 6) 2),
  (7, i_icmp (fun x y => x < y) 10 24),
  (10, i_iload 1 1),
  (11, i_iload 0 1),
  (12, i_iload 2 1),
  (13, i_bin (fun x y => x >>> (y &&& 31))),
  (14, i_push (.int 1) 1),
  (15, i_bin (fun x y => x &&& y)),
  (16, i_bin (fun x y => x + y)),
  (17, i_istore 1 1),
  (18, i_iinc 2 1),
  (21, i_goto 4),
  (24, i_iload 1 1),
  (25, i_iret)]
theorem s_X7_bits : ∀ q ∈ k_X7_bits, Snd RX7 cX7_bits (some .int) false q.1 q.2 := by
  unfold k_X7_bits
  refine List.forall_mem_cons.mpr ⟨snd_iconst (by decide +kernel : decode cX7_bits 0 = .ok (.iconst 0, 1)) (by decide +kernel), ?_⟩
  refine List.forall_mem_cons.mpr ⟨snd_istore_n (by decide +kernel : decode cX7_bits 1 = .ok (.istore_n 1, 1)) rfl, ?_⟩
  refine List.forall_mem_cons.mpr ⟨snd_iconst (by decide +kernel : decode cX7_bits 2 = .ok (.iconst 0, 1)) (by decide +kernel), ?_⟩
  refine List.forall_mem_cons.mpr ⟨snd_istore_n (by decide +kernel : decode cX7_bits 3 = .ok (.istore_n 2, 1)) rfl, ?_⟩
  refine List.forall_mem_cons.mpr ⟨snd_iload_n (by decide +kernel : decode cX7_bits 4 = .ok (.iload_n 2, 1)) rfl, ?_⟩
  refine List.forall_mem_cons.mpr ⟨snd_bipush (by decide +kernel : decode cX7_bits 5 = .ok (.bipush 6, 2)) (by decide +kernel), ?_⟩
  refine List.forall_mem_cons.mpr ⟨snd_icmp_ge (by decide +kernel : decode cX7_bits 7 = .ok (.if_icmp .ge 17, 3)) (by decide +kernel), ?_⟩
  refine List.forall_mem_cons.mpr ⟨snd_iload_n (by decide +kernel : decode cX7_bits 10 = .ok (.iload_n 1, 1)) rfl, ?_⟩
  refine List.forall_mem_cons.mpr ⟨snd_iload_n (by decide +kernel : decode cX7_bits 11 = .ok (.iload_n 0, 1)) rfl, ?_⟩
  refine List.forall_mem_cons.mpr ⟨snd_iload_n (by decide +kernel : decode cX7_bits 12 = .ok (.iload_n 2, 1)) rfl, ?_⟩
  refine List.forall_mem_cons.mpr ⟨snd_ishr (by decide +kernel : decode cX7_bits 13 = .ok (.ishr, 1)), ?_⟩
  refine List.forall_mem_cons.mpr ⟨snd_iconst (by decide +kernel : decode cX7_bits 14 = .ok (.iconst 1, 1)) (by decide +kernel), ?_⟩
  refine List.forall_mem_cons.mpr ⟨snd_iand (by decide +kernel : decode cX7_bits 15 = .ok (.iand, 1)), ?_⟩
  refine List.forall_mem_cons.mpr ⟨snd_iadd (by decide +kernel : decode cX7_bits 16 = .ok (.iadd, 1)), ?_⟩
  refine List.forall_mem_cons.mpr ⟨snd_istore_n (by decide +kernel : decode cX7_bits 17 = .ok (.istore_n 1, 1)) rfl, ?_⟩
  refine List.forall_mem_cons.mpr ⟨snd_iinc (by decide +kernel : decode cX7_bits 18 = .ok (.iinc 2 1, 3)) (by decide +kernel), ?_⟩
  refine List.forall_mem_cons.mpr ⟨snd_goto (by decide +kernel : decode cX7_bits 21 = .ok (.goto (-17), 3)) (by decide +kernel), ?_⟩
  refine List.forall_mem_cons.mpr ⟨snd_iload_n (by decide +kernel : decode cX7_bits 24 = .ok (.iload_n 1, 1)) rfl, ?_⟩
  refine List.forall_mem_cons.mpr ⟨snd_iret (by decide +kernel : decode cX7_bits 25 = .ok (.ireturn, 1)), ?_⟩
  exact fun _ h => absurd h List.not_mem_nil
theorem m_X7_bits : ∀ q ∈ k_X7_bits, Mono q.2 := by
  unfold k_X7_bits
  refine List.forall_mem_cons.mpr ⟨mo_push _ _, ?_⟩
  refine List.forall_mem_cons.mpr ⟨mo_istore _ _, ?_⟩
  refine List.forall_mem_cons.mpr ⟨mo_push _ _, ?_⟩
  refine List.forall_mem_cons.mpr ⟨mo_istore _ _, ?_⟩
  refine List.forall_mem_cons.mpr ⟨mo_iload _ _, ?_⟩
  refine List.forall_mem_cons.mpr ⟨mo_push _ _, ?_⟩
  refine List.forall_mem_cons.mpr ⟨mo_icmp _ _ _, ?_⟩
  refine List.forall_mem_cons.mpr ⟨mo_iload _ _, ?_⟩
  refine List.forall_mem_cons.mpr ⟨mo_iload _ _, ?_⟩
  refine List.forall_mem_cons.mpr ⟨mo_iload _ _, ?_⟩
  refine List.forall_mem_cons.mpr ⟨mo_bin _, ?_⟩
  refine List.forall_mem_cons.mpr ⟨mo_push _ _, ?_⟩
  refine List.forall_mem_cons.mpr ⟨mo_bin _, ?_⟩
  refine List.forall_mem_cons.mpr ⟨mo_bin _, ?_⟩
  refine List.forall_mem_cons.mpr ⟨mo_istore _ _, ?_⟩
  refine List.forall_mem_cons.mpr ⟨mo_iinc _ _, ?_⟩
  refine List.forall_mem_cons.mpr ⟨mo_goto _, ?_⟩
  refine List.forall_mem_cons.mpr ⟨mo_iload _ _, ?_⟩
  refine List.forall_mem_cons.mpr ⟨mo_iret, ?_⟩
  exact fun _ h => absurd h List.not_mem_nil
def k_X7_init : List (Nat × aI) := [
  (0, i_aload 0 1),
  (1, i_obj),
  (4, i_aload 0 1),
  (5, i_push (.int 6) 2),
  (7, i_newI),
  (9, i_putR 7 2),
  (12, i_aload 0 1),
  (13, i_push (.int 30) 2),
  (15, i_newI),
  (17, i_putR 7 4),
  (20, i_aload 0 1),
  (21, i_push (.int 6) 2),
  (23, i_newI),
  (25, i_putR 7 5),
  (28, i_aload 0 1),
  (29, i_push (.int 5) 1),
  (30, i_newI),
  (32, i_putR 7 6),
  (35, i_aload 0 1),
  (36, i_push (.int 6) 2),
  (38, i_newI),
  (40, i_putR 7 8),
  (43, i_aload 0 1),
  (44, i_push (.int 6) 2),
  (46, i_newI),
  (48, i_putR 7 9),
  (51, i_aload 0 1),
  (52, i_push (.int 6) 2),
  (54, i_newI),
  (56, i_putR 7 10),
  (59, i_aload 0 1),
  (60, i_push (.int 200) 3),
  (63, i_newI),
  (65, i_putR 7 11),
  (68, i_aload 0 1),
  (69, i_push (.int 6) 2),
  (71, i_newI),
  (73, i_putR 7 16),
  (76, i_aload 0 1),
  (77, i_push (.int 30) 2),
  (79, i_newI),
  (81, i_putR 7 17),
  (84, i_aload 0 1),
  (85, i_push (.int 6) 2),
  (87, i_newI),
  (89, i_putR 7 18),
  (92, i_aload 0 1),
  (93, i_push (.int 5) 1),
  (94, i_newI),
  (96, i_putR 7 19),
  (99, i_aload 0 1),
  (100, i_push (.int 5) 1),
  (101, i_newI),
  (103, i_putR 7 20),
  (106, i_aload 0 1),
  (107, i_push (.int 336) 3),
  (110, i_newI),
  (112, i_putR 7 21),
  (115, i_aload 0 1),
  (116, i_push (.int 42) 2),
  (118, i_newI),
  (120, i_putR 7 23),
  (123, i_aload 0 1),
  (124, i_push (.int 5) 1),
  (125, i_newI),
  (127, i_putR 7 24),
  (130, i_aload 0 1),
  (131, i_push (.int 10) 2),
  (133, i_newI),
  (135, i_putR 7 25),
  (138, i_aload 0 1),
  (139, i_push (.int 84) 2),
  (141, i_newI),
  (143, i_putR 7 26),
  (146, i_aload 0 1),
  (147, i_push (.int 4) 1),
  (148, i_put 7 1),
  (151, i_aload 0 1),
  (152, i_push (.int 0) 1),
  (153, i_push (.int 1234) 3),
  (156, i_callV 121 3 7),
  (159, i_aload 0 1),
  (160, i_push (.int 1) 1),
  (161, i_push (.int 5555) 3),
  (164, i_callV 121 3 7),
  (167, i_aload 0 1),
  (168, i_push (.int 2) 1),
  (169, i_push (.int 918) 3),
  (172, i_callV 121 3 7),
  (175, i_aload 0 1),
  (176, i_push (.int 3) 1),
  (177, i_push (.int 7260) 3),
  (180, i_callV 121 3 7),
  (183, i_aload 0 1),
  (184, i_push (.int 0) 1),
  (185, i_push (.int 4321) 3),
  (188, i_callV 121 3 7),
  (191, i_aload 0 1),
  (192, i_get 7 5),
  (195, i_push (.int 3) 1),
  (196, i_push (.int 1) 1),
  (197, i_iast),
  (198, i_aload 0 1),
  (199, i_get 7 6),
  (202, i_push (.int 0) 1),
  (203, i_push (.int 4) 1),
  (204, i_iast),
  (205, i_aload 0 1),
  (206, i_get 7 6),
  (209, i_push (.int 1) 1),
  (210, i_push (.int (-4)) 2),
  (212, i_iast),
  (213, i_aload 0 1),
  (214, i_get 7 6),
  (217, i_push (.int 2) 1),
  (218, i_push (.int 7) 2),
  (220, i_iast),
  (221, i_aload 0 1),
  (222, i_get 7 6),
  (225, i_push (.int 3) 1),
  (226, i_push (.int (-4)) 2),
  (228, i_iast),
  (229, i_vret)]
theorem s_X7_init : ∀ q ∈ k_X7_init, Snd RX7 cX7_init none true q.1 q.2 := by
  unfold k_X7_init
  refine List.forall_mem_cons.mpr ⟨snd_aload_n (by decide +kernel : decode cX7_init 0 = .ok (.aload_n 0, 1)) rfl, ?_⟩
  refine List.forall_mem_cons.mpr ⟨snd_obj wd_528 wd_1 wd_2 (by decide +kernel : decode cX7_init 1 = .ok (.invokespecial 3, 3)), ?_⟩
  refine List.forall_mem_cons.mpr ⟨snd_aload_n (by decide +kernel : decode cX7_init 4 = .ok (.aload_n 0, 1)) rfl, ?_⟩
  refine List.forall_mem_cons.mpr ⟨snd_bipush (by decide +kernel : decode cX7_init 5 = .ok (.bipush 6, 2)) (by decide +kernel), ?_⟩
  refine List.forall_mem_cons.mpr ⟨snd_newI wd_92 (by decide +kernel : decode cX7_init 7 = .ok (.newarray .int, 2)), ?_⟩
  refine List.forall_mem_cons.mpr ⟨snd_putR fl_7_9 (Or.inr ⟨_, rfl⟩) (by decide +kernel : decode cX7_init 9 = .ok (.putfield 9, 3)), ?_⟩
  refine List.forall_mem_cons.mpr ⟨snd_aload_n (by decide +kernel : decode cX7_init 12 = .ok (.aload_n 0, 1)) rfl, ?_⟩
  refine List.forall_mem_cons.mpr ⟨snd_bipush (by decide +kernel : decode cX7_init 13 = .ok (.bipush 30, 2)) (by decide +kernel), ?_⟩
  refine List.forall_mem_cons.mpr ⟨snd_newI wd_92 (by decide +kernel : decode cX7_init 15 = .ok (.newarray .int, 2)), ?_⟩
  refine List.forall_mem_cons.mpr ⟨snd_putR fl_7_13 (Or.inr ⟨_, rfl⟩) (by decide +kernel : decode cX7_init 17 = .ok (.putfield 13, 3)), ?_⟩
  refine List.forall_mem_cons.mpr ⟨snd_aload_n (by decide +kernel : decode cX7_init 20 = .ok (.aload_n 0, 1)) rfl, ?_⟩
  refine List.forall_mem_cons.mpr ⟨snd_bipush (by decide +kernel : decode cX7_init 21 = .ok (.bipush 6, 2)) (by decide +kernel), ?_⟩
  refine List.forall_mem_cons.mpr ⟨snd_newI wd_92 (by decide +kernel : decode cX7_init 23 = .ok (.newarray .int, 2)), ?_⟩
  refine List.forall_mem_cons.mpr ⟨snd_putR fl_7_16 (Or.inr ⟨_, rfl⟩) (by decide +kernel : decode cX7_init 25 = .ok (.putfield 16, 3)), ?_⟩
  refine List.forall_mem_cons.mpr ⟨snd_aload_n (by decide +kernel : decode cX7_init 28 = .ok (.aload_n 0, 1)) rfl, ?_⟩
  refine List.forall_mem_cons.mpr ⟨snd_iconst (by decide +kernel : decode cX7_init 29 = .ok (.iconst 5, 1)) (by decide +kernel), ?_⟩
  refine List.forall_mem_cons.mpr ⟨snd_newI wd_92 (by decide +kernel : decode cX7_init 30 = .ok (.newarray .int, 2)), ?_⟩
  refine List.forall_mem_cons.mpr ⟨snd_putR fl_7_19 (Or.inr ⟨_, rfl⟩) (by decide +kernel : decode cX7_init 32 = .ok (.putfield 19, 3)), ?_⟩
  refine List.forall_mem_cons.mpr ⟨snd_aload_n (by decide +kernel : decode cX7_init 35 = .ok (.aload_n 0, 1)) rfl, ?_⟩
  refine List.forall_mem_cons.mpr ⟨snd_bipush (by decide +kernel : decode cX7_init 36 = .ok (.bipush 6, 2)) (by decide +kernel), ?_⟩
  refine List.forall_mem_cons.mpr ⟨snd_newI wd_92 (by decide +kernel : decode cX7_init 38 = .ok (.newarray .int, 2)), ?_⟩
  refine List.forall_mem_cons.mpr ⟨snd_putR fl_7_22 (Or.inr ⟨_, rfl⟩) (by decide +kernel : decode cX7_init 40 = .ok (.putfield 22, 3)), ?_⟩
  refine List.forall_mem_cons.mpr ⟨snd_aload_n (by decide +kernel : decode cX7_init 43 = .ok (.aload_n 0, 1)) rfl, ?_⟩
  refine List.forall_mem_cons.mpr ⟨snd_bipush (by decide +kernel : decode cX7_init 44 = .ok (.bipush 6, 2)) (by decide +kernel), ?_⟩
  refine List.forall_mem_cons.mpr ⟨snd_newI wd_92 (by decide +kernel : decode cX7_init 46 = .ok (.newarray .int, 2)), ?_⟩
  refine List.forall_mem_cons.mpr ⟨snd_putR fl_7_25 (Or.inr ⟨_, rfl⟩) (by decide +kernel : decode cX7_init 48 = .ok (.putfield 25, 3)), ?_⟩
  refine List.forall_mem_cons.mpr ⟨snd_aload_n (by decide +kernel : decode cX7_init 51 = .ok (.aload_n 0, 1)) rfl, ?_⟩
  refine List.forall_mem_cons.mpr ⟨snd_bipush (by decide +kernel : decode cX7_init 52 = .ok (.bipush 6, 2)) (by decide +kernel), ?_⟩
  refine List.forall_mem_cons.mpr ⟨snd_newI wd_92 (by decide +kernel : decode cX7_init 54 = .ok (.newarray .int, 2)), ?_⟩
  refine List.forall_mem_cons.mpr ⟨snd_putR fl_7_28 (Or.inr ⟨_, rfl⟩) (by decide +kernel : decode cX7_init 56 = .ok (.putfield 28, 3)), ?_⟩
  refine List.forall_mem_cons.mpr ⟨snd_aload_n (by decide +kernel : decode cX7_init 59 = .ok (.aload_n 0, 1)) rfl, ?_⟩
  refine List.forall_mem_cons.mpr ⟨snd_sipush (by decide +kernel : decode cX7_init 60 = .ok (.sipush 200, 3)) (by decide +kernel), ?_⟩
  refine List.forall_mem_cons.mpr ⟨snd_newI wd_92 (by decide +kernel : decode cX7_init 63 = .ok (.newarray .int, 2)), ?_⟩
  refine List.forall_mem_cons.mpr ⟨snd_putR fl_7_31 (Or.inr ⟨_, rfl⟩) (by decide +kernel : decode cX7_init 65 = .ok (.putfield 31, 3)), ?_⟩
  refine List.forall_mem_cons.mpr ⟨snd_aload_n (by decide +kernel : decode cX7_init 68 = .ok (.aload_n 0, 1)) rfl, ?_⟩
  refine List.forall_mem_cons.mpr ⟨snd_bipush (by decide +kernel : decode cX7_init 69 = .ok (.bipush 6, 2)) (by decide +kernel), ?_⟩
  refine List.forall_mem_cons.mpr ⟨snd_newI wd_92 (by decide +kernel : decode cX7_init 71 = .ok (.newarray .int, 2)), ?_⟩
  refine List.forall_mem_cons.mpr ⟨snd_putR fl_7_34 (Or.inr ⟨_, rfl⟩) (by decide +kernel : decode cX7_init 73 = .ok (.putfield 34, 3)), ?_⟩
  refine List.forall_mem_cons.mpr ⟨snd_aload_n (by decide +kernel : decode cX7_init 76 = .ok (.aload_n 0, 1)) rfl, ?_⟩
  refine List.forall_mem_cons.mpr ⟨snd_bipush (by decide +kernel : decode cX7_init 77 = .ok (.bipush 30, 2)) (by decide +kernel), ?_⟩
  refine List.forall_mem_cons.mpr ⟨snd_newI wd_92 (by decide +kernel : decode cX7_init 79 = .ok (.newarray .int, 2)), ?_⟩
  refine List.forall_mem_cons.mpr ⟨snd_putR fl_7_37 (Or.inr ⟨_, rfl⟩) (by decide +kernel : decode cX7_init 81 = .ok (.putfield 37, 3)), ?_⟩
  refine List.forall_mem_cons.mpr ⟨snd_aload_n (by decide +kernel : decode cX7_init 84 = .ok (.aload_n 0, 1)) rfl, ?_⟩
  refine List.forall_mem_cons.mpr ⟨snd_bipush (by decide +kernel : decode cX7_init 85 = .ok (.bipush 6, 2)) (by decide +kernel), ?_⟩
  refine List.forall_mem_cons.mpr ⟨snd_newI wd_92 (by decide +kernel : decode cX7_init 87 = .ok (.newarray .int, 2)), ?_⟩
  refine List.forall_mem_cons.mpr ⟨snd_putR fl_7_40 (Or.inr ⟨_, rfl⟩) (by decide +kernel : decode cX7_init 89 = .ok (.putfield 40, 3)), ?_⟩
  refine List.forall_mem_cons.mpr ⟨snd_aload_n (by decide +kernel : decode cX7_init 92 = .ok (.aload_n 0, 1)) rfl, ?_⟩
  refine List.forall_mem_cons.mpr ⟨snd_iconst (by decide +kernel : decode cX7_init 93 = .ok (.iconst 5, 1)) (by decide +kernel), ?_⟩
  refine List.forall_mem_cons.mpr ⟨snd_newI wd_92 (by decide +kernel : decode cX7_init 94 = .ok (.newarray .int, 2)), ?_⟩
  refine List.forall_mem_cons.mpr ⟨snd_putR fl_7_43 (Or.inr ⟨_, rfl⟩) (by decide +kernel : decode cX7_init 96 = .ok (.putfield 43, 3)), ?_⟩
  refine List.forall_mem_cons.mpr ⟨snd_aload_n (by decide +kernel : decode cX7_init 99 = .ok (.aload_n 0, 1)) rfl, ?_⟩
  refine List.forall_mem_cons.mpr ⟨snd_iconst (by decide +kernel : decode cX7_init 100 = .ok (.iconst 5, 1)) (by decide +kernel), ?_⟩
  refine List.forall_mem_cons.mpr ⟨snd_newI wd_92 (by decide +kernel : decode cX7_init 101 = .ok (.newarray .int, 2)), ?_⟩
  refine List.forall_mem_cons.mpr ⟨snd_putR fl_7_46 (Or.inr ⟨_, rfl⟩) (by decide +kernel : decode cX7_init 103 = .ok (.putfield 46, 3)), ?_⟩
  refine List.forall_mem_cons.mpr ⟨snd_aload_n (by decide +kernel : decode cX7_init 106 = .ok (.aload_n 0, 1)) rfl, ?_⟩
  refine List.forall_mem_cons.mpr ⟨snd_sipush (by decide +kernel : decode cX7_init 107 = .ok (.sipush 336, 3)) (by decide +kernel), ?_⟩
  refine List.forall_mem_cons.mpr ⟨snd_newI wd_92 (by decide +kernel : decode cX7_init 110 = .ok (.newarray .int, 2)), ?_⟩
  refine List.forall_mem_cons.mpr ⟨snd_putR fl_7_49 (Or.inr ⟨_, rfl⟩) (by decide +kernel : decode cX7_init 112 = .ok (.putfield 49, 3)), ?_⟩
  refine List.forall_mem_cons.mpr ⟨snd_aload_n (by decide +kernel : decode cX7_init 115 = .ok (.aload_n 0, 1)) rfl, ?_⟩
  refine List.forall_mem_cons.mpr ⟨snd_bipush (by decide +kernel : decode cX7_init 116 = .ok (.bipush 42, 2)) (by decide +kernel), ?_⟩
  refine List.forall_mem_cons.mpr ⟨snd_newI wd_92 (by decide +kernel : decode cX7_init 118 = .ok (.newarray .int, 2)), ?_⟩
  refine List.forall_mem_cons.mpr ⟨snd_putR fl_7_52 (Or.inr ⟨_, rfl⟩) (by decide +kernel : decode cX7_init 120 = .ok (.putfield 52, 3)), ?_⟩
  refine List.forall_mem_cons.mpr ⟨snd_aload_n (by decide +kernel : decode cX7_init 123 = .ok (.aload_n 0, 1)) rfl, ?_⟩
  refine List.forall_mem_cons.mpr ⟨snd_iconst (by decide +kernel : decode cX7_init 124 = .ok (.iconst 5, 1)) (by decide +kernel), ?_⟩
  refine List.forall_mem_cons.mpr ⟨snd_newI wd_92 (by decide +kernel : decode cX7_init 125 = .ok (.newarray .int, 2)), ?_⟩
  refine List.forall_mem_cons.mpr ⟨snd_putR fl_7_55 (Or.inr ⟨_, rfl⟩) (by decide +kernel : decode cX7_init 127 = .ok (.putfield 55, 3)), ?_⟩
  refine List.forall_mem_cons.mpr ⟨snd_aload_n (by decide +kernel : decode cX7_init 130 = .ok (.aload_n 0, 1)) rfl, ?_⟩
  refine List.forall_mem_cons.mpr ⟨snd_bipush (by decide +kernel : decode cX7_init 131 = .ok (.bipush 10, 2)) (by decide +kernel), ?_⟩
  refine List.forall_mem_cons.mpr ⟨snd_newI wd_92 (by decide +kernel : decode cX7_init 133 = .ok (.newarray .int, 2)), ?_⟩
  refine List.forall_mem_cons.mpr ⟨snd_putR fl_7_58 (Or.inr ⟨_, rfl⟩) (by decide +kernel : decode cX7_init 135 = .ok (.putfield 58, 3)), ?_⟩
  refine List.forall_mem_cons.mpr ⟨snd_aload_n (by decide +kernel : decode cX7_init 138 = .ok (.aload_n 0, 1)) rfl, ?_⟩
  refine List.forall_mem_cons.mpr ⟨snd_bipush (by decide +kernel : decode cX7_init 139 = .ok (.bipush 84, 2)) (by decide +kernel), ?_⟩
  refine List.forall_mem_cons.mpr ⟨snd_newI wd_92 (by decide +kernel : decode cX7_init 141 = .ok (.newarray .int, 2)), ?_⟩
  refine List.forall_mem_cons.mpr ⟨snd_putR fl_7_61 (Or.inr ⟨_, rfl⟩) (by decide +kernel : decode cX7_init 143 = .ok (.putfield 61, 3)), ?_⟩
  refine List.forall_mem_cons.mpr ⟨snd_aload_n (by decide +kernel : decode cX7_init 146 = .ok (.aload_n 0, 1)) rfl, ?_⟩
  refine List.forall_mem_cons.mpr ⟨snd_iconst (by decide +kernel : decode cX7_init 147 = .ok (.iconst 4, 1)) (by decide +kernel), ?_⟩
  refine List.forall_mem_cons.mpr ⟨snd_put fl_7_64 (by decide +kernel : decode cX7_init 148 = .ok (.putfield 64, 3)), ?_⟩
  refine List.forall_mem_cons.mpr ⟨snd_aload_n (by decide +kernel : decode cX7_init 151 = .ok (.aload_n 0, 1)) rfl, ?_⟩
  refine List.forall_mem_cons.mpr ⟨snd_iconst (by decide +kernel : decode cX7_init 152 = .ok (.iconst 0, 1)) (by decide +kernel), ?_⟩
  refine List.forall_mem_cons.mpr ⟨snd_sipush (by decide +kernel : decode cX7_init 153 = .ok (.sipush 1234, 3)) (by decide +kernel), ?_⟩
  refine List.forall_mem_cons.mpr ⟨snd_callV mok_121 wd_548 wd_551 wd_552 rfl rfl (by decide +kernel : decode cX7_init 156 = .ok (.invokevirtual 68, 3)), ?_⟩
  refine List.forall_mem_cons.mpr ⟨snd_aload_n (by decide +kernel : decode cX7_init 159 = .ok (.aload_n 0, 1)) rfl, ?_⟩
  refine List.forall_mem_cons.mpr ⟨snd_iconst (by decide +kernel : decode cX7_init 160 = .ok (.iconst 1, 1)) (by decide +kernel), ?_⟩
  refine List.forall_mem_cons.mpr ⟨snd_sipush (by decide +kernel : decode cX7_init 161 = .ok (.sipush 5555, 3)) (by decide +kernel), ?_⟩
  refine List.forall_mem_cons.mpr ⟨snd_callV mok_121 wd_548 wd_551 wd_552 rfl rfl (by decide +kernel : decode cX7_init 164 = .ok (.invokevirtual 68, 3)), ?_⟩
  refine List.forall_mem_cons.mpr ⟨snd_aload_n (by decide +kernel : decode cX7_init 167 = .ok (.aload_n 0, 1)) rfl, ?_⟩
  refine List.forall_mem_cons.mpr ⟨snd_iconst (by decide +kernel : decode cX7_init 168 = .ok (.iconst 2, 1)) (by decide +kernel), ?_⟩
  refine List.forall_mem_cons.mpr ⟨snd_sipush (by decide +kernel : decode cX7_init 169 = .ok (.sipush 918, 3)) (by decide +kernel), ?_⟩
  refine List.forall_mem_cons.mpr ⟨snd_callV mok_121 wd_548 wd_551 wd_552 rfl rfl (by decide +kernel : decode cX7_init 172 = .ok (.invokevirtual 68, 3)), ?_⟩
  refine List.forall_mem_cons.mpr ⟨snd_aload_n (by decide +kernel : decode cX7_init 175 = .ok (.aload_n 0, 1)) rfl, ?_⟩
  refine List.forall_mem_cons.mpr ⟨snd_iconst (by decide +kernel : decode cX7_init 176 = .ok (.iconst 3, 1)) (by decide +kernel), ?_⟩
  refine List.forall_mem_cons.mpr ⟨snd_sipush (by decide +kernel : decode cX7_init 177 = .ok (.sipush 7260, 3)) (by decide +kernel), ?_⟩
  refine List.forall_mem_cons.mpr ⟨snd_callV mok_121 wd_548 wd_551 wd_552 rfl rfl (by decide +kernel : decode cX7_init 180 = .ok (.invokevirtual 68, 3)), ?_⟩
  refine List.forall_mem_cons.mpr ⟨snd_aload_n (by decide +kernel : decode cX7_init 183 = .ok (.aload_n 0, 1)) rfl, ?_⟩
  refine List.forall_mem_cons.mpr ⟨snd_iconst (by decide +kernel : decode cX7_init 184 = .ok (.iconst 0, 1)) (by decide +kernel), ?_⟩
  refine List.forall_mem_cons.mpr ⟨snd_sipush (by decide +kernel : decode cX7_init 185 = .ok (.sipush 4321, 3)) (by decide +kernel), ?_⟩
  refine List.forall_mem_cons.mpr ⟨snd_callV mok_121 wd_548 wd_551 wd_552 rfl rfl (by decide +kernel : decode cX7_init 188 = .ok (.invokevirtual 68, 3)), ?_⟩
  refine List.forall_mem_cons.mpr ⟨snd_aload_n (by decide +kernel : decode cX7_init 191 = .ok (.aload_n 0, 1)) rfl, ?_⟩
  refine List.forall_mem_cons.mpr ⟨snd_get fl_7_16 (by decide +kernel : decode cX7_init 192 = .ok (.getfield 16, 3)), ?_⟩
  refine List.forall_mem_cons.mpr ⟨snd_iconst (by decide +kernel : decode cX7_init 195 = .ok (.iconst 3, 1)) (by decide +kernel), ?_⟩
  refine List.forall_mem_cons.mpr ⟨snd_iconst (by decide +kernel : decode cX7_init 196 = .ok (.iconst 1, 1)) (by decide +kernel), ?_⟩
  refine List.forall_mem_cons.mpr ⟨snd_iast (by decide +kernel : decode cX7_init 197 = .ok (.iastore, 1)), ?_⟩
  refine List.forall_mem_cons.mpr ⟨snd_aload_n (by decide +kernel : decode cX7_init 198 = .ok (.aload_n 0, 1)) rfl, ?_⟩
  refine List.forall_mem_cons.mpr ⟨snd_get fl_7_19 (by decide +kernel : decode cX7_init 199 = .ok (.getfield 19, 3)), ?_⟩
  refine List.forall_mem_cons.mpr ⟨snd_iconst (by decide +kernel : decode cX7_init 202 = .ok (.iconst 0, 1)) (by decide +kernel), ?_⟩
  refine List.forall_mem_cons.mpr ⟨snd_iconst (by decide +kernel : decode cX7_init 203 = .ok (.iconst 4, 1)) (by decide +kernel), ?_⟩
  refine List.forall_mem_cons.mpr ⟨snd_iast (by decide +kernel : decode cX7_init 204 = .ok (.iastore, 1)), ?_⟩
  refine List.forall_mem_cons.mpr ⟨snd_aload_n (by decide +kernel : decode cX7_init 205 = .ok (.aload_n 0, 1)) rfl, ?_⟩
  refine List.forall_mem_cons.mpr ⟨snd_get fl_7_19 (by decide +kernel : decode cX7_init 206 = .ok (.getfield 19, 3)), ?_⟩
  refine List.forall_mem_cons.mpr ⟨snd_iconst (by decide +kernel : decode cX7_init 209 = .ok (.iconst 1, 1)) (by decide +kernel), ?_⟩
  refine List.forall_mem_cons.mpr ⟨snd_bipush (by decide +kernel : decode cX7_init 210 = .ok (.bipush (-4), 2)) (by decide +kernel), ?_⟩
  refine List.forall_mem_cons.mpr ⟨snd_iast (by decide +kernel : decode cX7_init 212 = .ok (.iastore, 1)), ?_⟩
  refine List.forall_mem_cons.mpr ⟨snd_aload_n (by decide +kernel : decode cX7_init 213 = .ok (.aload_n 0, 1)) rfl, ?_⟩
  refine List.forall_mem_cons.mpr ⟨snd_get fl_7_19 (by decide +kernel : decode cX7_init 214 = .ok (.getfield 19, 3)), ?_⟩
  refine List.forall_mem_cons.mpr ⟨snd_iconst (by decide +kernel : decode cX7_init 217 = .ok (.iconst 2, 1)) (by decide +kernel), ?_⟩
  refine List.forall_mem_cons.mpr ⟨snd_bipush (by decide +kernel : decode cX7_init 218 = .ok (.bipush 7, 2)) (by decide +kernel), ?_⟩
  refine List.forall_mem_cons.mpr ⟨snd_iast (by decide +kernel : decode cX7_init 220 = .ok (.iastore, 1)), ?_⟩
  refine List.forall_mem_cons.mpr ⟨snd_aload_n (by decide +kernel : decode cX7_init 221 = .ok (.aload_n 0, 1)) rfl, ?_⟩
  refine List.forall_mem_cons.mpr ⟨snd_get fl_7_19 (by decide +kernel : decode cX7_init 222 = .ok (.getfield 19, 3)), ?_⟩
  refine List.forall_mem_cons.mpr ⟨snd_iconst (by decide +kernel : decode cX7_init 225 = .ok (.iconst 3, 1)) (by decide +kernel), ?_⟩
  refine List.forall_mem_cons.mpr ⟨snd_bipush (by decide +kernel : decode cX7_init 226 = .ok (.bipush (-4), 2)) (by decide +kernel), ?_⟩
  refine List.forall_mem_cons.mpr ⟨snd_iast (by decide +kernel : decode cX7_init 228 = .ok (.iastore, 1)), ?_⟩
  refine List.forall_mem_cons.mpr ⟨snd_vret (by decide +kernel : decode cX7_init 229 = .ok (.return_, 1)), ?_⟩
  exact fun _ h => absurd h List.not_mem_nil
theorem m_X7_init : ∀ q ∈ k_X7_init, Mono q.2 := by
  unfold k_X7_init
  refine List.forall_mem_cons.mpr ⟨mo_aload _ _, ?_⟩
  refine List.forall_mem_cons.mpr ⟨mo_obj, ?_⟩
  refine List.forall_mem_cons.mpr ⟨mo_aload _ _, ?_⟩
  refine List.forall_mem_cons.mpr ⟨mo_push _ _, ?_⟩
  refine List.forall_mem_cons.mpr ⟨mo_newI, ?_⟩
  refine List.forall_mem_cons.mpr ⟨mo_putR _ _, ?_⟩
  refine List.forall_mem_cons.mpr ⟨mo_aload _ _, ?_⟩
  refine List.forall_mem_cons.mpr ⟨mo_push _ _, ?_⟩
  refine List.forall_mem_cons.mpr ⟨mo_newI, ?_⟩
  refine List.forall_mem_cons.mpr ⟨mo_putR _ _, ?_⟩
  refine List.forall_mem_cons.mpr ⟨mo_aload _ _, ?_⟩
  refine List.forall_mem_cons.mpr ⟨mo_push _ _, ?_⟩
  refine List.forall_mem_cons.mpr ⟨mo_newI, ?_⟩
  refine List.forall_mem_cons.mpr ⟨mo_putR _ _, ?_⟩
  refine List.forall_mem_cons.mpr ⟨mo_aload _ _, ?_⟩
  refine List.forall_mem_cons.mpr ⟨mo_push _ _, ?_⟩
  refine List.forall_mem_cons.mpr ⟨mo_newI, ?_⟩
  refine List.forall_mem_cons.mpr ⟨mo_putR _ _, ?_⟩
  refine List.forall_mem_cons.mpr ⟨mo_aload _ _, ?_⟩
  refine List.forall_mem_cons.mpr ⟨mo_push _ _, ?_⟩
  refine List.forall_mem_cons.mpr ⟨mo_newI, ?_⟩
  refine List.forall_mem_cons.mpr ⟨mo_putR _ _, ?_⟩
  refine List.forall_mem_cons.mpr ⟨mo_aload _ _, ?_⟩
  refine List.forall_mem_cons.mpr ⟨mo_push _ _, ?_⟩
  refine List.forall_mem_cons.mpr ⟨mo_newI, ?_⟩
  refine List.forall_mem_cons.mpr ⟨mo_putR _ _, ?_⟩
  refine List.forall_mem_cons.mpr ⟨mo_aload _ _, ?_⟩
  refine List.forall_mem_cons.mpr ⟨mo_push _ _, ?_⟩
  refine List.forall_mem_cons.mpr ⟨mo_newI, ?_⟩
  refine List.forall_mem_cons.mpr ⟨mo_putR _ _, ?_⟩
  refine List.forall_mem_cons.mpr ⟨mo_aload _ _, ?_⟩
  refine List.forall_mem_cons.mpr ⟨mo_push _ _, ?_⟩
  refine List.forall_mem_cons.mpr ⟨mo_newI, ?_⟩
  refine List.forall_mem_cons.mpr ⟨mo_putR _ _, ?_⟩
  refine List.forall_mem_cons.mpr ⟨mo_aload _ _, ?_⟩
  refine List.forall_mem_cons.mpr ⟨mo_push _ _, ?_⟩
  refine List.forall_mem_cons.mpr ⟨mo_newI, ?_⟩
  refine List.forall_mem_cons.mpr ⟨mo_putR _ _, ?_⟩
  refine List.forall_mem_cons.mpr ⟨mo_aload _ _, ?_⟩
  refine List.forall_mem_cons.mpr ⟨mo_push _ _, ?_⟩
  refine List.forall_mem_cons.mpr ⟨mo_newI, ?_⟩
  refine List.forall_mem_cons.mpr ⟨mo_putR _ _, ?_⟩
  refine List.forall_mem_cons.mpr ⟨mo_aload _ _, ?_⟩
  refine List.forall_mem_cons.mpr ⟨mo_push _ _, ?_⟩
  refine List.forall_mem_cons.mpr ⟨mo_newI, ?_⟩
  refine List.forall_mem_cons.mpr ⟨mo_putR _ _, ?_⟩
  refine List.forall_mem_cons.mpr ⟨mo_aload _ _, ?_⟩
  refine List.forall_mem_cons.mpr ⟨mo_push _ _, ?_⟩
  refine List.forall_mem_cons.mpr ⟨mo_newI, ?_⟩
  refine List.forall_mem_cons.mpr ⟨mo_putR _ _, ?_⟩
  refine List.forall_mem_cons.mpr ⟨mo_aload _ _, ?_⟩
  refine List.forall_mem_cons.mpr ⟨mo_push _ _, ?_⟩
  refine List.forall_mem_cons.mpr ⟨mo_newI, ?_⟩
  refine List.forall_mem_cons.mpr ⟨mo_putR _ _, ?_⟩
  refine List.forall_mem_cons.mpr ⟨mo_aload _ _, ?_⟩
  refine List.forall_mem_cons.mpr ⟨mo_push _ _, ?_⟩
  refine List.forall_mem_cons.mpr ⟨mo_newI, ?_⟩
  refine List.forall_mem_cons.mpr ⟨mo_putR _ _, ?_⟩
  refine List.forall_mem_cons.mpr ⟨mo_aload _ _, ?_⟩
  refine List.forall_mem_cons.mpr ⟨mo_push _ _, ?_⟩
  refine List.forall_mem_cons.mpr ⟨mo_newI, ?_⟩
  refine List.forall_mem_cons.mpr ⟨mo_putR _ _, ?_⟩
  refine List.forall_mem_cons.mpr ⟨mo_aload _ _, ?_⟩
  refine List.forall_mem_cons.mpr ⟨mo_push _ _, ?_⟩
  refine List.forall_mem_cons.mpr ⟨mo_newI, ?_⟩
  refine List.forall_mem_cons.mpr ⟨mo_putR _ _, ?_⟩
  refine List.forall_mem_cons.mpr ⟨mo_aload _ _, ?_⟩
  refine List.forall_mem_cons.mpr ⟨mo_push _ _, ?_⟩
  refine List.forall_mem_cons.mpr ⟨mo_newI, ?_⟩
  refine List.forall_mem_cons.mpr ⟨mo_putR _ _, ?_⟩
  refine List.forall_mem_cons.mpr ⟨mo_aload _ _, ?_⟩
  refine List.forall_mem_cons.mpr ⟨mo_push _ _, ?_⟩
  refine List.forall_mem_cons.mpr ⟨mo_newI, ?_⟩
  refine List.forall_mem_cons.mpr ⟨mo_putR _ _, ?_⟩
  refine List.forall_mem_cons.mpr ⟨mo_aload _ _, ?_⟩
  refine List.forall_mem_cons.mpr ⟨mo_push _ _, ?_⟩
  refine List.forall_mem_cons.mpr ⟨mo_put _ _, ?_⟩
  refine List.forall_mem_cons.mpr ⟨mo_aload _ _, ?_⟩
  refine List.forall_mem_cons.mpr ⟨mo_push _ _, ?_⟩
  refine List.forall_mem_cons.mpr ⟨mo_push _ _, ?_⟩
  refine List.forall_mem_cons.mpr ⟨mo_call _ _ _, ?_⟩
  refine List.forall_mem_cons.mpr ⟨mo_aload _ _, ?_⟩
  refine List.forall_mem_cons.mpr ⟨mo_push _ _, ?_⟩
  refine List.forall_mem_cons.mpr ⟨mo_push _ _, ?_⟩
  refine List.forall_mem_cons.mpr ⟨mo_call _ _ _, ?_⟩
  refine List.forall_mem_cons.mpr ⟨mo_aload _ _, ?_⟩
  refine List.forall_mem_cons.mpr ⟨mo_push _ _, ?_⟩
  refine List.forall_mem_cons.mpr ⟨mo_push _ _, ?_⟩
  refine List.forall_mem_cons.mpr ⟨mo_call _ _ _, ?_⟩
  refine List.forall_mem_cons.mpr ⟨mo_aload _ _, ?_⟩
  refine List.forall_mem_cons.mpr ⟨mo_push _ _, ?_⟩
  refine List.forall_mem_cons.mpr ⟨mo_push _ _, ?_⟩
  refine List.forall_mem_cons.mpr ⟨mo_call _ _ _, ?_⟩
  refine List.forall_mem_cons.mpr ⟨mo_aload _ _, ?_⟩
  refine List.forall_mem_cons.mpr ⟨mo_push _ _, ?_⟩
  refine List.forall_mem_cons.mpr ⟨mo_push _ _, ?_⟩
  refine List.forall_mem_cons.mpr ⟨mo_call _ _ _, ?_⟩
  refine List.forall_mem_cons.mpr ⟨mo_aload _ _, ?_⟩
  refine List.forall_mem_cons.mpr ⟨mo_get _ _, ?_⟩
  refine List.forall_mem_cons.mpr ⟨mo_push _ _, ?_⟩
  refine List.forall_mem_cons.mpr ⟨mo_push _ _, ?_⟩
  refine List.forall_mem_cons.mpr ⟨mo_iast, ?_⟩
  refine List.forall_mem_cons.mpr ⟨mo_aload _ _, ?_⟩
  refine List.forall_mem_cons.mpr ⟨mo_get _ _, ?_⟩
  refine List.forall_mem_cons.mpr ⟨mo_push _ _, ?_⟩
  refine List.forall_mem_cons.mpr ⟨mo_push _ _, ?_⟩
  refine List.forall_mem_cons.mpr ⟨mo_iast, ?_⟩
  refine List.forall_mem_cons.mpr ⟨mo_aload _ _, ?_⟩
  refine List.forall_mem_cons.mpr ⟨mo_get _ _, ?_⟩
  refine List.forall_mem_cons.mpr ⟨mo_push _ _, ?_⟩
  refine List.forall_mem_cons.mpr ⟨mo_push _ _, ?_⟩
  refine List.forall_mem_cons.mpr ⟨mo_iast, ?_⟩
  refine List.forall_mem_cons.mpr ⟨mo_aload _ _, ?_⟩
  refine List.forall_mem_cons.mpr ⟨mo_get _ _, ?_⟩
  refine List.forall_mem_cons.mpr ⟨mo_push _ _, ?_⟩
  refine List.forall_mem_cons.mpr ⟨mo_push _ _, ?_⟩
  refine List.forall_mem_cons.mpr ⟨mo_iast, ?_⟩
  refine List.forall_mem_cons.mpr ⟨mo_aload _ _, ?_⟩
  refine List.forall_mem_cons.mpr ⟨mo_get _ _, ?_⟩
  refine List.forall_mem_cons.mpr ⟨mo_push _ _, ?_⟩
  refine List.forall_mem_cons.mpr ⟨mo_push _ _, ?_⟩
  refine List.forall_mem_cons.mpr ⟨mo_iast, ?_⟩
  refine List.forall_mem_cons.mpr ⟨mo_vret, ?_⟩
  exact fun _ h => absurd h List.not_mem_nil
def k_X7_first : List (Nat × aI) := [
  (0, i_aload 0 1),
  (1, i_get 7 2),
  (4, i_aload 0 1),
  (5, i_get 7 0),
  (8, i_iload 1 1),
  (9, i_iast),
  (10, i_iload 2 1),
  (11, i_istore 3 1),
  (12, i_aload 0 1),
  (13, i_get 7 1),
  (16, i_push (.int 1) 1),
  (17, i_bin (fun x y => x - y)),
  (18, i_istore 4 2),
  (20, i_iload 4 2),
  (22, i_if (fun x => x < 0) 54 25),
  (25, i_aload 0 1),
  (26, i_get 7 4),
  (29, i_push (.int 5) 1),
  (30, i_aload 0 1),
  (31, i_get 7 0),
  (34, i_bin (fun x y => x * y)),
  (35, i_iload 4 2),
  (37, i_bin (fun x y => x + y)),
  (38, i_iload 3 1),
  (39, i_push (.int 10) 2),
  (41, i_div (fun x y => x - x / y * y)),
  (42, i_iast),
  (43, i_iload 3 1),
  (44, i_push (.int 10) 2),
  (46, i_div (fun x y => x / y)),
  (47, i_istore 3 1),
  (48, i_iinc 4 (-1)),
  (51, i_goto 20),
  (54, i_aload 0 1),
  (55, i_dup),
  (56, i_get 7 0),
  (59, i_push (.int 1) 1),
  (60, i_bin (fun x y => x + y)),
  (61, i_put 7 0),
  (64, i_vret)]
theorem s_X7_first : ∀ q ∈ k_X7_first, Snd RX7 cX7_first none false q.1 q.2 := by
  unfold k_X7_first
  refine List.forall_mem_cons.mpr ⟨snd_aload_n (by decide +kernel : decode cX7_first 0 = .ok (.aload_n 0, 1)) rfl, ?_⟩
  refine List.forall_mem_cons.mpr ⟨snd_get fl_7_9 (by decide +kernel : decode cX7_first 1 = .ok (.getfield 9, 3)), ?_⟩
  refine List.forall_mem_cons.mpr ⟨snd_aload_n (by decide +kernel : decode cX7_first 4 = .ok (.aload_n 0, 1)) rfl, ?_⟩
  refine List.forall_mem_cons.mpr ⟨snd_get fl_7_72 (by decide +kernel : decode cX7_first 5 = .ok (.getfield 72, 3)), ?_⟩
  refine List.forall_mem_cons.mpr ⟨snd_iload_n (by decide +kernel : decode cX7_first 8 = .ok (.iload_n 1, 1)) rfl, ?_⟩
  refine List.forall_mem_cons.mpr ⟨snd_iast (by decide +kernel : decode cX7_first 9 = .ok (.iastore, 1)), ?_⟩
  refine List.forall_mem_cons.mpr ⟨snd_iload_n (by decide +kernel : decode cX7_first 10 = .ok (.iload_n 2, 1)) rfl, ?_⟩
  refine List.forall_mem_cons.mpr ⟨snd_istore_n (by decide +kernel : decode cX7_first 11 = .ok (.istore_n 3, 1)) rfl, ?_⟩
  refine List.forall_mem_cons.mpr ⟨snd_aload_n (by decide +kernel : decode cX7_first 12 = .ok (.aload_n 0, 1)) rfl, ?_⟩
  refine List.forall_mem_cons.mpr ⟨snd_get fl_7_64 (by decide +kernel : decode cX7_first 13 = .ok (.getfield 64, 3)), ?_⟩
  refine List.forall_mem_cons.mpr ⟨snd_iconst (by decide +kernel : decode cX7_first 16 = .ok (.iconst 1, 1)) (by decide +kernel), ?_⟩
  refine List.forall_mem_cons.mpr ⟨snd_isub (by decide +kernel : decode cX7_first 17 = .ok (.isub, 1)), ?_⟩
  refine List.forall_mem_cons.mpr ⟨snd_istore (by decide +kernel : decode cX7_first 18 = .ok (.istore 4, 2)), ?_⟩
  refine List.forall_mem_cons.mpr ⟨snd_iload (by decide +kernel : decode cX7_first 20 = .ok (.iload 4, 2)), ?_⟩
  refine List.forall_mem_cons.mpr ⟨snd_if_lt (by decide +kernel : decode cX7_first 22 = .ok (.ifCond .lt 32, 3)) (by decide +kernel), ?_⟩
  refine List.forall_mem_cons.mpr ⟨snd_aload_n (by decide +kernel : decode cX7_first 25 = .ok (.aload_n 0, 1)) rfl, ?_⟩
  refine List.forall_mem_cons.mpr ⟨snd_get fl_7_13 (by decide +kernel : decode cX7_first 26 = .ok (.getfield 13, 3)), ?_⟩
  refine List.forall_mem_cons.mpr ⟨snd_iconst (by decide +kernel : decode cX7_first 29 = .ok (.iconst 5, 1)) (by decide +kernel), ?_⟩
  refine List.forall_mem_cons.mpr ⟨snd_aload_n (by decide +kernel : decode cX7_first 30 = .ok (.aload_n 0, 1)) rfl, ?_⟩
  refine List.forall_mem_cons.mpr ⟨snd_get fl_7_72 (by decide +kernel : decode cX7_first 31 = .ok (.getfield 72, 3)), ?_⟩
  refine List.forall_mem_cons.mpr ⟨snd_imul (by decide +kernel : decode cX7_first 34 = .ok (.imul, 1)), ?_⟩
  refine List.forall_mem_cons.mpr ⟨snd_iload (by decide +kernel : decode cX7_first 35 = .ok (.iload 4, 2)), ?_⟩
  refine List.forall_mem_cons.mpr ⟨snd_iadd (by decide +kernel : decode cX7_first 37 = .ok (.iadd, 1)), ?_⟩
  refine List.forall_mem_cons.mpr ⟨snd_iload_n (by decide +kernel : decode cX7_first 38 = .ok (.iload_n 3, 1)) rfl, ?_⟩
  refine List.forall_mem_cons.mpr ⟨snd_bipush (by decide +kernel : decode cX7_first 39 = .ok (.bipush 10, 2)) (by decide +kernel), ?_⟩
  refine List.forall_mem_cons.mpr ⟨snd_irem (by decide +kernel : decode cX7_first 41 = .ok (.irem, 1)), ?_⟩
  refine List.forall_mem_cons.mpr ⟨snd_iast (by decide +kernel : decode cX7_first 42 = .ok (.iastore, 1)), ?_⟩
  refine List.forall_mem_cons.mpr ⟨snd_iload_n (by decide +kernel : decode cX7_first 43 = .ok (.iload_n 3, 1)) rfl, ?_⟩
  refine List.forall_mem_cons.mpr ⟨snd_bipush (by decide +kernel : decode cX7_first 44 = .ok (.bipush 10, 2)) (by decide +kernel), ?_⟩
  refine List.forall_mem_cons.mpr ⟨snd_idiv (by decide +kernel : decode cX7_first 46 = .ok (.idiv, 1)), ?_⟩
  refine List.forall_mem_cons.mpr ⟨snd_istore_n (by decide +kernel : decode cX7_first 47 = .ok (.istore_n 3, 1)) rfl, ?_⟩
  refine List.forall_mem_cons.mpr ⟨snd_iinc (by decide +kernel : decode cX7_first 48 = .ok (.iinc 4 (-1), 3)) (by decide +kernel), ?_⟩
  refine List.forall_mem_cons.mpr ⟨snd_goto (by decide +kernel : decode cX7_first 51 = .ok (.goto (-31), 3)) (by decide +kernel), ?_⟩
  refine List.forall_mem_cons.mpr ⟨snd_aload_n (by decide +kernel : decode cX7_first 54 = .ok (.aload_n 0, 1)) rfl, ?_⟩
  refine List.forall_mem_cons.mpr ⟨snd_dup (by decide +kernel : decode cX7_first 55 = .ok (.dup, 1)), ?_⟩
  refine List.forall_mem_cons.mpr ⟨snd_get fl_7_72 (by decide +kernel : decode cX7_first 56 = .ok (.getfield 72, 3)), ?_⟩
  refine List.forall_mem_cons.mpr ⟨snd_iconst (by decide +kernel : decode cX7_first 59 = .ok (.iconst 1, 1)) (by decide +kernel), ?_⟩
  refine List.forall_mem_cons.mpr ⟨snd_iadd (by decide +kernel : decode cX7_first 60 = .ok (.iadd, 1)), ?_⟩
  refine List.forall_mem_cons.mpr ⟨snd_put fl_7_72 (by decide +kernel : decode cX7_first 61 = .ok (.putfield 72, 3)), ?_⟩
  refine List.forall_mem_cons.mpr ⟨snd_vret (by decide +kernel : decode cX7_first 64 = .ok (.return_, 1)), ?_⟩
  exact fun _ h => absurd h List.not_mem_nil
theorem m_X7_first : ∀ q ∈ k_X7_first, Mono q.2 := by
  unfold k_X7_first
  refine List.forall_mem_cons.mpr ⟨mo_aload _ _, ?_⟩
  refine List.forall_mem_cons.mpr ⟨mo_get _ _, ?_⟩
  refine List.forall_mem_cons.mpr ⟨mo_aload _ _, ?_⟩
  refine List.forall_mem_cons.mpr ⟨mo_get _ _, ?_⟩
  refine List.forall_mem_cons.mpr ⟨mo_iload _ _, ?_⟩
  refine List.forall_mem_cons.mpr ⟨mo_iast, ?_⟩
  refine List.forall_mem_cons.mpr ⟨mo_iload _ _, ?_⟩
  refine List.forall_mem_cons.mpr ⟨mo_istore _ _, ?_⟩
  refine List.forall_mem_cons.mpr ⟨mo_aload _ _, ?_⟩
  refine List.forall_mem_cons.mpr ⟨mo_get _ _, ?_⟩
  refine List.forall_mem_cons.mpr ⟨mo_push _ _, ?_⟩
  refine List.forall_mem_cons.mpr ⟨mo_bin _, ?_⟩
  refine List.forall_mem_cons.mpr ⟨mo_istore _ _, ?_⟩
  refine List.forall_mem_cons.mpr ⟨mo_iload _ _, ?_⟩
  refine List.forall_mem_cons.mpr ⟨mo_if _ _ _, ?_⟩
  refine List.forall_mem_cons.mpr ⟨mo_aload _ _, ?_⟩
  refine List.forall_mem_cons.mpr ⟨mo_get _ _, ?_⟩
  refine List.forall_mem_cons.mpr ⟨mo_push _ _, ?_⟩
  refine List.forall_mem_cons.mpr ⟨mo_aload _ _, ?_⟩
  refine List.forall_mem_cons.mpr ⟨mo_get _ _, ?_⟩
  refine List.forall_mem_cons.mpr ⟨mo_bin _, ?_⟩
  refine List.forall_mem_cons.mpr ⟨mo_iload _ _, ?_⟩
  refine List.forall_mem_cons.mpr ⟨mo_bin _, ?_⟩
  refine List.forall_mem_cons.mpr ⟨mo_iload _ _, ?_⟩
  refine List.forall_mem_cons.mpr ⟨mo_push _ _, ?_⟩
  refine List.forall_mem_cons.mpr ⟨mo_div _, ?_⟩
  refine List.forall_mem_cons.mpr ⟨mo_iast, ?_⟩
  refine List.forall_mem_cons.mpr ⟨mo_iload _ _, ?_⟩
  refine List.forall_mem_cons.mpr ⟨mo_push _ _, ?_⟩
  refine List.forall_mem_cons.mpr ⟨mo_div _, ?_⟩
  refine List.forall_mem_cons.mpr ⟨mo_istore _ _, ?_⟩
  refine List.forall_mem_cons.mpr ⟨mo_iinc _ _, ?_⟩
  refine List.forall_mem_cons.mpr ⟨mo_goto _, ?_⟩
  refine List.forall_mem_cons.mpr ⟨mo_aload _ _, ?_⟩
  refine List.forall_mem_cons.mpr ⟨mo_dup, ?_⟩
  refine List.forall_mem_cons.mpr ⟨mo_get _ _, ?_⟩
  refine List.forall_mem_cons.mpr ⟨mo_push _ _, ?_⟩
  refine List.forall_mem_cons.mpr ⟨mo_bin _, ?_⟩
  refine List.forall_mem_cons.mpr ⟨mo_put _ _, ?_⟩
  refine List.forall_mem_cons.mpr ⟨mo_vret, ?_⟩
  exact fun _ h => absurd h List.not_mem_nil
def k_X7_isHouse : List (Nat × aI) := [
  (0, i_iload 1 1),
  (1, i_push (.int 0) 1),
  (2, i_aload 0 1),
  (3, i_get 7 0),
  (6, i_push (.int 1) 1),
  (7, i_bin (fun x y => x - y)),
  (8, i_callS 117 3),
  (11, i_zret)]
theorem s_X7_isHouse : ∀ q ∈ k_X7_isHouse, Snd RX7 cX7_isHouse (some .boolean) false q.1 q.2 := by
  unfold k_X7_isHouse
  refine List.forall_mem_cons.mpr ⟨snd_iload_n (by decide +kernel : decode cX7_isHouse 0 = .ok (.iload_n 1, 1)) rfl, ?_⟩
  refine List.forall_mem_cons.mpr ⟨snd_iconst (by decide +kernel : decode cX7_isHouse 1 = .ok (.iconst 0, 1)) (by decide +kernel), ?_⟩
  refine List.forall_mem_cons.mpr ⟨snd_aload_n (by decide +kernel : decode cX7_isHouse 2 = .ok (.aload_n 0, 1)) rfl, ?_⟩
  refine List.forall_mem_cons.mpr ⟨snd_get fl_7_72 (by decide +kernel : decode cX7_isHouse 3 = .ok (.getfield 72, 3)), ?_⟩
  refine List.forall_mem_cons.mpr ⟨snd_iconst (by decide +kernel : decode cX7_isHouse 6 = .ok (.iconst 1, 1)) (by decide +kernel), ?_⟩
  refine List.forall_mem_cons.mpr ⟨snd_isub (by decide +kernel : decode cX7_isHouse 7 = .ok (.isub, 1)), ?_⟩
  refine List.forall_mem_cons.mpr ⟨snd_callS mok_117 wd_554 wd_557 (by decide +kernel : decode cX7_isHouse 8 = .ok (.invokestatic 75, 3)), ?_⟩
  refine List.forall_mem_cons.mpr ⟨snd_zret (by decide +kernel : decode cX7_isHouse 11 = .ok (.ireturn, 1)), ?_⟩
  exact fun _ h => absurd h List.not_mem_nil
theorem m_X7_isHouse : ∀ q ∈ k_X7_isHouse, Mono q.2 := by
  unfold k_X7_isHouse
  refine List.forall_mem_cons.mpr ⟨mo_iload _ _, ?_⟩
  refine List.forall_mem_cons.mpr ⟨mo_push _ _, ?_⟩
  refine List.forall_mem_cons.mpr ⟨mo_aload _ _, ?_⟩
  refine List.forall_mem_cons.mpr ⟨mo_get _ _, ?_⟩
  refine List.forall_mem_cons.mpr ⟨mo_push _ _, ?_⟩
  refine List.forall_mem_cons.mpr ⟨mo_bin _, ?_⟩
  refine List.forall_mem_cons.mpr ⟨mo_call _ _ _, ?_⟩
  refine List.forall_mem_cons.mpr ⟨mo_zret, ?_⟩
  exact fun _ h => absurd h List.not_mem_nil
def k_X7_isRoom : List (Nat × aI) := [
  (0, i_iload 1 1),
  (1, i_push (.int 0) 1),
  (2, i_aload 0 1),
  (3, i_get 7 1),
  (6, i_push (.int 1) 1),
  (7, i_bin (fun x y => x - y)),
  (8, i_callS 117 3),
  (11, i_zret)]
theorem s_X7_isRoom : ∀ q ∈ k_X7_isRoom, Snd RX7 cX7_isRoom (some .boolean) false q.1 q.2 := by
  unfold k_X7_isRoom
  refine List.forall_mem_cons.mpr ⟨snd_iload_n (by decide +kernel : decode cX7_isRoom 0 = .ok (.iload_n 1, 1)) rfl, ?_⟩
  refine List.forall_mem_cons.mpr ⟨snd_iconst (by decide +kernel : decode cX7_isRoom 1 = .ok (.iconst 0, 1)) (by decide +kernel), ?_⟩
  refine List.forall_mem_cons.mpr ⟨snd_aload_n (by decide +kernel : decode cX7_isRoom 2 = .ok (.aload_n 0, 1)) rfl, ?_⟩
  refine List.forall_mem_cons.mpr ⟨snd_get fl_7_64 (by decide +kernel : decode cX7_isRoom 3 = .ok (.getfield 64, 3)), ?_⟩
  refine List.forall_mem_cons.mpr ⟨snd_iconst (by decide +kernel : decode cX7_isRoom 6 = .ok (.iconst 1, 1)) (by decide +kernel), ?_⟩
  refine List.forall_mem_cons.mpr ⟨snd_isub (by decide +kernel : decode cX7_isRoom 7 = .ok (.isub, 1)), ?_⟩
  refine List.forall_mem_cons.mpr ⟨snd_callS mok_117 wd_554 wd_557 (by decide +kernel : decode cX7_isRoom 8 = .ok (.invokestatic 75, 3)), ?_⟩
  refine List.forall_mem_cons.mpr ⟨snd_zret (by decide +kernel : decode cX7_isRoom 11 = .ok (.ireturn, 1)), ?_⟩
  exact fun _ h => absurd h List.not_mem_nil
theorem m_X7_isRoom : ∀ q ∈ k_X7_isRoom, Mono q.2 := by
  unfold k_X7_isRoom
  refine List.forall_mem_cons.mpr ⟨mo_iload _ _, ?_⟩
  refine List.forall_mem_cons.mpr ⟨mo_push _ _, ?_⟩
  refine List.forall_mem_cons.mpr ⟨mo_aload _ _, ?_⟩
  refine List.forall_mem_cons.mpr ⟨mo_get _ _, ?_⟩
  refine List.forall_mem_cons.mpr ⟨mo_push _ _, ?_⟩
  refine List.forall_mem_cons.mpr ⟨mo_bin _, ?_⟩
  refine List.forall_mem_cons.mpr ⟨mo_call _ _ _, ?_⟩
  refine List.forall_mem_cons.mpr ⟨mo_zret, ?_⟩
  exact fun _ h => absurd h List.not_mem_nil
def k_X7_write : List (Nat × aI) := [
  (0, i_iload 1 1),
  (1, i_push (.int 32) 2),
  (3, i_push (.int 126) 2),
  (5, i_callS 117 3),
  (8, i_if (fun x => x = 0) 11 13),
  (11, i_push (.int (-1)) 1),
  (12, i_iret),
  (13, i_aload 0 1),
  (14, i_get 7 12),
  (17, i_push (.int 200) 3),
  (20, i_icmp (fun x y => x = y) 23 26),
  (23, i_push (.int (-3)) 2),
  (25, i_iret),
  (26, i_aload 0 1),
  (27, i_get 7 11),
  (30, i_aload 0 1),
  (31, i_get 7 12),
  (34, i_iload 1 1),
  (35, i_iast),
  (36, i_aload 0 1),
  (37, i_dup),
  (38, i_get 7 12),
  (41, i_push (.int 1) 1),
  (42, i_bin (fun x y => x + y)),
  (43, i_put 7 12),
  (46, i_aload 0 1),
  (47, i_get 7 12),
  (50, i_iret)]
theorem s_X7_write : ∀ q ∈ k_X7_write, Snd RX7 cX7_write (some .int) false q.1 q.2 := by
  unfold k_X7_write
  refine List.forall_mem_cons.mpr ⟨snd_iload_n (by decide +kernel : decode cX7_write 0 = .ok (.iload_n 1, 1)) rfl, ?_⟩
  refine List.forall_mem_cons.mpr ⟨snd_bipush (by decide +kernel : decode cX7_write 1 = .ok (.bipush 32, 2)) (by decide +kernel), ?_⟩
  refine List.forall_mem_cons.mpr ⟨snd_bipush (by decide +kernel : decode cX7_write 3 = .ok (.bipush 126, 2)) (by decide +kernel), ?_⟩
  refine List.forall_mem_cons.mpr ⟨snd_callS mok_117 wd_554 wd_557 (by decide +kernel : decode cX7_write 5 = .ok (.invokestatic 75, 3)), ?_⟩
  refine List.forall_mem_cons.mpr ⟨snd_if_ne (by decide +kernel : decode cX7_write 8 = .ok (.ifCond .ne 5, 3)) (by decide +kernel), ?_⟩
  refine List.forall_mem_cons.mpr ⟨snd_iconst (by decide +kernel : decode cX7_write 11 = .ok (.iconst (-1), 1)) (by decide +kernel), ?_⟩
  refine List.forall_mem_cons.mpr ⟨snd_iret (by decide +kernel : decode cX7_write 12 = .ok (.ireturn, 1)), ?_⟩
  refine List.forall_mem_cons.mpr ⟨snd_aload_n (by decide +kernel : decode cX7_write 13 = .ok (.aload_n 0, 1)) rfl, ?_⟩
  refine List.forall_mem_cons.mpr ⟨snd_get fl_7_79 (by decide +kernel : decode cX7_write 14 = .ok (.getfield 79, 3)), ?_⟩
  refine List.forall_mem_cons.mpr ⟨snd_sipush (by decide +kernel : decode cX7_write 17 = .ok (.sipush 200, 3)) (by decide +kernel), ?_⟩
  refine List.forall_mem_cons.mpr ⟨snd_icmp_ne (by decide +kernel : decode cX7_write 20 = .ok (.if_icmp .ne 6, 3)) (by decide +kernel), ?_⟩
  refine List.forall_mem_cons.mpr ⟨snd_bipush (by decide +kernel : decode cX7_write 23 = .ok (.bipush (-3), 2)) (by decide +kernel), ?_⟩
  refine List.forall_mem_cons.mpr ⟨snd_iret (by decide +kernel : decode cX7_write 25 = .ok (.ireturn, 1)), ?_⟩
  refine List.forall_mem_cons.mpr ⟨snd_aload_n (by decide +kernel : decode cX7_write 26 = .ok (.aload_n 0, 1)) rfl, ?_⟩
  refine List.forall_mem_cons.mpr ⟨snd_get fl_7_31 (by decide +kernel : decode cX7_write 27 = .ok (.getfield 31, 3)), ?_⟩
  refine List.forall_mem_cons.mpr ⟨snd_aload_n (by decide +kernel : decode cX7_write 30 = .ok (.aload_n 0, 1)) rfl, ?_⟩
  refine List.forall_mem_cons.mpr ⟨snd_get fl_7_79 (by decide +kernel : decode cX7_write 31 = .ok (.getfield 79, 3)), ?_⟩
  refine List.forall_mem_cons.mpr ⟨snd_iload_n (by decide +kernel : decode cX7_write 34 = .ok (.iload_n 1, 1)) rfl, ?_⟩
  refine List.forall_mem_cons.mpr ⟨snd_iast (by decide +kernel : decode cX7_write 35 = .ok (.iastore, 1)), ?_⟩
  refine List.forall_mem_cons.mpr ⟨snd_aload_n (by decide +kernel : decode cX7_write 36 = .ok (.aload_n 0, 1)) rfl, ?_⟩
  refine List.forall_mem_cons.mpr ⟨snd_dup (by decide +kernel : decode cX7_write 37 = .ok (.dup, 1)), ?_⟩
  refine List.forall_mem_cons.mpr ⟨snd_get fl_7_79 (by decide +kernel : decode cX7_write 38 = .ok (.getfield 79, 3)), ?_⟩
  refine List.forall_mem_cons.mpr ⟨snd_iconst (by decide +kernel : decode cX7_write 41 = .ok (.iconst 1, 1)) (by decide +kernel), ?_⟩
  refine List.forall_mem_cons.mpr ⟨snd_iadd (by decide +kernel : decode cX7_write 42 = .ok (.iadd, 1)), ?_⟩
  refine List.forall_mem_cons.mpr ⟨snd_put fl_7_79 (by decide +kernel : decode cX7_write 43 = .ok (.putfield 79, 3)), ?_⟩
  refine List.forall_mem_cons.mpr ⟨snd_aload_n (by decide +kernel : decode cX7_write 46 = .ok (.aload_n 0, 1)) rfl, ?_⟩
  refine List.forall_mem_cons.mpr ⟨snd_get fl_7_79 (by decide +kernel : decode cX7_write 47 = .ok (.getfield 79, 3)), ?_⟩
  refine List.forall_mem_cons.mpr ⟨snd_iret (by decide +kernel : decode cX7_write 50 = .ok (.ireturn, 1)), ?_⟩
  exact fun _ h => absurd h List.not_mem_nil
theorem m_X7_write : ∀ q ∈ k_X7_write, Mono q.2 := by
  unfold k_X7_write
  refine List.forall_mem_cons.mpr ⟨mo_iload _ _, ?_⟩
  refine List.forall_mem_cons.mpr ⟨mo_push _ _, ?_⟩
  refine List.forall_mem_cons.mpr ⟨mo_push _ _, ?_⟩
  refine List.forall_mem_cons.mpr ⟨mo_call _ _ _, ?_⟩
  refine List.forall_mem_cons.mpr ⟨mo_if _ _ _, ?_⟩
  refine List.forall_mem_cons.mpr ⟨mo_push _ _, ?_⟩
  refine List.forall_mem_cons.mpr ⟨mo_iret, ?_⟩
  refine List.forall_mem_cons.mpr ⟨mo_aload _ _, ?_⟩
  refine List.forall_mem_cons.mpr ⟨mo_get _ _, ?_⟩
  refine List.forall_mem_cons.mpr ⟨mo_push _ _, ?_⟩
  refine List.forall_mem_cons.mpr ⟨mo_icmp _ _ _, ?_⟩
  refine List.forall_mem_cons.mpr ⟨mo_push _ _, ?_⟩
  refine List.forall_mem_cons.mpr ⟨mo_iret, ?_⟩
  refine List.forall_mem_cons.mpr ⟨mo_aload _ _, ?_⟩
  refine List.forall_mem_cons.mpr ⟨mo_get _ _, ?_⟩
  refine List.forall_mem_cons.mpr ⟨mo_aload _ _, ?_⟩
  refine List.forall_mem_cons.mpr ⟨mo_get _ _, ?_⟩
  refine List.forall_mem_cons.mpr ⟨mo_iload _ _, ?_⟩
  refine List.forall_mem_cons.mpr ⟨mo_iast, ?_⟩
  refine List.forall_mem_cons.mpr ⟨mo_aload _ _, ?_⟩
  refine List.forall_mem_cons.mpr ⟨mo_dup, ?_⟩
  refine List.forall_mem_cons.mpr ⟨mo_get _ _, ?_⟩
  refine List.forall_mem_cons.mpr ⟨mo_push _ _, ?_⟩
  refine List.forall_mem_cons.mpr ⟨mo_bin _, ?_⟩
  refine List.forall_mem_cons.mpr ⟨mo_put _ _, ?_⟩
  refine List.forall_mem_cons.mpr ⟨mo_aload _ _, ?_⟩
  refine List.forall_mem_cons.mpr ⟨mo_get _ _, ?_⟩
  refine List.forall_mem_cons.mpr ⟨mo_iret, ?_⟩
  exact fun _ h => absurd h List.not_mem_nil
def k_X7_wipe : List (Nat × aI) := [
  (0, i_aload 0 1),
  (1, i_get 7 12),
  (4, i_istore 1 1),
  (5, i_aload 0 1),
  (6, i_push (.int 0) 1),
  (7, i_put 7 12),
  (10, i_iload 1 1),
  (11, i_iret)]
theorem s_X7_wipe : ∀ q ∈ k_X7_wipe, Snd RX7 cX7_wipe (some .int) false q.1 q.2 := by
  unfold k_X7_wipe
  refine List.forall_mem_cons.mpr ⟨snd_aload_n (by decide +kernel : decode cX7_wipe 0 = .ok (.aload_n 0, 1)) rfl, ?_⟩
  refine List.forall_mem_cons.mpr ⟨snd_get fl_7_79 (by decide +kernel : decode cX7_wipe 1 = .ok (.getfield 79, 3)), ?_⟩
  refine List.forall_mem_cons.mpr ⟨snd_istore_n (by decide +kernel : decode cX7_wipe 4 = .ok (.istore_n 1, 1)) rfl, ?_⟩
  refine List.forall_mem_cons.mpr ⟨snd_aload_n (by decide +kernel : decode cX7_wipe 5 = .ok (.aload_n 0, 1)) rfl, ?_⟩
  refine List.forall_mem_cons.mpr ⟨snd_iconst (by decide +kernel : decode cX7_wipe 6 = .ok (.iconst 0, 1)) (by decide +kernel), ?_⟩
  refine List.forall_mem_cons.mpr ⟨snd_put fl_7_79 (by decide +kernel : decode cX7_wipe 7 = .ok (.putfield 79, 3)), ?_⟩
  refine List.forall_mem_cons.mpr ⟨snd_iload_n (by decide +kernel : decode cX7_wipe 10 = .ok (.iload_n 1, 1)) rfl, ?_⟩
  refine List.forall_mem_cons.mpr ⟨snd_iret (by decide +kernel : decode cX7_wipe 11 = .ok (.ireturn, 1)), ?_⟩
  exact fun _ h => absurd h List.not_mem_nil
theorem m_X7_wipe : ∀ q ∈ k_X7_wipe, Mono q.2 := by
  unfold k_X7_wipe
  refine List.forall_mem_cons.mpr ⟨mo_aload _ _, ?_⟩
  refine List.forall_mem_cons.mpr ⟨mo_get _ _, ?_⟩
  refine List.forall_mem_cons.mpr ⟨mo_istore _ _, ?_⟩
  refine List.forall_mem_cons.mpr ⟨mo_aload _ _, ?_⟩
  refine List.forall_mem_cons.mpr ⟨mo_push _ _, ?_⟩
  refine List.forall_mem_cons.mpr ⟨mo_put _ _, ?_⟩
  refine List.forall_mem_cons.mpr ⟨mo_iload _ _, ?_⟩
  refine List.forall_mem_cons.mpr ⟨mo_iret, ?_⟩
  exact fun _ h => absurd h List.not_mem_nil
def k_X7_here : List (Nat × aI) := [
  (0, i_aload 0 1),
  (1, i_get 7 13),
  (4, i_aload 0 1),
  (5, i_get 7 12),
  (8, i_icmp (fun x y => x < y) 11 23),
  (11, i_aload 0 1),
  (12, i_get 7 11),
  (15, i_aload 0 1),
  (16, i_get 7 13),
  (19, i_iald),
  (20, i_goto 24),
  (23, i_push (.int 0) 1),
  (24, i_iret)]
theorem s_X7_here : ∀ q ∈ k_X7_here, Snd RX7 cX7_here (some .int) false q.1 q.2 := by
  unfold k_X7_here
  refine List.forall_mem_cons.mpr ⟨snd_aload_n (by decide +kernel : decode cX7_here 0 = .ok (.aload_n 0, 1)) rfl, ?_⟩
  refine List.forall_mem_cons.mpr ⟨snd_get fl_7_82 (by decide +kernel : decode cX7_here 1 = .ok (.getfield 82, 3)), ?_⟩
  refine List.forall_mem_cons.mpr ⟨snd_aload_n (by decide +kernel : decode cX7_here 4 = .ok (.aload_n 0, 1)) rfl, ?_⟩
  refine List.forall_mem_cons.mpr ⟨snd_get fl_7_79 (by decide +kernel : decode cX7_here 5 = .ok (.getfield 79, 3)), ?_⟩
  refine List.forall_mem_cons.mpr ⟨snd_icmp_ge (by decide +kernel : decode cX7_here 8 = .ok (.if_icmp .ge 15, 3)) (by decide +kernel), ?_⟩
  refine List.forall_mem_cons.mpr ⟨snd_aload_n (by decide +kernel : decode cX7_here 11 = .ok (.aload_n 0, 1)) rfl, ?_⟩
  refine List.forall_mem_cons.mpr ⟨snd_get fl_7_31 (by decide +kernel : decode cX7_here 12 = .ok (.getfield 31, 3)), ?_⟩
  refine List.forall_mem_cons.mpr ⟨snd_aload_n (by decide +kernel : decode cX7_here 15 = .ok (.aload_n 0, 1)) rfl, ?_⟩
  refine List.forall_mem_cons.mpr ⟨snd_get fl_7_82 (by decide +kernel : decode cX7_here 16 = .ok (.getfield 82, 3)), ?_⟩
  refine List.forall_mem_cons.mpr ⟨snd_iald (by decide +kernel : decode cX7_here 19 = .ok (.iaload, 1)), ?_⟩
  refine List.forall_mem_cons.mpr ⟨snd_goto (by decide +kernel : decode cX7_here 20 = .ok (.goto 4, 3)) (by decide +kernel), ?_⟩
  refine List.forall_mem_cons.mpr ⟨snd_iconst (by decide +kernel : decode cX7_here 23 = .ok (.iconst 0, 1)) (by decide +kernel), ?_⟩
  refine List.forall_mem_cons.mpr ⟨snd_iret (by decide +kernel : decode cX7_here 24 = .ok (.ireturn, 1)), ?_⟩
  exact fun _ h => absurd h List.not_mem_nil
theorem m_X7_here : ∀ q ∈ k_X7_here, Mono q.2 := by
  unfold k_X7_here
  refine List.forall_mem_cons.mpr ⟨mo_aload _ _, ?_⟩
  refine List.forall_mem_cons.mpr ⟨mo_get _ _, ?_⟩
  refine List.forall_mem_cons.mpr ⟨mo_aload _ _, ?_⟩
  refine List.forall_mem_cons.mpr ⟨mo_get _ _, ?_⟩
  refine List.forall_mem_cons.mpr ⟨mo_icmp _ _ _, ?_⟩
  refine List.forall_mem_cons.mpr ⟨mo_aload _ _, ?_⟩
  refine List.forall_mem_cons.mpr ⟨mo_get _ _, ?_⟩
  refine List.forall_mem_cons.mpr ⟨mo_aload _ _, ?_⟩
  refine List.forall_mem_cons.mpr ⟨mo_get _ _, ?_⟩
  refine List.forall_mem_cons.mpr ⟨mo_iald, ?_⟩
  refine List.forall_mem_cons.mpr ⟨mo_goto _, ?_⟩
  refine List.forall_mem_cons.mpr ⟨mo_push _ _, ?_⟩
  refine List.forall_mem_cons.mpr ⟨mo_iret, ?_⟩
  exact fun _ h => absurd h List.not_mem_nil
def k_X7_figure : List (Nat × aI) := [
  (0, i_aload 0 1),
  (1, i_callV 126 1 7),
  (4, i_push (.int 48) 2),
  (6, i_bin (fun x y => x - y)),
  (7, i_istore 2 1),
  (8, i_iload 2 1),
  (9, i_push (.int 0) 1),
  (10, i_iload 1 1),
  (11, i_callS 117 3),
  (14, i_if (fun x => x = 0) 17 20),
  (17, i_push (.int (-4)) 2),
  (19, i_iret),
  (20, i_aload 0 1),
  (21, i_dup),
  (22, i_get 7 13),
  (25, i_push (.int 1) 1),
  (26, i_bin (fun x y => x + y)),
  (27, i_put 7 13),
  (30, i_iload 2 1),
  (31, i_iret)]
theorem s_X7_figure : ∀ q ∈ k_X7_figure, Snd RX7 cX7_figure (some .int) false q.1 q.2 := by
  unfold k_X7_figure
  refine List.forall_mem_cons.mpr ⟨snd_aload_n (by decide +kernel : decode cX7_figure 0 = .ok (.aload_n 0, 1)) rfl, ?_⟩
  refine List.forall_mem_cons.mpr ⟨snd_callV mok_126 wd_560 wd_563 wd_564 rfl rfl (by decide +kernel : decode cX7_figure 1 = .ok (.invokevirtual 85, 3)), ?_⟩
  refine List.forall_mem_cons.mpr ⟨snd_bipush (by decide +kernel : decode cX7_figure 4 = .ok (.bipush 48, 2)) (by decide +kernel), ?_⟩
  refine List.forall_mem_cons.mpr ⟨snd_isub (by decide +kernel : decode cX7_figure 6 = .ok (.isub, 1)), ?_⟩
  refine List.forall_mem_cons.mpr ⟨snd_istore_n (by decide +kernel : decode cX7_figure 7 = .ok (.istore_n 2, 1)) rfl, ?_⟩
  refine List.forall_mem_cons.mpr ⟨snd_iload_n (by decide +kernel : decode cX7_figure 8 = .ok (.iload_n 2, 1)) rfl, ?_⟩
  refine List.forall_mem_cons.mpr ⟨snd_iconst (by decide +kernel : decode cX7_figure 9 = .ok (.iconst 0, 1)) (by decide +kernel), ?_⟩
  refine List.forall_mem_cons.mpr ⟨snd_iload_n (by decide +kernel : decode cX7_figure 10 = .ok (.iload_n 1, 1)) rfl, ?_⟩
  refine List.forall_mem_cons.mpr ⟨snd_callS mok_117 wd_554 wd_557 (by decide +kernel : decode cX7_figure 11 = .ok (.invokestatic 75, 3)), ?_⟩
  refine List.forall_mem_cons.mpr ⟨snd_if_ne (by decide +kernel : decode cX7_figure 14 = .ok (.ifCond .ne 6, 3)) (by decide +kernel), ?_⟩
  refine List.forall_mem_cons.mpr ⟨snd_bipush (by decide +kernel : decode cX7_figure 17 = .ok (.bipush (-4), 2)) (by decide +kernel), ?_⟩
  refine List.forall_mem_cons.mpr ⟨snd_iret (by decide +kernel : decode cX7_figure 19 = .ok (.ireturn, 1)), ?_⟩
  refine List.forall_mem_cons.mpr ⟨snd_aload_n (by decide +kernel : decode cX7_figure 20 = .ok (.aload_n 0, 1)) rfl, ?_⟩
  refine List.forall_mem_cons.mpr ⟨snd_dup (by decide +kernel : decode cX7_figure 21 = .ok (.dup, 1)), ?_⟩
  refine List.forall_mem_cons.mpr ⟨snd_get fl_7_82 (by decide +kernel : decode cX7_figure 22 = .ok (.getfield 82, 3)), ?_⟩
  refine List.forall_mem_cons.mpr ⟨snd_iconst (by decide +kernel : decode cX7_figure 25 = .ok (.iconst 1, 1)) (by decide +kernel), ?_⟩
  refine List.forall_mem_cons.mpr ⟨snd_iadd (by decide +kernel : decode cX7_figure 26 = .ok (.iadd, 1)), ?_⟩
  refine List.forall_mem_cons.mpr ⟨snd_put fl_7_82 (by decide +kernel : decode cX7_figure 27 = .ok (.putfield 82, 3)), ?_⟩
  refine List.forall_mem_cons.mpr ⟨snd_iload_n (by decide +kernel : decode cX7_figure 30 = .ok (.iload_n 2, 1)) rfl, ?_⟩
  refine List.forall_mem_cons.mpr ⟨snd_iret (by decide +kernel : decode cX7_figure 31 = .ok (.ireturn, 1)), ?_⟩
  exact fun _ h => absurd h List.not_mem_nil
theorem m_X7_figure : ∀ q ∈ k_X7_figure, Mono q.2 := by
  unfold k_X7_figure
  refine List.forall_mem_cons.mpr ⟨mo_aload _ _, ?_⟩
  refine List.forall_mem_cons.mpr ⟨mo_call _ _ _, ?_⟩
  refine List.forall_mem_cons.mpr ⟨mo_push _ _, ?_⟩
  refine List.forall_mem_cons.mpr ⟨mo_bin _, ?_⟩
  refine List.forall_mem_cons.mpr ⟨mo_istore _ _, ?_⟩
  refine List.forall_mem_cons.mpr ⟨mo_iload _ _, ?_⟩
  refine List.forall_mem_cons.mpr ⟨mo_push _ _, ?_⟩
  refine List.forall_mem_cons.mpr ⟨mo_iload _ _, ?_⟩
  refine List.forall_mem_cons.mpr ⟨mo_call _ _ _, ?_⟩
  refine List.forall_mem_cons.mpr ⟨mo_if _ _ _, ?_⟩
  refine List.forall_mem_cons.mpr ⟨mo_push _ _, ?_⟩
  refine List.forall_mem_cons.mpr ⟨mo_iret, ?_⟩
  refine List.forall_mem_cons.mpr ⟨mo_aload _ _, ?_⟩
  refine List.forall_mem_cons.mpr ⟨mo_dup, ?_⟩
  refine List.forall_mem_cons.mpr ⟨mo_get _ _, ?_⟩
  refine List.forall_mem_cons.mpr ⟨mo_push _ _, ?_⟩
  refine List.forall_mem_cons.mpr ⟨mo_bin _, ?_⟩
  refine List.forall_mem_cons.mpr ⟨mo_put _ _, ?_⟩
  refine List.forall_mem_cons.mpr ⟨mo_iload _ _, ?_⟩
  refine List.forall_mem_cons.mpr ⟨mo_iret, ?_⟩
  exact fun _ h => absurd h List.not_mem_nil
def k_X7_sign : List (Nat × aI) := [
  (0, i_aload 0 1),
  (1, i_callV 126 1 7),
  (4, i_iload 1 1),
  (5, i_icmp (fun x y => x = y) 10 8),
  (8, i_push (.int 0) 1),
  (9, i_zret),
  (10, i_aload 0 1),
  (11, i_dup),
  (12, i_get 7 13),
  (15, i_push (.int 1) 1),
  (16, i_bin (fun x y => x + y)),
  (17, i_put 7 13),
  (20, i_push (.int 1) 1),
  (21, i_zret)]
theorem s_X7_sign : ∀ q ∈ k_X7_sign, Snd RX7 cX7_sign (some .boolean) false q.1 q.2 := by
  unfold k_X7_sign
  refine List.forall_mem_cons.mpr ⟨snd_aload_n (by decide +kernel : decode cX7_sign 0 = .ok (.aload_n 0, 1)) rfl, ?_⟩
  refine List.forall_mem_cons.mpr ⟨snd_callV mok_126 wd_560 wd_563 wd_564 rfl rfl (by decide +kernel : decode cX7_sign 1 = .ok (.invokevirtual 85, 3)), ?_⟩
  refine List.forall_mem_cons.mpr ⟨snd_iload_n (by decide +kernel : decode cX7_sign 4 = .ok (.iload_n 1, 1)) rfl, ?_⟩
  refine List.forall_mem_cons.mpr ⟨snd_icmp_eq (by decide +kernel : decode cX7_sign 5 = .ok (.if_icmp .eq 5, 3)) (by decide +kernel), ?_⟩
  refine List.forall_mem_cons.mpr ⟨snd_iconst (by decide +kernel : decode cX7_sign 8 = .ok (.iconst 0, 1)) (by decide +kernel), ?_⟩
  refine List.forall_mem_cons.mpr ⟨snd_zret (by decide +kernel : decode cX7_sign 9 = .ok (.ireturn, 1)), ?_⟩
  refine List.forall_mem_cons.mpr ⟨snd_aload_n (by decide +kernel : decode cX7_sign 10 = .ok (.aload_n 0, 1)) rfl, ?_⟩
  refine List.forall_mem_cons.mpr ⟨snd_dup (by decide +kernel : decode cX7_sign 11 = .ok (.dup, 1)), ?_⟩
  refine List.forall_mem_cons.mpr ⟨snd_get fl_7_82 (by decide +kernel : decode cX7_sign 12 = .ok (.getfield 82, 3)), ?_⟩
  refine List.forall_mem_cons.mpr ⟨snd_iconst (by decide +kernel : decode cX7_sign 15 = .ok (.iconst 1, 1)) (by decide +kernel), ?_⟩
  refine List.forall_mem_cons.mpr ⟨snd_iadd (by decide +kernel : decode cX7_sign 16 = .ok (.iadd, 1)), ?_⟩
  refine List.forall_mem_cons.mpr ⟨snd_put fl_7_82 (by decide +kernel : decode cX7_sign 17 = .ok (.putfield 82, 3)), ?_⟩
  refine List.forall_mem_cons.mpr ⟨snd_iconst (by decide +kernel : decode cX7_sign 20 = .ok (.iconst 1, 1)) (by decide +kernel), ?_⟩
  refine List.forall_mem_cons.mpr ⟨snd_zret (by decide +kernel : decode cX7_sign 21 = .ok (.ireturn, 1)), ?_⟩
  exact fun _ h => absurd h List.not_mem_nil
theorem m_X7_sign : ∀ q ∈ k_X7_sign, Mono q.2 := by
  unfold k_X7_sign
  refine List.forall_mem_cons.mpr ⟨mo_aload _ _, ?_⟩
  refine List.forall_mem_cons.mpr ⟨mo_call _ _ _, ?_⟩
  refine List.forall_mem_cons.mpr ⟨mo_iload _ _, ?_⟩
  refine List.forall_mem_cons.mpr ⟨mo_icmp _ _ _, ?_⟩
  refine List.forall_mem_cons.mpr ⟨mo_push _ _, ?_⟩
  refine List.forall_mem_cons.mpr ⟨mo_zret, ?_⟩
  refine List.forall_mem_cons.mpr ⟨mo_aload _ _, ?_⟩
  refine List.forall_mem_cons.mpr ⟨mo_dup, ?_⟩
  refine List.forall_mem_cons.mpr ⟨mo_get _ _, ?_⟩
  refine List.forall_mem_cons.mpr ⟨mo_push _ _, ?_⟩
  refine List.forall_mem_cons.mpr ⟨mo_bin _, ?_⟩
  refine List.forall_mem_cons.mpr ⟨mo_put _ _, ?_⟩
  refine List.forall_mem_cons.mpr ⟨mo_push _ _, ?_⟩
  refine List.forall_mem_cons.mpr ⟨mo_zret, ?_⟩
  exact fun _ h => absurd h List.not_mem_nil
def k_X7_readsHouse : List (Nat × aI) := [
  (0, i_aload 0 1),
  (1, i_get 7 14),
  (4, i_push (.int 6) 2),
  (6, i_icmp (fun x y => x = y) 9 11),
  (9, i_push (.int 0) 1),
  (10, i_zret),
  (11, i_aload 0 1),
  (12, i_push (.int 3) 1),
  (13, i_callV 127 2 7),
  (16, i_istore 1 1),
  (17, i_iload 1 1),
  (18, i_push (.int (-4)) 2),
  (20, i_icmp (fun x y => x = y) 32 23),
  (23, i_aload 0 1),
  (24, i_push (.int 44) 2),
  (26, i_callV 128 2 7),
  (29, i_if (fun x => x = 0) 32 34),
  (32, i_push (.int 0) 1),
  (33, i_zret),
  (34, i_push (.int 0) 1),
  (35, i_istore 2 1),
  (36, i_iload 2 1),
  (37, i_push (.int 5) 1),
  (38, i_icmp (fun x y => x < y) 41 91),
  (41, i_aload 0 1),
  (42, i_callV 126 1 7),
  (45, i_push (.int 48) 2),
  (47, i_push (.int 57) 2),
  (49, i_callS 117 3),
  (52, i_if (fun x => x = 0) 91 55),
  (55, i_aload 0 1),
  (56, i_get 7 17),
  (59, i_push (.int 5) 1),
  (60, i_aload 0 1),
  (61, i_get 7 14),
  (64, i_bin (fun x y => x * y)),
  (65, i_iload 2 1),
  (66, i_bin (fun x y => x + y)),
  (67, i_aload 0 1),
  (68, i_callV 126 1 7),
  (71, i_push (.int 48) 2),
  (73, i_bin (fun x y => x - y)),
  (74, i_iast),
  (75, i_aload 0 1),
  (76, i_dup),
  (77, i_get 7 13),
  (80, i_push (.int 1) 1),
  (81, i_bin (fun x y => x + y)),
  (82, i_put 7 13),
  (85, i_iinc 2 1),
  (88, i_goto 36),
  (91, i_iload 2 1),
  (92, i_push (.int 2) 1),
  (93, i_icmp (fun x y => x < y) 120 96),
  (96, i_aload 0 1),
  (97, i_get 7 14),
  (100, i_if (fun x => 0 < x) 103 111),
  (103, i_iload 2 1),
  (104, i_aload 0 1),
  (105, i_get 7 15),
  (108, i_icmp (fun x y => x = y) 111 120),
  (111, i_aload 0 1),
  (112, i_push (.int 59) 2),
  (114, i_callV 128 2 7),
  (117, i_if (fun x => x = 0) 120 122),
  (120, i_push (.int 0) 1),
  (121, i_zret),
  (122, i_aload 0 1),
  (123, i_get 7 16),
  (126, i_aload 0 1),
  (127, i_get 7 14),
  (130, i_iload 1 1),
  (131, i_iast),
  (132, i_aload 0 1),
  (133, i_iload 2 1),
  (134, i_put 7 15),
  (137, i_aload 0 1),
  (138, i_dup),
  (139, i_get 7 14),
  (142, i_push (.int 1) 1),
  (143, i_bin (fun x y => x + y)),
  (144, i_put 7 14),
  (147, i_push (.int 1) 1),
  (148, i_zret)]
theorem s_X7_readsHouse : ∀ q ∈ k_X7_readsHouse, Snd RX7 cX7_readsHouse (some .boolean) false q.1 q.2 := by
  unfold k_X7_readsHouse
  refine List.forall_mem_cons.mpr ⟨snd_aload_n (by decide +kernel : decode cX7_readsHouse 0 = .ok (.aload_n 0, 1)) rfl, ?_⟩
  refine List.forall_mem_cons.mpr ⟨snd_get fl_7_89 (by decide +kernel : decode cX7_readsHouse 1 = .ok (.getfield 89, 3)), ?_⟩
  refine List.forall_mem_cons.mpr ⟨snd_bipush (by decide +kernel : decode cX7_readsHouse 4 = .ok (.bipush 6, 2)) (by decide +kernel), ?_⟩
  refine List.forall_mem_cons.mpr ⟨snd_icmp_ne (by decide +kernel : decode cX7_readsHouse 6 = .ok (.if_icmp .ne 5, 3)) (by decide +kernel), ?_⟩
  refine List.forall_mem_cons.mpr ⟨snd_iconst (by decide +kernel : decode cX7_readsHouse 9 = .ok (.iconst 0, 1)) (by decide +kernel), ?_⟩
  refine List.forall_mem_cons.mpr ⟨snd_zret (by decide +kernel : decode cX7_readsHouse 10 = .ok (.ireturn, 1)), ?_⟩
  refine List.forall_mem_cons.mpr ⟨snd_aload_n (by decide +kernel : decode cX7_readsHouse 11 = .ok (.aload_n 0, 1)) rfl, ?_⟩
  refine List.forall_mem_cons.mpr ⟨snd_iconst (by decide +kernel : decode cX7_readsHouse 12 = .ok (.iconst 3, 1)) (by decide +kernel), ?_⟩
  refine List.forall_mem_cons.mpr ⟨snd_callV mok_127 wd_566 wd_569 wd_570 rfl rfl (by decide +kernel : decode cX7_readsHouse 13 = .ok (.invokevirtual 92, 3)), ?_⟩
  refine List.forall_mem_cons.mpr ⟨snd_istore_n (by decide +kernel : decode cX7_readsHouse 16 = .ok (.istore_n 1, 1)) rfl, ?_⟩
  refine List.forall_mem_cons.mpr ⟨snd_iload_n (by decide +kernel : decode cX7_readsHouse 17 = .ok (.iload_n 1, 1)) rfl, ?_⟩
  refine List.forall_mem_cons.mpr ⟨snd_bipush (by decide +kernel : decode cX7_readsHouse 18 = .ok (.bipush (-4), 2)) (by decide +kernel), ?_⟩
  refine List.forall_mem_cons.mpr ⟨snd_icmp_eq (by decide +kernel : decode cX7_readsHouse 20 = .ok (.if_icmp .eq 12, 3)) (by decide +kernel), ?_⟩
  refine List.forall_mem_cons.mpr ⟨snd_aload_n (by decide +kernel : decode cX7_readsHouse 23 = .ok (.aload_n 0, 1)) rfl, ?_⟩
  refine List.forall_mem_cons.mpr ⟨snd_bipush (by decide +kernel : decode cX7_readsHouse 24 = .ok (.bipush 44, 2)) (by decide +kernel), ?_⟩
  refine List.forall_mem_cons.mpr ⟨snd_callV mok_128 wd_571 wd_574 wd_575 rfl rfl (by decide +kernel : decode cX7_readsHouse 26 = .ok (.invokevirtual 96, 3)), ?_⟩
  refine List.forall_mem_cons.mpr ⟨snd_if_ne (by decide +kernel : decode cX7_readsHouse 29 = .ok (.ifCond .ne 5, 3)) (by decide +kernel), ?_⟩
  refine List.forall_mem_cons.mpr ⟨snd_iconst (by decide +kernel : decode cX7_readsHouse 32 = .ok (.iconst 0, 1)) (by decide +kernel), ?_⟩
  refine List.forall_mem_cons.mpr ⟨snd_zret (by decide +kernel : decode cX7_readsHouse 33 = .ok (.ireturn, 1)), ?_⟩
  refine List.forall_mem_cons.mpr ⟨snd_iconst (by decide +kernel : decode cX7_readsHouse 34 = .ok (.iconst 0, 1)) (by decide +kernel), ?_⟩
  refine List.forall_mem_cons.mpr ⟨snd_istore_n (by decide +kernel : decode cX7_readsHouse 35 = .ok (.istore_n 2, 1)) rfl, ?_⟩
  refine List.forall_mem_cons.mpr ⟨snd_iload_n (by decide +kernel : decode cX7_readsHouse 36 = .ok (.iload_n 2, 1)) rfl, ?_⟩
  refine List.forall_mem_cons.mpr ⟨snd_iconst (by decide +kernel : decode cX7_readsHouse 37 = .ok (.iconst 5, 1)) (by decide +kernel), ?_⟩
  refine List.forall_mem_cons.mpr ⟨snd_icmp_ge (by decide +kernel : decode cX7_readsHouse 38 = .ok (.if_icmp .ge 53, 3)) (by decide +kernel), ?_⟩
  refine List.forall_mem_cons.mpr ⟨snd_aload_n (by decide +kernel : decode cX7_readsHouse 41 = .ok (.aload_n 0, 1)) rfl, ?_⟩
  refine List.forall_mem_cons.mpr ⟨snd_callV mok_126 wd_560 wd_563 wd_564 rfl rfl (by decide +kernel : decode cX7_readsHouse 42 = .ok (.invokevirtual 85, 3)), ?_⟩
  refine List.forall_mem_cons.mpr ⟨snd_bipush (by decide +kernel : decode cX7_readsHouse 45 = .ok (.bipush 48, 2)) (by decide +kernel), ?_⟩
  refine List.forall_mem_cons.mpr ⟨snd_bipush (by decide +kernel : decode cX7_readsHouse 47 = .ok (.bipush 57, 2)) (by decide +kernel), ?_⟩
  refine List.forall_mem_cons.mpr ⟨snd_callS mok_117 wd_554 wd_557 (by decide +kernel : decode cX7_readsHouse 49 = .ok (.invokestatic 75, 3)), ?_⟩
  refine List.forall_mem_cons.mpr ⟨snd_if_eq (by decide +kernel : decode cX7_readsHouse 52 = .ok (.ifCond .eq 39, 3)) (by decide +kernel), ?_⟩
  refine List.forall_mem_cons.mpr ⟨snd_aload_n (by decide +kernel : decode cX7_readsHouse 55 = .ok (.aload_n 0, 1)) rfl, ?_⟩
  refine List.forall_mem_cons.mpr ⟨snd_get fl_7_37 (by decide +kernel : decode cX7_readsHouse 56 = .ok (.getfield 37, 3)), ?_⟩
  refine List.forall_mem_cons.mpr ⟨snd_iconst (by decide +kernel : decode cX7_readsHouse 59 = .ok (.iconst 5, 1)) (by decide +kernel), ?_⟩
  refine List.forall_mem_cons.mpr ⟨snd_aload_n (by decide +kernel : decode cX7_readsHouse 60 = .ok (.aload_n 0, 1)) rfl, ?_⟩
  refine List.forall_mem_cons.mpr ⟨snd_get fl_7_89 (by decide +kernel : decode cX7_readsHouse 61 = .ok (.getfield 89, 3)), ?_⟩
  refine List.forall_mem_cons.mpr ⟨snd_imul (by decide +kernel : decode cX7_readsHouse 64 = .ok (.imul, 1)), ?_⟩
  refine List.forall_mem_cons.mpr ⟨snd_iload_n (by decide +kernel : decode cX7_readsHouse 65 = .ok (.iload_n 2, 1)) rfl, ?_⟩
  refine List.forall_mem_cons.mpr ⟨snd_iadd (by decide +kernel : decode cX7_readsHouse 66 = .ok (.iadd, 1)), ?_⟩
  refine List.forall_mem_cons.mpr ⟨snd_aload_n (by decide +kernel : decode cX7_readsHouse 67 = .ok (.aload_n 0, 1)) rfl, ?_⟩
  refine List.forall_mem_cons.mpr ⟨snd_callV mok_126 wd_560 wd_563 wd_564 rfl rfl (by decide +kernel : decode cX7_readsHouse 68 = .ok (.invokevirtual 85, 3)), ?_⟩
  refine List.forall_mem_cons.mpr ⟨snd_bipush (by decide +kernel : decode cX7_readsHouse 71 = .ok (.bipush 48, 2)) (by decide +kernel), ?_⟩
  refine List.forall_mem_cons.mpr ⟨snd_isub (by decide +kernel : decode cX7_readsHouse 73 = .ok (.isub, 1)), ?_⟩
  refine List.forall_mem_cons.mpr ⟨snd_iast (by decide +kernel : decode cX7_readsHouse 74 = .ok (.iastore, 1)), ?_⟩
  refine List.forall_mem_cons.mpr ⟨snd_aload_n (by decide +kernel : decode cX7_readsHouse 75 = .ok (.aload_n 0, 1)) rfl, ?_⟩
  refine List.forall_mem_cons.mpr ⟨snd_dup (by decide +kernel : decode cX7_readsHouse 76 = .ok (.dup, 1)), ?_⟩
  refine List.forall_mem_cons.mpr ⟨snd_get fl_7_82 (by decide +kernel : decode cX7_readsHouse 77 = .ok (.getfield 82, 3)), ?_⟩
  refine List.forall_mem_cons.mpr ⟨snd_iconst (by decide +kernel : decode cX7_readsHouse 80 = .ok (.iconst 1, 1)) (by decide +kernel), ?_⟩
  refine List.forall_mem_cons.mpr ⟨snd_iadd (by decide +kernel : decode cX7_readsHouse 81 = .ok (.iadd, 1)), ?_⟩
  refine List.forall_mem_cons.mpr ⟨snd_put fl_7_82 (by decide +kernel : decode cX7_readsHouse 82 = .ok (.putfield 82, 3)), ?_⟩
  refine List.forall_mem_cons.mpr ⟨snd_iinc (by decide +kernel : decode cX7_readsHouse 85 = .ok (.iinc 2 1, 3)) (by decide +kernel), ?_⟩
  refine List.forall_mem_cons.mpr ⟨snd_goto (by decide +kernel : decode cX7_readsHouse 88 = .ok (.goto (-52), 3)) (by decide +kernel), ?_⟩
  refine List.forall_mem_cons.mpr ⟨snd_iload_n (by decide +kernel : decode cX7_readsHouse 91 = .ok (.iload_n 2, 1)) rfl, ?_⟩
  refine List.forall_mem_cons.mpr ⟨snd_iconst (by decide +kernel : decode cX7_readsHouse 92 = .ok (.iconst 2, 1)) (by decide +kernel), ?_⟩
  refine List.forall_mem_cons.mpr ⟨snd_icmp_lt (by decide +kernel : decode cX7_readsHouse 93 = .ok (.if_icmp .lt 27, 3)) (by decide +kernel), ?_⟩
  refine List.forall_mem_cons.mpr ⟨snd_aload_n (by decide +kernel : decode cX7_readsHouse 96 = .ok (.aload_n 0, 1)) rfl, ?_⟩
  refine List.forall_mem_cons.mpr ⟨snd_get fl_7_89 (by decide +kernel : decode cX7_readsHouse 97 = .ok (.getfield 89, 3)), ?_⟩
  refine List.forall_mem_cons.mpr ⟨snd_if_le (by decide +kernel : decode cX7_readsHouse 100 = .ok (.ifCond .le 11, 3)) (by decide +kernel), ?_⟩
  refine List.forall_mem_cons.mpr ⟨snd_iload_n (by decide +kernel : decode cX7_readsHouse 103 = .ok (.iload_n 2, 1)) rfl, ?_⟩
  refine List.forall_mem_cons.mpr ⟨snd_aload_n (by decide +kernel : decode cX7_readsHouse 104 = .ok (.aload_n 0, 1)) rfl, ?_⟩
  refine List.forall_mem_cons.mpr ⟨snd_get fl_7_100 (by decide +kernel : decode cX7_readsHouse 105 = .ok (.getfield 100, 3)), ?_⟩
  refine List.forall_mem_cons.mpr ⟨snd_icmp_ne (by decide +kernel : decode cX7_readsHouse 108 = .ok (.if_icmp .ne 12, 3)) (by decide +kernel), ?_⟩
  refine List.forall_mem_cons.mpr ⟨snd_aload_n (by decide +kernel : decode cX7_readsHouse 111 = .ok (.aload_n 0, 1)) rfl, ?_⟩
  refine List.forall_mem_cons.mpr ⟨snd_bipush (by decide +kernel : decode cX7_readsHouse 112 = .ok (.bipush 59, 2)) (by decide +kernel), ?_⟩
  refine List.forall_mem_cons.mpr ⟨snd_callV mok_128 wd_571 wd_574 wd_575 rfl rfl (by decide +kernel : decode cX7_readsHouse 114 = .ok (.invokevirtual 96, 3)), ?_⟩
  refine List.forall_mem_cons.mpr ⟨snd_if_ne (by decide +kernel : decode cX7_readsHouse 117 = .ok (.ifCond .ne 5, 3)) (by decide +kernel), ?_⟩
  refine List.forall_mem_cons.mpr ⟨snd_iconst (by decide +kernel : decode cX7_readsHouse 120 = .ok (.iconst 0, 1)) (by decide +kernel), ?_⟩
  refine List.forall_mem_cons.mpr ⟨snd_zret (by decide +kernel : decode cX7_readsHouse 121 = .ok (.ireturn, 1)), ?_⟩
  refine List.forall_mem_cons.mpr ⟨snd_aload_n (by decide +kernel : decode cX7_readsHouse 122 = .ok (.aload_n 0, 1)) rfl, ?_⟩
  refine List.forall_mem_cons.mpr ⟨snd_get fl_7_34 (by decide +kernel : decode cX7_readsHouse 123 = .ok (.getfield 34, 3)), ?_⟩
  refine List.forall_mem_cons.mpr ⟨snd_aload_n (by decide +kernel : decode cX7_readsHouse 126 = .ok (.aload_n 0, 1)) rfl, ?_⟩
  refine List.forall_mem_cons.mpr ⟨snd_get fl_7_89 (by decide +kernel : decode cX7_readsHouse 127 = .ok (.getfield 89, 3)), ?_⟩
  refine List.forall_mem_cons.mpr ⟨snd_iload_n (by decide +kernel : decode cX7_readsHouse 130 = .ok (.iload_n 1, 1)) rfl, ?_⟩
  refine List.forall_mem_cons.mpr ⟨snd_iast (by decide +kernel : decode cX7_readsHouse 131 = .ok (.iastore, 1)), ?_⟩
  refine List.forall_mem_cons.mpr ⟨snd_aload_n (by decide +kernel : decode cX7_readsHouse 132 = .ok (.aload_n 0, 1)) rfl, ?_⟩
  refine List.forall_mem_cons.mpr ⟨snd_iload_n (by decide +kernel : decode cX7_readsHouse 133 = .ok (.iload_n 2, 1)) rfl, ?_⟩
  refine List.forall_mem_cons.mpr ⟨snd_put fl_7_100 (by decide +kernel : decode cX7_readsHouse 134 = .ok (.putfield 100, 3)), ?_⟩
  refine List.forall_mem_cons.mpr ⟨snd_aload_n (by decide +kernel : decode cX7_readsHouse 137 = .ok (.aload_n 0, 1)) rfl, ?_⟩
  refine List.forall_mem_cons.mpr ⟨snd_dup (by decide +kernel : decode cX7_readsHouse 138 = .ok (.dup, 1)), ?_⟩
  refine List.forall_mem_cons.mpr ⟨snd_get fl_7_89 (by decide +kernel : decode cX7_readsHouse 139 = .ok (.getfield 89, 3)), ?_⟩
  refine List.forall_mem_cons.mpr ⟨snd_iconst (by decide +kernel : decode cX7_readsHouse 142 = .ok (.iconst 1, 1)) (by decide +kernel), ?_⟩
  refine List.forall_mem_cons.mpr ⟨snd_iadd (by decide +kernel : decode cX7_readsHouse 143 = .ok (.iadd, 1)), ?_⟩
  refine List.forall_mem_cons.mpr ⟨snd_put fl_7_89 (by decide +kernel : decode cX7_readsHouse 144 = .ok (.putfield 89, 3)), ?_⟩
  refine List.forall_mem_cons.mpr ⟨snd_iconst (by decide +kernel : decode cX7_readsHouse 147 = .ok (.iconst 1, 1)) (by decide +kernel), ?_⟩
  refine List.forall_mem_cons.mpr ⟨snd_zret (by decide +kernel : decode cX7_readsHouse 148 = .ok (.ireturn, 1)), ?_⟩
  exact fun _ h => absurd h List.not_mem_nil
theorem m_X7_readsHouse : ∀ q ∈ k_X7_readsHouse, Mono q.2 := by
  unfold k_X7_readsHouse
  refine List.forall_mem_cons.mpr ⟨mo_aload _ _, ?_⟩
  refine List.forall_mem_cons.mpr ⟨mo_get _ _, ?_⟩
  refine List.forall_mem_cons.mpr ⟨mo_push _ _, ?_⟩
  refine List.forall_mem_cons.mpr ⟨mo_icmp _ _ _, ?_⟩
  refine List.forall_mem_cons.mpr ⟨mo_push _ _, ?_⟩
  refine List.forall_mem_cons.mpr ⟨mo_zret, ?_⟩
  refine List.forall_mem_cons.mpr ⟨mo_aload _ _, ?_⟩
  refine List.forall_mem_cons.mpr ⟨mo_push _ _, ?_⟩
  refine List.forall_mem_cons.mpr ⟨mo_call _ _ _, ?_⟩
  refine List.forall_mem_cons.mpr ⟨mo_istore _ _, ?_⟩
  refine List.forall_mem_cons.mpr ⟨mo_iload _ _, ?_⟩
  refine List.forall_mem_cons.mpr ⟨mo_push _ _, ?_⟩
  refine List.forall_mem_cons.mpr ⟨mo_icmp _ _ _, ?_⟩
  refine List.forall_mem_cons.mpr ⟨mo_aload _ _, ?_⟩
  refine List.forall_mem_cons.mpr ⟨mo_push _ _, ?_⟩
  refine List.forall_mem_cons.mpr ⟨mo_call _ _ _, ?_⟩
  refine List.forall_mem_cons.mpr ⟨mo_if _ _ _, ?_⟩
  refine List.forall_mem_cons.mpr ⟨mo_push _ _, ?_⟩
  refine List.forall_mem_cons.mpr ⟨mo_zret, ?_⟩
  refine List.forall_mem_cons.mpr ⟨mo_push _ _, ?_⟩
  refine List.forall_mem_cons.mpr ⟨mo_istore _ _, ?_⟩
  refine List.forall_mem_cons.mpr ⟨mo_iload _ _, ?_⟩
  refine List.forall_mem_cons.mpr ⟨mo_push _ _, ?_⟩
  refine List.forall_mem_cons.mpr ⟨mo_icmp _ _ _, ?_⟩
  refine List.forall_mem_cons.mpr ⟨mo_aload _ _, ?_⟩
  refine List.forall_mem_cons.mpr ⟨mo_call _ _ _, ?_⟩
  refine List.forall_mem_cons.mpr ⟨mo_push _ _, ?_⟩
  refine List.forall_mem_cons.mpr ⟨mo_push _ _, ?_⟩
  refine List.forall_mem_cons.mpr ⟨mo_call _ _ _, ?_⟩
  refine List.forall_mem_cons.mpr ⟨mo_if _ _ _, ?_⟩
  refine List.forall_mem_cons.mpr ⟨mo_aload _ _, ?_⟩
  refine List.forall_mem_cons.mpr ⟨mo_get _ _, ?_⟩
  refine List.forall_mem_cons.mpr ⟨mo_push _ _, ?_⟩
  refine List.forall_mem_cons.mpr ⟨mo_aload _ _, ?_⟩
  refine List.forall_mem_cons.mpr ⟨mo_get _ _, ?_⟩
  refine List.forall_mem_cons.mpr ⟨mo_bin _, ?_⟩
  refine List.forall_mem_cons.mpr ⟨mo_iload _ _, ?_⟩
  refine List.forall_mem_cons.mpr ⟨mo_bin _, ?_⟩
  refine List.forall_mem_cons.mpr ⟨mo_aload _ _, ?_⟩
  refine List.forall_mem_cons.mpr ⟨mo_call _ _ _, ?_⟩
  refine List.forall_mem_cons.mpr ⟨mo_push _ _, ?_⟩
  refine List.forall_mem_cons.mpr ⟨mo_bin _, ?_⟩
  refine List.forall_mem_cons.mpr ⟨mo_iast, ?_⟩
  refine List.forall_mem_cons.mpr ⟨mo_aload _ _, ?_⟩
  refine List.forall_mem_cons.mpr ⟨mo_dup, ?_⟩
  refine List.forall_mem_cons.mpr ⟨mo_get _ _, ?_⟩
  refine List.forall_mem_cons.mpr ⟨mo_push _ _, ?_⟩
  refine List.forall_mem_cons.mpr ⟨mo_bin _, ?_⟩
  refine List.forall_mem_cons.mpr ⟨mo_put _ _, ?_⟩
  refine List.forall_mem_cons.mpr ⟨mo_iinc _ _, ?_⟩
  refine List.forall_mem_cons.mpr ⟨mo_goto _, ?_⟩
  refine List.forall_mem_cons.mpr ⟨mo_iload _ _, ?_⟩
  refine List.forall_mem_cons.mpr ⟨mo_push _ _, ?_⟩
  refine List.forall_mem_cons.mpr ⟨mo_icmp _ _ _, ?_⟩
  refine List.forall_mem_cons.mpr ⟨mo_aload _ _, ?_⟩
  refine List.forall_mem_cons.mpr ⟨mo_get _ _, ?_⟩
  refine List.forall_mem_cons.mpr ⟨mo_if _ _ _, ?_⟩
  refine List.forall_mem_cons.mpr ⟨mo_iload _ _, ?_⟩
  refine List.forall_mem_cons.mpr ⟨mo_aload _ _, ?_⟩
  refine List.forall_mem_cons.mpr ⟨mo_get _ _, ?_⟩
  refine List.forall_mem_cons.mpr ⟨mo_icmp _ _ _, ?_⟩
  refine List.forall_mem_cons.mpr ⟨mo_aload _ _, ?_⟩
  refine List.forall_mem_cons.mpr ⟨mo_push _ _, ?_⟩
  refine List.forall_mem_cons.mpr ⟨mo_call _ _ _, ?_⟩
  refine List.forall_mem_cons.mpr ⟨mo_if _ _ _, ?_⟩
  refine List.forall_mem_cons.mpr ⟨mo_push _ _, ?_⟩
  refine List.forall_mem_cons.mpr ⟨mo_zret, ?_⟩
  refine List.forall_mem_cons.mpr ⟨mo_aload _ _, ?_⟩
  refine List.forall_mem_cons.mpr ⟨mo_get _ _, ?_⟩
  refine List.forall_mem_cons.mpr ⟨mo_aload _ _, ?_⟩
  refine List.forall_mem_cons.mpr ⟨mo_get _ _, ?_⟩
  refine List.forall_mem_cons.mpr ⟨mo_iload _ _, ?_⟩
  refine List.forall_mem_cons.mpr ⟨mo_iast, ?_⟩
  refine List.forall_mem_cons.mpr ⟨mo_aload _ _, ?_⟩
  refine List.forall_mem_cons.mpr ⟨mo_iload _ _, ?_⟩
  refine List.forall_mem_cons.mpr ⟨mo_put _ _, ?_⟩
  refine List.forall_mem_cons.mpr ⟨mo_aload _ _, ?_⟩
  refine List.forall_mem_cons.mpr ⟨mo_dup, ?_⟩
  refine List.forall_mem_cons.mpr ⟨mo_get _ _, ?_⟩
  refine List.forall_mem_cons.mpr ⟨mo_push _ _, ?_⟩
  refine List.forall_mem_cons.mpr ⟨mo_bin _, ?_⟩
  refine List.forall_mem_cons.mpr ⟨mo_put _ _, ?_⟩
  refine List.forall_mem_cons.mpr ⟨mo_push _ _, ?_⟩
  refine List.forall_mem_cons.mpr ⟨mo_zret, ?_⟩
  exact fun _ h => absurd h List.not_mem_nil
def k_X7_readsMouse : List (Nat × aI) := [
  (0, i_aload 0 1),
  (1, i_aload 0 1),
  (2, i_get 7 14),
  (5, i_push (.int 1) 1),
  (6, i_bin (fun x y => x - y)),
  (7, i_callV 127 2 7),
  (10, i_istore 1 1),
  (11, i_iload 1 1),
  (12, i_push (.int (-4)) 2),
  (14, i_icmp (fun x y => x = y) 26 17),
  (17, i_aload 0 1),
  (18, i_push (.int 59) 2),
  (20, i_callV 128 2 7),
  (23, i_if (fun x => x = 0) 26 28),
  (26, i_push (.int 0) 1),
  (27, i_zret),
  (28, i_aload 0 1),
  (29, i_get 7 18),
  (32, i_iload 1 1),
  (33, i_push (.int 1) 1),
  (34, i_iast),
  (35, i_push (.int 1) 1),
  (36, i_zret)]
theorem s_X7_readsMouse : ∀ q ∈ k_X7_readsMouse, Snd RX7 cX7_readsMouse (some .boolean) false q.1 q.2 := by
  unfold k_X7_readsMouse
  refine List.forall_mem_cons.mpr ⟨snd_aload_n (by decide +kernel : decode cX7_readsMouse 0 = .ok (.aload_n 0, 1)) rfl, ?_⟩
  refine List.forall_mem_cons.mpr ⟨snd_aload_n (by decide +kernel : decode cX7_readsMouse 1 = .ok (.aload_n 0, 1)) rfl, ?_⟩
  refine List.forall_mem_cons.mpr ⟨snd_get fl_7_89 (by decide +kernel : decode cX7_readsMouse 2 = .ok (.getfield 89, 3)), ?_⟩
  refine List.forall_mem_cons.mpr ⟨snd_iconst (by decide +kernel : decode cX7_readsMouse 5 = .ok (.iconst 1, 1)) (by decide +kernel), ?_⟩
  refine List.forall_mem_cons.mpr ⟨snd_isub (by decide +kernel : decode cX7_readsMouse 6 = .ok (.isub, 1)), ?_⟩
  refine List.forall_mem_cons.mpr ⟨snd_callV mok_127 wd_566 wd_569 wd_570 rfl rfl (by decide +kernel : decode cX7_readsMouse 7 = .ok (.invokevirtual 92, 3)), ?_⟩
  refine List.forall_mem_cons.mpr ⟨snd_istore_n (by decide +kernel : decode cX7_readsMouse 10 = .ok (.istore_n 1, 1)) rfl, ?_⟩
  refine List.forall_mem_cons.mpr ⟨snd_iload_n (by decide +kernel : decode cX7_readsMouse 11 = .ok (.iload_n 1, 1)) rfl, ?_⟩
  refine List.forall_mem_cons.mpr ⟨snd_bipush (by decide +kernel : decode cX7_readsMouse 12 = .ok (.bipush (-4), 2)) (by decide +kernel), ?_⟩
  refine List.forall_mem_cons.mpr ⟨snd_icmp_eq (by decide +kernel : decode cX7_readsMouse 14 = .ok (.if_icmp .eq 12, 3)) (by decide +kernel), ?_⟩
  refine List.forall_mem_cons.mpr ⟨snd_aload_n (by decide +kernel : decode cX7_readsMouse 17 = .ok (.aload_n 0, 1)) rfl, ?_⟩
  refine List.forall_mem_cons.mpr ⟨snd_bipush (by decide +kernel : decode cX7_readsMouse 18 = .ok (.bipush 59, 2)) (by decide +kernel), ?_⟩
  refine List.forall_mem_cons.mpr ⟨snd_callV mok_128 wd_571 wd_574 wd_575 rfl rfl (by decide +kernel : decode cX7_readsMouse 20 = .ok (.invokevirtual 96, 3)), ?_⟩
  refine List.forall_mem_cons.mpr ⟨snd_if_ne (by decide +kernel : decode cX7_readsMouse 23 = .ok (.ifCond .ne 5, 3)) (by decide +kernel), ?_⟩
  refine List.forall_mem_cons.mpr ⟨snd_iconst (by decide +kernel : decode cX7_readsMouse 26 = .ok (.iconst 0, 1)) (by decide +kernel), ?_⟩
  refine List.forall_mem_cons.mpr ⟨snd_zret (by decide +kernel : decode cX7_readsMouse 27 = .ok (.ireturn, 1)), ?_⟩
  refine List.forall_mem_cons.mpr ⟨snd_aload_n (by decide +kernel : decode cX7_readsMouse 28 = .ok (.aload_n 0, 1)) rfl, ?_⟩
  refine List.forall_mem_cons.mpr ⟨snd_get fl_7_40 (by decide +kernel : decode cX7_readsMouse 29 = .ok (.getfield 40, 3)), ?_⟩
  refine List.forall_mem_cons.mpr ⟨snd_iload_n (by decide +kernel : decode cX7_readsMouse 32 = .ok (.iload_n 1, 1)) rfl, ?_⟩
  refine List.forall_mem_cons.mpr ⟨snd_iconst (by decide +kernel : decode cX7_readsMouse 33 = .ok (.iconst 1, 1)) (by decide +kernel), ?_⟩
  refine List.forall_mem_cons.mpr ⟨snd_iast (by decide +kernel : decode cX7_readsMouse 34 = .ok (.iastore, 1)), ?_⟩
  refine List.forall_mem_cons.mpr ⟨snd_iconst (by decide +kernel : decode cX7_readsMouse 35 = .ok (.iconst 1, 1)) (by decide +kernel), ?_⟩
  refine List.forall_mem_cons.mpr ⟨snd_zret (by decide +kernel : decode cX7_readsMouse 36 = .ok (.ireturn, 1)), ?_⟩
  exact fun _ h => absurd h List.not_mem_nil
theorem m_X7_readsMouse : ∀ q ∈ k_X7_readsMouse, Mono q.2 := by
  unfold k_X7_readsMouse
  refine List.forall_mem_cons.mpr ⟨mo_aload _ _, ?_⟩
  refine List.forall_mem_cons.mpr ⟨mo_aload _ _, ?_⟩
  refine List.forall_mem_cons.mpr ⟨mo_get _ _, ?_⟩
  refine List.forall_mem_cons.mpr ⟨mo_push _ _, ?_⟩
  refine List.forall_mem_cons.mpr ⟨mo_bin _, ?_⟩
  refine List.forall_mem_cons.mpr ⟨mo_call _ _ _, ?_⟩
  refine List.forall_mem_cons.mpr ⟨mo_istore _ _, ?_⟩
  refine List.forall_mem_cons.mpr ⟨mo_iload _ _, ?_⟩
  refine List.forall_mem_cons.mpr ⟨mo_push _ _, ?_⟩
  refine List.forall_mem_cons.mpr ⟨mo_icmp _ _ _, ?_⟩
  refine List.forall_mem_cons.mpr ⟨mo_aload _ _, ?_⟩
  refine List.forall_mem_cons.mpr ⟨mo_push _ _, ?_⟩
  refine List.forall_mem_cons.mpr ⟨mo_call _ _ _, ?_⟩
  refine List.forall_mem_cons.mpr ⟨mo_if _ _ _, ?_⟩
  refine List.forall_mem_cons.mpr ⟨mo_push _ _, ?_⟩
  refine List.forall_mem_cons.mpr ⟨mo_zret, ?_⟩
  refine List.forall_mem_cons.mpr ⟨mo_aload _ _, ?_⟩
  refine List.forall_mem_cons.mpr ⟨mo_get _ _, ?_⟩
  refine List.forall_mem_cons.mpr ⟨mo_iload _ _, ?_⟩
  refine List.forall_mem_cons.mpr ⟨mo_push _ _, ?_⟩
  refine List.forall_mem_cons.mpr ⟨mo_iast, ?_⟩
  refine List.forall_mem_cons.mpr ⟨mo_push _ _, ?_⟩
  refine List.forall_mem_cons.mpr ⟨mo_zret, ?_⟩
  exact fun _ h => absurd h List.not_mem_nil
def k_X7_readsWant : List (Nat × aI) := [
  (0, i_aload 0 1),
  (1, i_aload 0 1),
  (2, i_get 7 15),
  (5, i_push (.int 1) 1),
  (6, i_bin (fun x y => x - y)),
  (7, i_callV 127 2 7),
  (10, i_istore 1 1),
  (11, i_iload 1 1),
  (12, i_push (.int (-4)) 2),
  (14, i_icmp (fun x y => x = y) 26 17),
  (17, i_aload 0 1),
  (18, i_push (.int 44) 2),
  (20, i_callV 128 2 7),
  (23, i_if (fun x => x = 0) 26 28),
  (26, i_push (.int 0) 1),
  (27, i_zret),
  (28, i_aload 0 1),
  (29, i_push (.int 9) 2),
  (31, i_callV 127 2 7),
  (34, i_istore 2 1),
  (35, i_iload 2 1),
  (36, i_push (.int (-4)) 2),
  (38, i_icmp (fun x y => x = y) 50 41),
  (41, i_aload 0 1),
  (42, i_push (.int 59) 2),
  (44, i_callV 128 2 7),
  (47, i_if (fun x => x = 0) 50 52),
  (50, i_push (.int 0) 1),
  (51, i_zret),
  (52, i_aload 0 1),
  (53, i_get 7 19),
  (56, i_iload 1 1),
  (57, i_iload 2 1),
  (58, i_iast),
  (59, i_push (.int 1) 1),
  (60, i_zret)]
theorem s_X7_readsWant : ∀ q ∈ k_X7_readsWant, Snd RX7 cX7_readsWant (some .boolean) false q.1 q.2 := by
  unfold k_X7_readsWant
  refine List.forall_mem_cons.mpr ⟨snd_aload_n (by decide +kernel : decode cX7_readsWant 0 = .ok (.aload_n 0, 1)) rfl, ?_⟩
  refine List.forall_mem_cons.mpr ⟨snd_aload_n (by decide +kernel : decode cX7_readsWant 1 = .ok (.aload_n 0, 1)) rfl, ?_⟩
  refine List.forall_mem_cons.mpr ⟨snd_get fl_7_100 (by decide +kernel : decode cX7_readsWant 2 = .ok (.getfield 100, 3)), ?_⟩
  refine List.forall_mem_cons.mpr ⟨snd_iconst (by decide +kernel : decode cX7_readsWant 5 = .ok (.iconst 1, 1)) (by decide +kernel), ?_⟩
  refine List.forall_mem_cons.mpr ⟨snd_isub (by decide +kernel : decode cX7_readsWant 6 = .ok (.isub, 1)), ?_⟩
  refine List.forall_mem_cons.mpr ⟨snd_callV mok_127 wd_566 wd_569 wd_570 rfl rfl (by decide +kernel : decode cX7_readsWant 7 = .ok (.invokevirtual 92, 3)), ?_⟩
  refine List.forall_mem_cons.mpr ⟨snd_istore_n (by decide +kernel : decode cX7_readsWant 10 = .ok (.istore_n 1, 1)) rfl, ?_⟩
  refine List.forall_mem_cons.mpr ⟨snd_iload_n (by decide +kernel : decode cX7_readsWant 11 = .ok (.iload_n 1, 1)) rfl, ?_⟩
  refine List.forall_mem_cons.mpr ⟨snd_bipush (by decide +kernel : decode cX7_readsWant 12 = .ok (.bipush (-4), 2)) (by decide +kernel), ?_⟩
  refine List.forall_mem_cons.mpr ⟨snd_icmp_eq (by decide +kernel : decode cX7_readsWant 14 = .ok (.if_icmp .eq 12, 3)) (by decide +kernel), ?_⟩
  refine List.forall_mem_cons.mpr ⟨snd_aload_n (by decide +kernel : decode cX7_readsWant 17 = .ok (.aload_n 0, 1)) rfl, ?_⟩
  refine List.forall_mem_cons.mpr ⟨snd_bipush (by decide +kernel : decode cX7_readsWant 18 = .ok (.bipush 44, 2)) (by decide +kernel), ?_⟩
  refine List.forall_mem_cons.mpr ⟨snd_callV mok_128 wd_571 wd_574 wd_575 rfl rfl (by decide +kernel : decode cX7_readsWant 20 = .ok (.invokevirtual 96, 3)), ?_⟩
  refine List.forall_mem_cons.mpr ⟨snd_if_ne (by decide +kernel : decode cX7_readsWant 23 = .ok (.ifCond .ne 5, 3)) (by decide +kernel), ?_⟩
  refine List.forall_mem_cons.mpr ⟨snd_iconst (by decide +kernel : decode cX7_readsWant 26 = .ok (.iconst 0, 1)) (by decide +kernel), ?_⟩
  refine List.forall_mem_cons.mpr ⟨snd_zret (by decide +kernel : decode cX7_readsWant 27 = .ok (.ireturn, 1)), ?_⟩
  refine List.forall_mem_cons.mpr ⟨snd_aload_n (by decide +kernel : decode cX7_readsWant 28 = .ok (.aload_n 0, 1)) rfl, ?_⟩
  refine List.forall_mem_cons.mpr ⟨snd_bipush (by decide +kernel : decode cX7_readsWant 29 = .ok (.bipush 9, 2)) (by decide +kernel), ?_⟩
  refine List.forall_mem_cons.mpr ⟨snd_callV mok_127 wd_566 wd_569 wd_570 rfl rfl (by decide +kernel : decode cX7_readsWant 31 = .ok (.invokevirtual 92, 3)), ?_⟩
  refine List.forall_mem_cons.mpr ⟨snd_istore_n (by decide +kernel : decode cX7_readsWant 34 = .ok (.istore_n 2, 1)) rfl, ?_⟩
  refine List.forall_mem_cons.mpr ⟨snd_iload_n (by decide +kernel : decode cX7_readsWant 35 = .ok (.iload_n 2, 1)) rfl, ?_⟩
  refine List.forall_mem_cons.mpr ⟨snd_bipush (by decide +kernel : decode cX7_readsWant 36 = .ok (.bipush (-4), 2)) (by decide +kernel), ?_⟩
  refine List.forall_mem_cons.mpr ⟨snd_icmp_eq (by decide +kernel : decode cX7_readsWant 38 = .ok (.if_icmp .eq 12, 3)) (by decide +kernel), ?_⟩
  refine List.forall_mem_cons.mpr ⟨snd_aload_n (by decide +kernel : decode cX7_readsWant 41 = .ok (.aload_n 0, 1)) rfl, ?_⟩
  refine List.forall_mem_cons.mpr ⟨snd_bipush (by decide +kernel : decode cX7_readsWant 42 = .ok (.bipush 59, 2)) (by decide +kernel), ?_⟩
  refine List.forall_mem_cons.mpr ⟨snd_callV mok_128 wd_571 wd_574 wd_575 rfl rfl (by decide +kernel : decode cX7_readsWant 44 = .ok (.invokevirtual 96, 3)), ?_⟩
  refine List.forall_mem_cons.mpr ⟨snd_if_ne (by decide +kernel : decode cX7_readsWant 47 = .ok (.ifCond .ne 5, 3)) (by decide +kernel), ?_⟩
  refine List.forall_mem_cons.mpr ⟨snd_iconst (by decide +kernel : decode cX7_readsWant 50 = .ok (.iconst 0, 1)) (by decide +kernel), ?_⟩
  refine List.forall_mem_cons.mpr ⟨snd_zret (by decide +kernel : decode cX7_readsWant 51 = .ok (.ireturn, 1)), ?_⟩
  refine List.forall_mem_cons.mpr ⟨snd_aload_n (by decide +kernel : decode cX7_readsWant 52 = .ok (.aload_n 0, 1)) rfl, ?_⟩
  refine List.forall_mem_cons.mpr ⟨snd_get fl_7_43 (by decide +kernel : decode cX7_readsWant 53 = .ok (.getfield 43, 3)), ?_⟩
  refine List.forall_mem_cons.mpr ⟨snd_iload_n (by decide +kernel : decode cX7_readsWant 56 = .ok (.iload_n 1, 1)) rfl, ?_⟩
  refine List.forall_mem_cons.mpr ⟨snd_iload_n (by decide +kernel : decode cX7_readsWant 57 = .ok (.iload_n 2, 1)) rfl, ?_⟩
  refine List.forall_mem_cons.mpr ⟨snd_iast (by decide +kernel : decode cX7_readsWant 58 = .ok (.iastore, 1)), ?_⟩
  refine List.forall_mem_cons.mpr ⟨snd_iconst (by decide +kernel : decode cX7_readsWant 59 = .ok (.iconst 1, 1)) (by decide +kernel), ?_⟩
  refine List.forall_mem_cons.mpr ⟨snd_zret (by decide +kernel : decode cX7_readsWant 60 = .ok (.ireturn, 1)), ?_⟩
  exact fun _ h => absurd h List.not_mem_nil
theorem m_X7_readsWant : ∀ q ∈ k_X7_readsWant, Mono q.2 := by
  unfold k_X7_readsWant
  refine List.forall_mem_cons.mpr ⟨mo_aload _ _, ?_⟩
  refine List.forall_mem_cons.mpr ⟨mo_aload _ _, ?_⟩
  refine List.forall_mem_cons.mpr ⟨mo_get _ _, ?_⟩
  refine List.forall_mem_cons.mpr ⟨mo_push _ _, ?_⟩
  refine List.forall_mem_cons.mpr ⟨mo_bin _, ?_⟩
  refine List.forall_mem_cons.mpr ⟨mo_call _ _ _, ?_⟩
  refine List.forall_mem_cons.mpr ⟨mo_istore _ _, ?_⟩
  refine List.forall_mem_cons.mpr ⟨mo_iload _ _, ?_⟩
  refine List.forall_mem_cons.mpr ⟨mo_push _ _, ?_⟩
  refine List.forall_mem_cons.mpr ⟨mo_icmp _ _ _, ?_⟩
  refine List.forall_mem_cons.mpr ⟨mo_aload _ _, ?_⟩
  refine List.forall_mem_cons.mpr ⟨mo_push _ _, ?_⟩
  refine List.forall_mem_cons.mpr ⟨mo_call _ _ _, ?_⟩
  refine List.forall_mem_cons.mpr ⟨mo_if _ _ _, ?_⟩
  refine List.forall_mem_cons.mpr ⟨mo_push _ _, ?_⟩
  refine List.forall_mem_cons.mpr ⟨mo_zret, ?_⟩
  refine List.forall_mem_cons.mpr ⟨mo_aload _ _, ?_⟩
  refine List.forall_mem_cons.mpr ⟨mo_push _ _, ?_⟩
  refine List.forall_mem_cons.mpr ⟨mo_call _ _ _, ?_⟩
  refine List.forall_mem_cons.mpr ⟨mo_istore _ _, ?_⟩
  refine List.forall_mem_cons.mpr ⟨mo_iload _ _, ?_⟩
  refine List.forall_mem_cons.mpr ⟨mo_push _ _, ?_⟩
  refine List.forall_mem_cons.mpr ⟨mo_icmp _ _ _, ?_⟩
  refine List.forall_mem_cons.mpr ⟨mo_aload _ _, ?_⟩
  refine List.forall_mem_cons.mpr ⟨mo_push _ _, ?_⟩
  refine List.forall_mem_cons.mpr ⟨mo_call _ _ _, ?_⟩
  refine List.forall_mem_cons.mpr ⟨mo_if _ _ _, ?_⟩
  refine List.forall_mem_cons.mpr ⟨mo_push _ _, ?_⟩
  refine List.forall_mem_cons.mpr ⟨mo_zret, ?_⟩
  refine List.forall_mem_cons.mpr ⟨mo_aload _ _, ?_⟩
  refine List.forall_mem_cons.mpr ⟨mo_get _ _, ?_⟩
  refine List.forall_mem_cons.mpr ⟨mo_iload _ _, ?_⟩
  refine List.forall_mem_cons.mpr ⟨mo_iload _ _, ?_⟩
  refine List.forall_mem_cons.mpr ⟨mo_iast, ?_⟩
  refine List.forall_mem_cons.mpr ⟨mo_push _ _, ?_⟩
  refine List.forall_mem_cons.mpr ⟨mo_zret, ?_⟩
  exact fun _ h => absurd h List.not_mem_nil
def k_X7_readsItem : List (Nat × aI) := [
  (0, i_aload 0 1),
  (1, i_callV 126 1 7),
  (4, i_istore 1 1),
  (5, i_aload 0 1),
  (6, i_dup),
  (7, i_get 7 13),
  (10, i_push (.int 1) 1),
  (11, i_bin (fun x y => x + y)),
  (12, i_put 7 13),
  (15, i_iload 1 1),
  (16, i_push (.int 104) 2),
  (18, i_icmp (fun x y => x = y) 21 28),
  (21, i_aload 0 1),
  (22, i_callV 129 1 7),
  (25, i_goto 59),
  (28, i_iload 1 1),
  (29, i_push (.int 109) 2),
  (31, i_icmp (fun x y => x = y) 34 41),
  (34, i_aload 0 1),
  (35, i_callV 130 1 7),
  (38, i_goto 59),
  (41, i_iload 1 1),
  (42, i_push (.int 113) 2),
  (44, i_icmp (fun x y => x = y) 47 58),
  (47, i_aload 0 1),
  (48, i_callV 131 1 7),
  (51, i_if (fun x => x = 0) 58 54),
  (54, i_push (.int 1) 1),
  (55, i_goto 59),
  (58, i_push (.int 0) 1),
  (59, i_zret)]
theorem s_X7_readsItem : ∀ q ∈ k_X7_readsItem, Snd RX7 cX7_readsItem (some .boolean) false q.1 q.2 := by
  unfold k_X7_readsItem
  refine List.forall_mem_cons.mpr ⟨snd_aload_n (by decide +kernel : decode cX7_readsItem 0 = .ok (.aload_n 0, 1)) rfl, ?_⟩
  refine List.forall_mem_cons.mpr ⟨snd_callV mok_126 wd_560 wd_563 wd_564 rfl rfl (by decide +kernel : decode cX7_readsItem 1 = .ok (.invokevirtual 85, 3)), ?_⟩
  refine List.forall_mem_cons.mpr ⟨snd_istore_n (by decide +kernel : decode cX7_readsItem 4 = .ok (.istore_n 1, 1)) rfl, ?_⟩
  refine List.forall_mem_cons.mpr ⟨snd_aload_n (by decide +kernel : decode cX7_readsItem 5 = .ok (.aload_n 0, 1)) rfl, ?_⟩
  refine List.forall_mem_cons.mpr ⟨snd_dup (by decide +kernel : decode cX7_readsItem 6 = .ok (.dup, 1)), ?_⟩
  refine List.forall_mem_cons.mpr ⟨snd_get fl_7_82 (by decide +kernel : decode cX7_readsItem 7 = .ok (.getfield 82, 3)), ?_⟩
  refine List.forall_mem_cons.mpr ⟨snd_iconst (by decide +kernel : decode cX7_readsItem 10 = .ok (.iconst 1, 1)) (by decide +kernel), ?_⟩
  refine List.forall_mem_cons.mpr ⟨snd_iadd (by decide +kernel : decode cX7_readsItem 11 = .ok (.iadd, 1)), ?_⟩
  refine List.forall_mem_cons.mpr ⟨snd_put fl_7_82 (by decide +kernel : decode cX7_readsItem 12 = .ok (.putfield 82, 3)), ?_⟩
  refine List.forall_mem_cons.mpr ⟨snd_iload_n (by decide +kernel : decode cX7_readsItem 15 = .ok (.iload_n 1, 1)) rfl, ?_⟩
  refine List.forall_mem_cons.mpr ⟨snd_bipush (by decide +kernel : decode cX7_readsItem 16 = .ok (.bipush 104, 2)) (by decide +kernel), ?_⟩
  refine List.forall_mem_cons.mpr ⟨snd_icmp_ne (by decide +kernel : decode cX7_readsItem 18 = .ok (.if_icmp .ne 10, 3)) (by decide +kernel), ?_⟩
  refine List.forall_mem_cons.mpr ⟨snd_aload_n (by decide +kernel : decode cX7_readsItem 21 = .ok (.aload_n 0, 1)) rfl, ?_⟩
  refine List.forall_mem_cons.mpr ⟨snd_callV mok_129 wd_577 wd_580 wd_581 rfl rfl (by decide +kernel : decode cX7_readsItem 22 = .ok (.invokevirtual 103, 3)), ?_⟩
  refine List.forall_mem_cons.mpr ⟨snd_goto (by decide +kernel : decode cX7_readsItem 25 = .ok (.goto 34, 3)) (by decide +kernel), ?_⟩
  refine List.forall_mem_cons.mpr ⟨snd_iload_n (by decide +kernel : decode cX7_readsItem 28 = .ok (.iload_n 1, 1)) rfl, ?_⟩
  refine List.forall_mem_cons.mpr ⟨snd_bipush (by decide +kernel : decode cX7_readsItem 29 = .ok (.bipush 109, 2)) (by decide +kernel), ?_⟩
  refine List.forall_mem_cons.mpr ⟨snd_icmp_ne (by decide +kernel : decode cX7_readsItem 31 = .ok (.if_icmp .ne 10, 3)) (by decide +kernel), ?_⟩
  refine List.forall_mem_cons.mpr ⟨snd_aload_n (by decide +kernel : decode cX7_readsItem 34 = .ok (.aload_n 0, 1)) rfl, ?_⟩
  refine List.forall_mem_cons.mpr ⟨snd_callV mok_130 wd_582 wd_585 wd_586 rfl rfl (by decide +kernel : decode cX7_readsItem 35 = .ok (.invokevirtual 107, 3)), ?_⟩
  refine List.forall_mem_cons.mpr ⟨snd_goto (by decide +kernel : decode cX7_readsItem 38 = .ok (.goto 21, 3)) (by decide +kernel), ?_⟩
  refine List.forall_mem_cons.mpr ⟨snd_iload_n (by decide +kernel : decode cX7_readsItem 41 = .ok (.iload_n 1, 1)) rfl, ?_⟩
  refine List.forall_mem_cons.mpr ⟨snd_bipush (by decide +kernel : decode cX7_readsItem 42 = .ok (.bipush 113, 2)) (by decide +kernel), ?_⟩
  refine List.forall_mem_cons.mpr ⟨snd_icmp_ne (by decide +kernel : decode cX7_readsItem 44 = .ok (.if_icmp .ne 14, 3)) (by decide +kernel), ?_⟩
  refine List.forall_mem_cons.mpr ⟨snd_aload_n (by decide +kernel : decode cX7_readsItem 47 = .ok (.aload_n 0, 1)) rfl, ?_⟩
  refine List.forall_mem_cons.mpr ⟨snd_callV mok_131 wd_587 wd_590 wd_591 rfl rfl (by decide +kernel : decode cX7_readsItem 48 = .ok (.invokevirtual 110, 3)), ?_⟩
  refine List.forall_mem_cons.mpr ⟨snd_if_eq (by decide +kernel : decode cX7_readsItem 51 = .ok (.ifCond .eq 7, 3)) (by decide +kernel), ?_⟩
  refine List.forall_mem_cons.mpr ⟨snd_iconst (by decide +kernel : decode cX7_readsItem 54 = .ok (.iconst 1, 1)) (by decide +kernel), ?_⟩
  refine List.forall_mem_cons.mpr ⟨snd_goto (by decide +kernel : decode cX7_readsItem 55 = .ok (.goto 4, 3)) (by decide +kernel), ?_⟩
  refine List.forall_mem_cons.mpr ⟨snd_iconst (by decide +kernel : decode cX7_readsItem 58 = .ok (.iconst 0, 1)) (by decide +kernel), ?_⟩
  refine List.forall_mem_cons.mpr ⟨snd_zret (by decide +kernel : decode cX7_readsItem 59 = .ok (.ireturn, 1)), ?_⟩
  exact fun _ h => absurd h List.not_mem_nil
theorem m_X7_readsItem : ∀ q ∈ k_X7_readsItem, Mono q.2 := by
  unfold k_X7_readsItem
  refine List.forall_mem_cons.mpr ⟨mo_aload _ _, ?_⟩
  refine List.forall_mem_cons.mpr ⟨mo_call _ _ _, ?_⟩
  refine List.forall_mem_cons.mpr ⟨mo_istore _ _, ?_⟩
  refine List.forall_mem_cons.mpr ⟨mo_aload _ _, ?_⟩
  refine List.forall_mem_cons.mpr ⟨mo_dup, ?_⟩
  refine List.forall_mem_cons.mpr ⟨mo_get _ _, ?_⟩
  refine List.forall_mem_cons.mpr ⟨mo_push _ _, ?_⟩
  refine List.forall_mem_cons.mpr ⟨mo_bin _, ?_⟩
  refine List.forall_mem_cons.mpr ⟨mo_put _ _, ?_⟩
  refine List.forall_mem_cons.mpr ⟨mo_iload _ _, ?_⟩
  refine List.forall_mem_cons.mpr ⟨mo_push _ _, ?_⟩
  refine List.forall_mem_cons.mpr ⟨mo_icmp _ _ _, ?_⟩
  refine List.forall_mem_cons.mpr ⟨mo_aload _ _, ?_⟩
  refine List.forall_mem_cons.mpr ⟨mo_call _ _ _, ?_⟩
  refine List.forall_mem_cons.mpr ⟨mo_goto _, ?_⟩
  refine List.forall_mem_cons.mpr ⟨mo_iload _ _, ?_⟩
  refine List.forall_mem_cons.mpr ⟨mo_push _ _, ?_⟩
  refine List.forall_mem_cons.mpr ⟨mo_icmp _ _ _, ?_⟩
  refine List.forall_mem_cons.mpr ⟨mo_aload _ _, ?_⟩
  refine List.forall_mem_cons.mpr ⟨mo_call _ _ _, ?_⟩
  refine List.forall_mem_cons.mpr ⟨mo_goto _, ?_⟩
  refine List.forall_mem_cons.mpr ⟨mo_iload _ _, ?_⟩
  refine List.forall_mem_cons.mpr ⟨mo_push _ _, ?_⟩
  refine List.forall_mem_cons.mpr ⟨mo_icmp _ _ _, ?_⟩
  refine List.forall_mem_cons.mpr ⟨mo_aload _ _, ?_⟩
  refine List.forall_mem_cons.mpr ⟨mo_call _ _ _, ?_⟩
  refine List.forall_mem_cons.mpr ⟨mo_if _ _ _, ?_⟩
  refine List.forall_mem_cons.mpr ⟨mo_push _ _, ?_⟩
  refine List.forall_mem_cons.mpr ⟨mo_goto _, ?_⟩
  refine List.forall_mem_cons.mpr ⟨mo_push _ _, ?_⟩
  refine List.forall_mem_cons.mpr ⟨mo_zret, ?_⟩
  exact fun _ h => absurd h List.not_mem_nil
def k_X7_fault : List (Nat × aI) := [
  (0, i_aload 0 1),
  (1, i_push (.int 0) 1),
  (2, i_put 7 13),
  (5, i_aload 0 1),
  (6, i_push (.int 0) 1),
  (7, i_put 7 14),
  (10, i_aload 0 1),
  (11, i_push (.int 0) 1),
  (12, i_put 7 15),
  (15, i_push (.int 0) 1),
  (16, i_istore 1 1),
  (17, i_iload 1 1),
  (18, i_push (.int 6) 2),
  (20, i_icmp (fun x y => x < y) 23 36),
  (23, i_aload 0 1),
  (24, i_get 7 18),
  (27, i_iload 1 1),
  (28, i_push (.int 0) 1),
  (29, i_iast),
  (30, i_iinc 1 1),
  (33, i_goto 17),
  (36, i_push (.int 0) 1),
  (37, i_istore 1 1),
  (38, i_iload 1 1),
  (39, i_push (.int 5) 1),
  (40, i_icmp (fun x y => x < y) 43 57),
  (43, i_aload 0 1),
  (44, i_get 7 19),
  (47, i_iload 1 1),
  (48, i_push (.int (-4)) 2),
  (50, i_iast),
  (51, i_iinc 1 1),
  (54, i_goto 38),
  (57, i_aload 0 1),
  (58, i_get 7 13),
  (61, i_aload 0 1),
  (62, i_get 7 12),
  (65, i_icmp (fun x y => x < y) 68 85),
  (68, i_aload 0 1),
  (69, i_get 7 13),
  (72, i_istore 1 1),
  (73, i_aload 0 1),
  (74, i_callV 132 1 7),
  (77, i_if (fun x => x = 0) 80 82),
  (80, i_iload 1 1),
  (81, i_iret),
  (82, i_goto 57),
  (85, i_push (.int (-4)) 2),
  (87, i_iret)]
theorem s_X7_fault : ∀ q ∈ k_X7_fault, Snd RX7 cX7_fault (some .int) false q.1 q.2 := by
  unfold k_X7_fault
  refine List.forall_mem_cons.mpr ⟨snd_aload_n (by decide +kernel : decode cX7_fault 0 = .ok (.aload_n 0, 1)) rfl, ?_⟩
  refine List.forall_mem_cons.mpr ⟨snd_iconst (by decide +kernel : decode cX7_fault 1 = .ok (.iconst 0, 1)) (by decide +kernel), ?_⟩
  refine List.forall_mem_cons.mpr ⟨snd_put fl_7_82 (by decide +kernel : decode cX7_fault 2 = .ok (.putfield 82, 3)), ?_⟩
  refine List.forall_mem_cons.mpr ⟨snd_aload_n (by decide +kernel : decode cX7_fault 5 = .ok (.aload_n 0, 1)) rfl, ?_⟩
  refine List.forall_mem_cons.mpr ⟨snd_iconst (by decide +kernel : decode cX7_fault 6 = .ok (.iconst 0, 1)) (by decide +kernel), ?_⟩
  refine List.forall_mem_cons.mpr ⟨snd_put fl_7_89 (by decide +kernel : decode cX7_fault 7 = .ok (.putfield 89, 3)), ?_⟩
  refine List.forall_mem_cons.mpr ⟨snd_aload_n (by decide +kernel : decode cX7_fault 10 = .ok (.aload_n 0, 1)) rfl, ?_⟩
  refine List.forall_mem_cons.mpr ⟨snd_iconst (by decide +kernel : decode cX7_fault 11 = .ok (.iconst 0, 1)) (by decide +kernel), ?_⟩
  refine List.forall_mem_cons.mpr ⟨snd_put fl_7_100 (by decide +kernel : decode cX7_fault 12 = .ok (.putfield 100, 3)), ?_⟩
  refine List.forall_mem_cons.mpr ⟨snd_iconst (by decide +kernel : decode cX7_fault 15 = .ok (.iconst 0, 1)) (by decide +kernel), ?_⟩
  refine List.forall_mem_cons.mpr ⟨snd_istore_n (by decide +kernel : decode cX7_fault 16 = .ok (.istore_n 1, 1)) rfl, ?_⟩
  refine List.forall_mem_cons.mpr ⟨snd_iload_n (by decide +kernel : decode cX7_fault 17 = .ok (.iload_n 1, 1)) rfl, ?_⟩
  refine List.forall_mem_cons.mpr ⟨snd_bipush (by decide +kernel : decode cX7_fault 18 = .ok (.bipush 6, 2)) (by decide +kernel), ?_⟩
  refine List.forall_mem_cons.mpr ⟨snd_icmp_ge (by decide +kernel : decode cX7_fault 20 = .ok (.if_icmp .ge 16, 3)) (by decide +kernel), ?_⟩
  refine List.forall_mem_cons.mpr ⟨snd_aload_n (by decide +kernel : decode cX7_fault 23 = .ok (.aload_n 0, 1)) rfl, ?_⟩
  refine List.forall_mem_cons.mpr ⟨snd_get fl_7_40 (by decide +kernel : decode cX7_fault 24 = .ok (.getfield 40, 3)), ?_⟩
  refine List.forall_mem_cons.mpr ⟨snd_iload_n (by decide +kernel : decode cX7_fault 27 = .ok (.iload_n 1, 1)) rfl, ?_⟩
  refine List.forall_mem_cons.mpr ⟨snd_iconst (by decide +kernel : decode cX7_fault 28 = .ok (.iconst 0, 1)) (by decide +kernel), ?_⟩
  refine List.forall_mem_cons.mpr ⟨snd_iast (by decide +kernel : decode cX7_fault 29 = .ok (.iastore, 1)), ?_⟩
  refine List.forall_mem_cons.mpr ⟨snd_iinc (by decide +kernel : decode cX7_fault 30 = .ok (.iinc 1 1, 3)) (by decide +kernel), ?_⟩
  refine List.forall_mem_cons.mpr ⟨snd_goto (by decide +kernel : decode cX7_fault 33 = .ok (.goto (-16), 3)) (by decide +kernel), ?_⟩
  refine List.forall_mem_cons.mpr ⟨snd_iconst (by decide +kernel : decode cX7_fault 36 = .ok (.iconst 0, 1)) (by decide +kernel), ?_⟩
  refine List.forall_mem_cons.mpr ⟨snd_istore_n (by decide +kernel : decode cX7_fault 37 = .ok (.istore_n 1, 1)) rfl, ?_⟩
  refine List.forall_mem_cons.mpr ⟨snd_iload_n (by decide +kernel : decode cX7_fault 38 = .ok (.iload_n 1, 1)) rfl, ?_⟩
  refine List.forall_mem_cons.mpr ⟨snd_iconst (by decide +kernel : decode cX7_fault 39 = .ok (.iconst 5, 1)) (by decide +kernel), ?_⟩
  refine List.forall_mem_cons.mpr ⟨snd_icmp_ge (by decide +kernel : decode cX7_fault 40 = .ok (.if_icmp .ge 17, 3)) (by decide +kernel), ?_⟩
  refine List.forall_mem_cons.mpr ⟨snd_aload_n (by decide +kernel : decode cX7_fault 43 = .ok (.aload_n 0, 1)) rfl, ?_⟩
  refine List.forall_mem_cons.mpr ⟨snd_get fl_7_43 (by decide +kernel : decode cX7_fault 44 = .ok (.getfield 43, 3)), ?_⟩
  refine List.forall_mem_cons.mpr ⟨snd_iload_n (by decide +kernel : decode cX7_fault 47 = .ok (.iload_n 1, 1)) rfl, ?_⟩
  refine List.forall_mem_cons.mpr ⟨snd_bipush (by decide +kernel : decode cX7_fault 48 = .ok (.bipush (-4), 2)) (by decide +kernel), ?_⟩
  refine List.forall_mem_cons.mpr ⟨snd_iast (by decide +kernel : decode cX7_fault 50 = .ok (.iastore, 1)), ?_⟩
  refine List.forall_mem_cons.mpr ⟨snd_iinc (by decide +kernel : decode cX7_fault 51 = .ok (.iinc 1 1, 3)) (by decide +kernel), ?_⟩
  refine List.forall_mem_cons.mpr ⟨snd_goto (by decide +kernel : decode cX7_fault 54 = .ok (.goto (-16), 3)) (by decide +kernel), ?_⟩
  refine List.forall_mem_cons.mpr ⟨snd_aload_n (by decide +kernel : decode cX7_fault 57 = .ok (.aload_n 0, 1)) rfl, ?_⟩
  refine List.forall_mem_cons.mpr ⟨snd_get fl_7_82 (by decide +kernel : decode cX7_fault 58 = .ok (.getfield 82, 3)), ?_⟩
  refine List.forall_mem_cons.mpr ⟨snd_aload_n (by decide +kernel : decode cX7_fault 61 = .ok (.aload_n 0, 1)) rfl, ?_⟩
  refine List.forall_mem_cons.mpr ⟨snd_get fl_7_79 (by decide +kernel : decode cX7_fault 62 = .ok (.getfield 79, 3)), ?_⟩
  refine List.forall_mem_cons.mpr ⟨snd_icmp_ge (by decide +kernel : decode cX7_fault 65 = .ok (.if_icmp .ge 20, 3)) (by decide +kernel), ?_⟩
  refine List.forall_mem_cons.mpr ⟨snd_aload_n (by decide +kernel : decode cX7_fault 68 = .ok (.aload_n 0, 1)) rfl, ?_⟩
  refine List.forall_mem_cons.mpr ⟨snd_get fl_7_82 (by decide +kernel : decode cX7_fault 69 = .ok (.getfield 82, 3)), ?_⟩
  refine List.forall_mem_cons.mpr ⟨snd_istore_n (by decide +kernel : decode cX7_fault 72 = .ok (.istore_n 1, 1)) rfl, ?_⟩
  refine List.forall_mem_cons.mpr ⟨snd_aload_n (by decide +kernel : decode cX7_fault 73 = .ok (.aload_n 0, 1)) rfl, ?_⟩
  refine List.forall_mem_cons.mpr ⟨snd_callV mok_132 wd_592 wd_595 wd_596 rfl rfl (by decide +kernel : decode cX7_fault 74 = .ok (.invokevirtual 113, 3)), ?_⟩
  refine List.forall_mem_cons.mpr ⟨snd_if_ne (by decide +kernel : decode cX7_fault 77 = .ok (.ifCond .ne 5, 3)) (by decide +kernel), ?_⟩
  refine List.forall_mem_cons.mpr ⟨snd_iload_n (by decide +kernel : decode cX7_fault 80 = .ok (.iload_n 1, 1)) rfl, ?_⟩
  refine List.forall_mem_cons.mpr ⟨snd_iret (by decide +kernel : decode cX7_fault 81 = .ok (.ireturn, 1)), ?_⟩
  refine List.forall_mem_cons.mpr ⟨snd_goto (by decide +kernel : decode cX7_fault 82 = .ok (.goto (-25), 3)) (by decide +kernel), ?_⟩
  refine List.forall_mem_cons.mpr ⟨snd_bipush (by decide +kernel : decode cX7_fault 85 = .ok (.bipush (-4), 2)) (by decide +kernel), ?_⟩
  refine List.forall_mem_cons.mpr ⟨snd_iret (by decide +kernel : decode cX7_fault 87 = .ok (.ireturn, 1)), ?_⟩
  exact fun _ h => absurd h List.not_mem_nil
theorem m_X7_fault : ∀ q ∈ k_X7_fault, Mono q.2 := by
  unfold k_X7_fault
  refine List.forall_mem_cons.mpr ⟨mo_aload _ _, ?_⟩
  refine List.forall_mem_cons.mpr ⟨mo_push _ _, ?_⟩
  refine List.forall_mem_cons.mpr ⟨mo_put _ _, ?_⟩
  refine List.forall_mem_cons.mpr ⟨mo_aload _ _, ?_⟩
  refine List.forall_mem_cons.mpr ⟨mo_push _ _, ?_⟩
  refine List.forall_mem_cons.mpr ⟨mo_put _ _, ?_⟩
  refine List.forall_mem_cons.mpr ⟨mo_aload _ _, ?_⟩
  refine List.forall_mem_cons.mpr ⟨mo_push _ _, ?_⟩
  refine List.forall_mem_cons.mpr ⟨mo_put _ _, ?_⟩
  refine List.forall_mem_cons.mpr ⟨mo_push _ _, ?_⟩
  refine List.forall_mem_cons.mpr ⟨mo_istore _ _, ?_⟩
  refine List.forall_mem_cons.mpr ⟨mo_iload _ _, ?_⟩
  refine List.forall_mem_cons.mpr ⟨mo_push _ _, ?_⟩
  refine List.forall_mem_cons.mpr ⟨mo_icmp _ _ _, ?_⟩
  refine List.forall_mem_cons.mpr ⟨mo_aload _ _, ?_⟩
  refine List.forall_mem_cons.mpr ⟨mo_get _ _, ?_⟩
  refine List.forall_mem_cons.mpr ⟨mo_iload _ _, ?_⟩
  refine List.forall_mem_cons.mpr ⟨mo_push _ _, ?_⟩
  refine List.forall_mem_cons.mpr ⟨mo_iast, ?_⟩
  refine List.forall_mem_cons.mpr ⟨mo_iinc _ _, ?_⟩
  refine List.forall_mem_cons.mpr ⟨mo_goto _, ?_⟩
  refine List.forall_mem_cons.mpr ⟨mo_push _ _, ?_⟩
  refine List.forall_mem_cons.mpr ⟨mo_istore _ _, ?_⟩
  refine List.forall_mem_cons.mpr ⟨mo_iload _ _, ?_⟩
  refine List.forall_mem_cons.mpr ⟨mo_push _ _, ?_⟩
  refine List.forall_mem_cons.mpr ⟨mo_icmp _ _ _, ?_⟩
  refine List.forall_mem_cons.mpr ⟨mo_aload _ _, ?_⟩
  refine List.forall_mem_cons.mpr ⟨mo_get _ _, ?_⟩
  refine List.forall_mem_cons.mpr ⟨mo_iload _ _, ?_⟩
  refine List.forall_mem_cons.mpr ⟨mo_push _ _, ?_⟩
  refine List.forall_mem_cons.mpr ⟨mo_iast, ?_⟩
  refine List.forall_mem_cons.mpr ⟨mo_iinc _ _, ?_⟩
  refine List.forall_mem_cons.mpr ⟨mo_goto _, ?_⟩
  refine List.forall_mem_cons.mpr ⟨mo_aload _ _, ?_⟩
  refine List.forall_mem_cons.mpr ⟨mo_get _ _, ?_⟩
  refine List.forall_mem_cons.mpr ⟨mo_aload _ _, ?_⟩
  refine List.forall_mem_cons.mpr ⟨mo_get _ _, ?_⟩
  refine List.forall_mem_cons.mpr ⟨mo_icmp _ _ _, ?_⟩
  refine List.forall_mem_cons.mpr ⟨mo_aload _ _, ?_⟩
  refine List.forall_mem_cons.mpr ⟨mo_get _ _, ?_⟩
  refine List.forall_mem_cons.mpr ⟨mo_istore _ _, ?_⟩
  refine List.forall_mem_cons.mpr ⟨mo_aload _ _, ?_⟩
  refine List.forall_mem_cons.mpr ⟨mo_call _ _ _, ?_⟩
  refine List.forall_mem_cons.mpr ⟨mo_if _ _ _, ?_⟩
  refine List.forall_mem_cons.mpr ⟨mo_iload _ _, ?_⟩
  refine List.forall_mem_cons.mpr ⟨mo_iret, ?_⟩
  refine List.forall_mem_cons.mpr ⟨mo_goto _, ?_⟩
  refine List.forall_mem_cons.mpr ⟨mo_push _ _, ?_⟩
  refine List.forall_mem_cons.mpr ⟨mo_iret, ?_⟩
  exact fun _ h => absurd h List.not_mem_nil
