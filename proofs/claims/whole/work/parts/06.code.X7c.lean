def k_X7_pass : List (Nat × aI) := [
  (0, i_iload 1 1),
  (1, i_push (.int 1) 1),
  (2, i_push (.int 20) 2),
  (4, i_callS 117 3),
  (7, i_if (fun x => x = 0) 10 12),
  (10, i_push (.int (-1)) 1),
  (11, i_iret),
  (12, i_aload 0 1),
  (13, i_get 7 3),
  (16, i_iload 1 1),
  (17, i_bin (fun x y => x + y)),
  (18, i_push (.int 999) 3),
  (21, i_icmp (fun x y => y < x) 24 27),
  (24, i_push (.int (-2)) 2),
  (26, i_iret),
  (27, i_aload 0 1),
  (28, i_callV 146 1 7),
  (31, i_aload 0 1),
  (32, i_iload 1 1),
  (33, i_callV 140 2 7),
  (36, i_aload 0 1),
  (37, i_get 7 3),
  (40, i_iret)]
theorem s_X7_pass : ∀ q ∈ k_X7_pass, Snd RX7 cX7_pass (some .int) false q.1 q.2 := by
  unfold k_X7_pass
  refine List.forall_mem_cons.mpr ⟨snd_iload_n (by decide +kernel : decode cX7_pass 0 = .ok (.iload_n 1, 1)) rfl, ?_⟩
  refine List.forall_mem_cons.mpr ⟨snd_iconst (by decide +kernel : decode cX7_pass 1 = .ok (.iconst 1, 1)) (by decide +kernel), ?_⟩
  refine List.forall_mem_cons.mpr ⟨snd_bipush (by decide +kernel : decode cX7_pass 2 = .ok (.bipush 20, 2)) (by decide +kernel), ?_⟩
  refine List.forall_mem_cons.mpr ⟨snd_callS mok_117 wd_554 wd_557 (by decide +kernel : decode cX7_pass 4 = .ok (.invokestatic 75, 3)), ?_⟩
  refine List.forall_mem_cons.mpr ⟨snd_if_ne (by decide +kernel : decode cX7_pass 7 = .ok (.ifCond .ne 5, 3)) (by decide +kernel), ?_⟩
  refine List.forall_mem_cons.mpr ⟨snd_iconst (by decide +kernel : decode cX7_pass 10 = .ok (.iconst (-1), 1)) (by decide +kernel), ?_⟩
  refine List.forall_mem_cons.mpr ⟨snd_iret (by decide +kernel : decode cX7_pass 11 = .ok (.ireturn, 1)), ?_⟩
  refine List.forall_mem_cons.mpr ⟨snd_aload_n (by decide +kernel : decode cX7_pass 12 = .ok (.aload_n 0, 1)) rfl, ?_⟩
  refine List.forall_mem_cons.mpr ⟨snd_get fl_7_119 (by decide +kernel : decode cX7_pass 13 = .ok (.getfield 119, 3)), ?_⟩
  refine List.forall_mem_cons.mpr ⟨snd_iload_n (by decide +kernel : decode cX7_pass 16 = .ok (.iload_n 1, 1)) rfl, ?_⟩
  refine List.forall_mem_cons.mpr ⟨snd_iadd (by decide +kernel : decode cX7_pass 17 = .ok (.iadd, 1)), ?_⟩
  refine List.forall_mem_cons.mpr ⟨snd_sipush (by decide +kernel : decode cX7_pass 18 = .ok (.sipush 999, 3)) (by decide +kernel), ?_⟩
  refine List.forall_mem_cons.mpr ⟨snd_icmp_le (by decide +kernel : decode cX7_pass 21 = .ok (.if_icmp .le 6, 3)) (by decide +kernel), ?_⟩
  refine List.forall_mem_cons.mpr ⟨snd_bipush (by decide +kernel : decode cX7_pass 24 = .ok (.bipush (-2), 2)) (by decide +kernel), ?_⟩
  refine List.forall_mem_cons.mpr ⟨snd_iret (by decide +kernel : decode cX7_pass 26 = .ok (.ireturn, 1)), ?_⟩
  refine List.forall_mem_cons.mpr ⟨snd_aload_n (by decide +kernel : decode cX7_pass 27 = .ok (.aload_n 0, 1)) rfl, ?_⟩
  refine List.forall_mem_cons.mpr ⟨snd_callV mok_146 wd_631 wd_634 wd_635 rfl rfl (by decide +kernel : decode cX7_pass 28 = .ok (.invokevirtual 148, 3)), ?_⟩
  refine List.forall_mem_cons.mpr ⟨snd_aload_n (by decide +kernel : decode cX7_pass 31 = .ok (.aload_n 0, 1)) rfl, ?_⟩
  refine List.forall_mem_cons.mpr ⟨snd_iload_n (by decide +kernel : decode cX7_pass 32 = .ok (.iload_n 1, 1)) rfl, ?_⟩
  refine List.forall_mem_cons.mpr ⟨snd_callV mok_140 wd_636 wd_639 wd_640 rfl rfl (by decide +kernel : decode cX7_pass 33 = .ok (.invokevirtual 151, 3)), ?_⟩
  refine List.forall_mem_cons.mpr ⟨snd_aload_n (by decide +kernel : decode cX7_pass 36 = .ok (.aload_n 0, 1)) rfl, ?_⟩
  refine List.forall_mem_cons.mpr ⟨snd_get fl_7_119 (by decide +kernel : decode cX7_pass 37 = .ok (.getfield 119, 3)), ?_⟩
  refine List.forall_mem_cons.mpr ⟨snd_iret (by decide +kernel : decode cX7_pass 40 = .ok (.ireturn, 1)), ?_⟩
  exact fun _ h => absurd h List.not_mem_nil
theorem m_X7_pass : ∀ q ∈ k_X7_pass, Mono q.2 := by
  unfold k_X7_pass
  refine List.forall_mem_cons.mpr ⟨mo_iload _ _, ?_⟩
  refine List.forall_mem_cons.mpr ⟨mo_push _ _, ?_⟩
  refine List.forall_mem_cons.mpr ⟨mo_push _ _, ?_⟩
  refine List.forall_mem_cons.mpr ⟨mo_call _ _ _, ?_⟩
  refine List.forall_mem_cons.mpr ⟨mo_if _ _ _, ?_⟩
  refine List.forall_mem_cons.mpr ⟨mo_push _ _, ?_⟩
  refine List.forall_mem_cons.mpr ⟨mo_iret, ?_⟩
  refine List.forall_mem_cons.mpr ⟨mo_aload _ _, ?_⟩
  refine List.forall_mem_cons.mpr ⟨mo_get _ _, ?_⟩
  refine List.forall_mem_cons.mpr ⟨mo_iload _ _, ?_⟩
  refine List.forall_mem_cons.mpr ⟨mo_bin _, ?_⟩
  refine List.forall_mem_cons.mpr ⟨mo_push _ _, ?_⟩
  refine List.forall_mem_cons.mpr ⟨mo_icmp _ _ _, ?_⟩
  refine List.forall_mem_cons.mpr ⟨mo_push _ _, ?_⟩
  refine List.forall_mem_cons.mpr ⟨mo_iret, ?_⟩
  refine List.forall_mem_cons.mpr ⟨mo_aload _ _, ?_⟩
  refine List.forall_mem_cons.mpr ⟨mo_call _ _ _, ?_⟩
  refine List.forall_mem_cons.mpr ⟨mo_aload _ _, ?_⟩
  refine List.forall_mem_cons.mpr ⟨mo_iload _ _, ?_⟩
  refine List.forall_mem_cons.mpr ⟨mo_call _ _ _, ?_⟩
  refine List.forall_mem_cons.mpr ⟨mo_aload _ _, ?_⟩
  refine List.forall_mem_cons.mpr ⟨mo_get _ _, ?_⟩
  refine List.forall_mem_cons.mpr ⟨mo_iret, ?_⟩
  exact fun _ h => absurd h List.not_mem_nil
def k_X7_pin : List (Nat × aI) := [
  (0, i_aload 0 1),
  (1, i_iload 1 1),
  (2, i_callV 122 2 7),
  (5, i_if (fun x => x = 0) 26 8),
  (8, i_aload 0 1),
  (9, i_iload 2 1),
  (10, i_callV 123 2 7),
  (13, i_if (fun x => x = 0) 26 16),
  (16, i_iload 3 1),
  (17, i_push (.int 0) 1),
  (18, i_push (.int 9) 2),
  (20, i_callS 117 3),
  (23, i_if (fun x => x = 0) 26 28),
  (26, i_push (.int (-1)) 1),
  (27, i_iret),
  (28, i_aload 0 1),
  (29, i_get 7 4),
  (32, i_push (.int 5) 1),
  (33, i_iload 1 1),
  (34, i_bin (fun x y => x * y)),
  (35, i_iload 2 1),
  (36, i_bin (fun x y => x + y)),
  (37, i_iald),
  (38, i_istore 4 2),
  (40, i_iload 4 2),
  (42, i_iload 3 1),
  (43, i_icmp (fun x y => x = y) 46 49),
  (46, i_push (.int (-2)) 2),
  (48, i_iret),
  (49, i_aload 0 1),
  (50, i_callV 146 1 7),
  (53, i_aload 0 1),
  (54, i_get 7 4),
  (57, i_push (.int 5) 1),
  (58, i_iload 1 1),
  (59, i_bin (fun x y => x * y)),
  (60, i_iload 2 1),
  (61, i_bin (fun x y => x + y)),
  (62, i_iload 3 1),
  (63, i_iast),
  (64, i_iload 4 2),
  (66, i_iret)]
theorem s_X7_pin : ∀ q ∈ k_X7_pin, Snd RX7 cX7_pin (some .int) false q.1 q.2 := by
  unfold k_X7_pin
  refine List.forall_mem_cons.mpr ⟨snd_aload_n (by decide +kernel : decode cX7_pin 0 = .ok (.aload_n 0, 1)) rfl, ?_⟩
  refine List.forall_mem_cons.mpr ⟨snd_iload_n (by decide +kernel : decode cX7_pin 1 = .ok (.iload_n 1, 1)) rfl, ?_⟩
  refine List.forall_mem_cons.mpr ⟨snd_callV mok_122 wd_606 wd_609 wd_610 rfl rfl (by decide +kernel : decode cX7_pin 2 = .ok (.invokevirtual 131, 3)), ?_⟩
  refine List.forall_mem_cons.mpr ⟨snd_if_eq (by decide +kernel : decode cX7_pin 5 = .ok (.ifCond .eq 21, 3)) (by decide +kernel), ?_⟩
  refine List.forall_mem_cons.mpr ⟨snd_aload_n (by decide +kernel : decode cX7_pin 8 = .ok (.aload_n 0, 1)) rfl, ?_⟩
  refine List.forall_mem_cons.mpr ⟨snd_iload_n (by decide +kernel : decode cX7_pin 9 = .ok (.iload_n 2, 1)) rfl, ?_⟩
  refine List.forall_mem_cons.mpr ⟨snd_callV mok_123 wd_611 wd_614 wd_615 rfl rfl (by decide +kernel : decode cX7_pin 10 = .ok (.invokevirtual 134, 3)), ?_⟩
  refine List.forall_mem_cons.mpr ⟨snd_if_eq (by decide +kernel : decode cX7_pin 13 = .ok (.ifCond .eq 13, 3)) (by decide +kernel), ?_⟩
  refine List.forall_mem_cons.mpr ⟨snd_iload_n (by decide +kernel : decode cX7_pin 16 = .ok (.iload_n 3, 1)) rfl, ?_⟩
  refine List.forall_mem_cons.mpr ⟨snd_iconst (by decide +kernel : decode cX7_pin 17 = .ok (.iconst 0, 1)) (by decide +kernel), ?_⟩
  refine List.forall_mem_cons.mpr ⟨snd_bipush (by decide +kernel : decode cX7_pin 18 = .ok (.bipush 9, 2)) (by decide +kernel), ?_⟩
  refine List.forall_mem_cons.mpr ⟨snd_callS mok_117 wd_554 wd_557 (by decide +kernel : decode cX7_pin 20 = .ok (.invokestatic 75, 3)), ?_⟩
  refine List.forall_mem_cons.mpr ⟨snd_if_ne (by decide +kernel : decode cX7_pin 23 = .ok (.ifCond .ne 5, 3)) (by decide +kernel), ?_⟩
  refine List.forall_mem_cons.mpr ⟨snd_iconst (by decide +kernel : decode cX7_pin 26 = .ok (.iconst (-1), 1)) (by decide +kernel), ?_⟩
  refine List.forall_mem_cons.mpr ⟨snd_iret (by decide +kernel : decode cX7_pin 27 = .ok (.ireturn, 1)), ?_⟩
  refine List.forall_mem_cons.mpr ⟨snd_aload_n (by decide +kernel : decode cX7_pin 28 = .ok (.aload_n 0, 1)) rfl, ?_⟩
  refine List.forall_mem_cons.mpr ⟨snd_get fl_7_13 (by decide +kernel : decode cX7_pin 29 = .ok (.getfield 13, 3)), ?_⟩
  refine List.forall_mem_cons.mpr ⟨snd_iconst (by decide +kernel : decode cX7_pin 32 = .ok (.iconst 5, 1)) (by decide +kernel), ?_⟩
  refine List.forall_mem_cons.mpr ⟨snd_iload_n (by decide +kernel : decode cX7_pin 33 = .ok (.iload_n 1, 1)) rfl, ?_⟩
  refine List.forall_mem_cons.mpr ⟨snd_imul (by decide +kernel : decode cX7_pin 34 = .ok (.imul, 1)), ?_⟩
  refine List.forall_mem_cons.mpr ⟨snd_iload_n (by decide +kernel : decode cX7_pin 35 = .ok (.iload_n 2, 1)) rfl, ?_⟩
  refine List.forall_mem_cons.mpr ⟨snd_iadd (by decide +kernel : decode cX7_pin 36 = .ok (.iadd, 1)), ?_⟩
  refine List.forall_mem_cons.mpr ⟨snd_iald (by decide +kernel : decode cX7_pin 37 = .ok (.iaload, 1)), ?_⟩
  refine List.forall_mem_cons.mpr ⟨snd_istore (by decide +kernel : decode cX7_pin 38 = .ok (.istore 4, 2)), ?_⟩
  refine List.forall_mem_cons.mpr ⟨snd_iload (by decide +kernel : decode cX7_pin 40 = .ok (.iload 4, 2)), ?_⟩
  refine List.forall_mem_cons.mpr ⟨snd_iload_n (by decide +kernel : decode cX7_pin 42 = .ok (.iload_n 3, 1)) rfl, ?_⟩
  refine List.forall_mem_cons.mpr ⟨snd_icmp_ne (by decide +kernel : decode cX7_pin 43 = .ok (.if_icmp .ne 6, 3)) (by decide +kernel), ?_⟩
  refine List.forall_mem_cons.mpr ⟨snd_bipush (by decide +kernel : decode cX7_pin 46 = .ok (.bipush (-2), 2)) (by decide +kernel), ?_⟩
  refine List.forall_mem_cons.mpr ⟨snd_iret (by decide +kernel : decode cX7_pin 48 = .ok (.ireturn, 1)), ?_⟩
  refine List.forall_mem_cons.mpr ⟨snd_aload_n (by decide +kernel : decode cX7_pin 49 = .ok (.aload_n 0, 1)) rfl, ?_⟩
  refine List.forall_mem_cons.mpr ⟨snd_callV mok_146 wd_631 wd_634 wd_635 rfl rfl (by decide +kernel : decode cX7_pin 50 = .ok (.invokevirtual 148, 3)), ?_⟩
  refine List.forall_mem_cons.mpr ⟨snd_aload_n (by decide +kernel : decode cX7_pin 53 = .ok (.aload_n 0, 1)) rfl, ?_⟩
  refine List.forall_mem_cons.mpr ⟨snd_get fl_7_13 (by decide +kernel : decode cX7_pin 54 = .ok (.getfield 13, 3)), ?_⟩
  refine List.forall_mem_cons.mpr ⟨snd_iconst (by decide +kernel : decode cX7_pin 57 = .ok (.iconst 5, 1)) (by decide +kernel), ?_⟩
  refine List.forall_mem_cons.mpr ⟨snd_iload_n (by decide +kernel : decode cX7_pin 58 = .ok (.iload_n 1, 1)) rfl, ?_⟩
  refine List.forall_mem_cons.mpr ⟨snd_imul (by decide +kernel : decode cX7_pin 59 = .ok (.imul, 1)), ?_⟩
  refine List.forall_mem_cons.mpr ⟨snd_iload_n (by decide +kernel : decode cX7_pin 60 = .ok (.iload_n 2, 1)) rfl, ?_⟩
  refine List.forall_mem_cons.mpr ⟨snd_iadd (by decide +kernel : decode cX7_pin 61 = .ok (.iadd, 1)), ?_⟩
  refine List.forall_mem_cons.mpr ⟨snd_iload_n (by decide +kernel : decode cX7_pin 62 = .ok (.iload_n 3, 1)) rfl, ?_⟩
  refine List.forall_mem_cons.mpr ⟨snd_iast (by decide +kernel : decode cX7_pin 63 = .ok (.iastore, 1)), ?_⟩
  refine List.forall_mem_cons.mpr ⟨snd_iload (by decide +kernel : decode cX7_pin 64 = .ok (.iload 4, 2)), ?_⟩
  refine List.forall_mem_cons.mpr ⟨snd_iret (by decide +kernel : decode cX7_pin 66 = .ok (.ireturn, 1)), ?_⟩
  exact fun _ h => absurd h List.not_mem_nil
theorem m_X7_pin : ∀ q ∈ k_X7_pin, Mono q.2 := by
  unfold k_X7_pin
  refine List.forall_mem_cons.mpr ⟨mo_aload _ _, ?_⟩
  refine List.forall_mem_cons.mpr ⟨mo_iload _ _, ?_⟩
  refine List.forall_mem_cons.mpr ⟨mo_call _ _ _, ?_⟩
  refine List.forall_mem_cons.mpr ⟨mo_if _ _ _, ?_⟩
  refine List.forall_mem_cons.mpr ⟨mo_aload _ _, ?_⟩
  refine List.forall_mem_cons.mpr ⟨mo_iload _ _, ?_⟩
  refine List.forall_mem_cons.mpr ⟨mo_call _ _ _, ?_⟩
  refine List.forall_mem_cons.mpr ⟨mo_if _ _ _, ?_⟩
  refine List.forall_mem_cons.mpr ⟨mo_iload _ _, ?_⟩
  refine List.forall_mem_cons.mpr ⟨mo_push _ _, ?_⟩
  refine List.forall_mem_cons.mpr ⟨mo_push _ _, ?_⟩
  refine List.forall_mem_cons.mpr ⟨mo_call _ _ _, ?_⟩
  refine List.forall_mem_cons.mpr ⟨mo_if _ _ _, ?_⟩
  refine List.forall_mem_cons.mpr ⟨mo_push _ _, ?_⟩
  refine List.forall_mem_cons.mpr ⟨mo_iret, ?_⟩
  refine List.forall_mem_cons.mpr ⟨mo_aload _ _, ?_⟩
  refine List.forall_mem_cons.mpr ⟨mo_get _ _, ?_⟩
  refine List.forall_mem_cons.mpr ⟨mo_push _ _, ?_⟩
  refine List.forall_mem_cons.mpr ⟨mo_iload _ _, ?_⟩
  refine List.forall_mem_cons.mpr ⟨mo_bin _, ?_⟩
  refine List.forall_mem_cons.mpr ⟨mo_iload _ _, ?_⟩
  refine List.forall_mem_cons.mpr ⟨mo_bin _, ?_⟩
  refine List.forall_mem_cons.mpr ⟨mo_iald, ?_⟩
  refine List.forall_mem_cons.mpr ⟨mo_istore _ _, ?_⟩
  refine List.forall_mem_cons.mpr ⟨mo_iload _ _, ?_⟩
  refine List.forall_mem_cons.mpr ⟨mo_iload _ _, ?_⟩
  refine List.forall_mem_cons.mpr ⟨mo_icmp _ _ _, ?_⟩
  refine List.forall_mem_cons.mpr ⟨mo_push _ _, ?_⟩
  refine List.forall_mem_cons.mpr ⟨mo_iret, ?_⟩
  refine List.forall_mem_cons.mpr ⟨mo_aload _ _, ?_⟩
  refine List.forall_mem_cons.mpr ⟨mo_call _ _ _, ?_⟩
  refine List.forall_mem_cons.mpr ⟨mo_aload _ _, ?_⟩
  refine List.forall_mem_cons.mpr ⟨mo_get _ _, ?_⟩
  refine List.forall_mem_cons.mpr ⟨mo_push _ _, ?_⟩
  refine List.forall_mem_cons.mpr ⟨mo_iload _ _, ?_⟩
  refine List.forall_mem_cons.mpr ⟨mo_bin _, ?_⟩
  refine List.forall_mem_cons.mpr ⟨mo_iload _ _, ?_⟩
  refine List.forall_mem_cons.mpr ⟨mo_bin _, ?_⟩
  refine List.forall_mem_cons.mpr ⟨mo_iload _ _, ?_⟩
  refine List.forall_mem_cons.mpr ⟨mo_iast, ?_⟩
  refine List.forall_mem_cons.mpr ⟨mo_iload _ _, ?_⟩
  refine List.forall_mem_cons.mpr ⟨mo_iret, ?_⟩
  exact fun _ h => absurd h List.not_mem_nil
def k_X7_sneezes : List (Nat × aI) := [
  (0, i_aload 0 1),
  (1, i_get 7 4),
  (4, i_push (.int 5) 1),
  (5, i_iload 1 1),
  (6, i_bin (fun x y => x * y)),
  (7, i_aload 0 1),
  (8, i_get 7 1),
  (11, i_bin (fun x y => x + y)),
  (12, i_push (.int 1) 1),
  (13, i_bin (fun x y => x - y)),
  (14, i_iald),
  (15, i_istore 2 1),
  (16, i_aload 0 1),
  (17, i_get 7 1),
  (20, i_push (.int 1) 1),
  (21, i_bin (fun x y => x - y)),
  (22, i_istore 3 1),
  (23, i_iload 3 1),
  (24, i_if (fun x => 0 < x) 27 55),
  (27, i_aload 0 1),
  (28, i_get 7 4),
  (31, i_push (.int 5) 1),
  (32, i_iload 1 1),
  (33, i_bin (fun x y => x * y)),
  (34, i_iload 3 1),
  (35, i_bin (fun x y => x + y)),
  (36, i_aload 0 1),
  (37, i_get 7 4),
  (40, i_push (.int 5) 1),
  (41, i_iload 1 1),
  (42, i_bin (fun x y => x * y)),
  (43, i_iload 3 1),
  (44, i_bin (fun x y => x + y)),
  (45, i_push (.int 1) 1),
  (46, i_bin (fun x y => x - y)),
  (47, i_iald),
  (48, i_iast),
  (49, i_iinc 3 (-1)),
  (52, i_goto 23),
  (55, i_aload 0 1),
  (56, i_get 7 4),
  (59, i_push (.int 5) 1),
  (60, i_iload 1 1),
  (61, i_bin (fun x y => x * y)),
  (62, i_iload 2 1),
  (63, i_iast),
  (64, i_vret)]
theorem s_X7_sneezes : ∀ q ∈ k_X7_sneezes, Snd RX7 cX7_sneezes none false q.1 q.2 := by
  unfold k_X7_sneezes
  refine List.forall_mem_cons.mpr ⟨snd_aload_n (by decide +kernel : decode cX7_sneezes 0 = .ok (.aload_n 0, 1)) rfl, ?_⟩
  refine List.forall_mem_cons.mpr ⟨snd_get fl_7_13 (by decide +kernel : decode cX7_sneezes 1 = .ok (.getfield 13, 3)), ?_⟩
  refine List.forall_mem_cons.mpr ⟨snd_iconst (by decide +kernel : decode cX7_sneezes 4 = .ok (.iconst 5, 1)) (by decide +kernel), ?_⟩
  refine List.forall_mem_cons.mpr ⟨snd_iload_n (by decide +kernel : decode cX7_sneezes 5 = .ok (.iload_n 1, 1)) rfl, ?_⟩
  refine List.forall_mem_cons.mpr ⟨snd_imul (by decide +kernel : decode cX7_sneezes 6 = .ok (.imul, 1)), ?_⟩
  refine List.forall_mem_cons.mpr ⟨snd_aload_n (by decide +kernel : decode cX7_sneezes 7 = .ok (.aload_n 0, 1)) rfl, ?_⟩
  refine List.forall_mem_cons.mpr ⟨snd_get fl_7_64 (by decide +kernel : decode cX7_sneezes 8 = .ok (.getfield 64, 3)), ?_⟩
  refine List.forall_mem_cons.mpr ⟨snd_iadd (by decide +kernel : decode cX7_sneezes 11 = .ok (.iadd, 1)), ?_⟩
  refine List.forall_mem_cons.mpr ⟨snd_iconst (by decide +kernel : decode cX7_sneezes 12 = .ok (.iconst 1, 1)) (by decide +kernel), ?_⟩
  refine List.forall_mem_cons.mpr ⟨snd_isub (by decide +kernel : decode cX7_sneezes 13 = .ok (.isub, 1)), ?_⟩
  refine List.forall_mem_cons.mpr ⟨snd_iald (by decide +kernel : decode cX7_sneezes 14 = .ok (.iaload, 1)), ?_⟩
  refine List.forall_mem_cons.mpr ⟨snd_istore_n (by decide +kernel : decode cX7_sneezes 15 = .ok (.istore_n 2, 1)) rfl, ?_⟩
  refine List.forall_mem_cons.mpr ⟨snd_aload_n (by decide +kernel : decode cX7_sneezes 16 = .ok (.aload_n 0, 1)) rfl, ?_⟩
  refine List.forall_mem_cons.mpr ⟨snd_get fl_7_64 (by decide +kernel : decode cX7_sneezes 17 = .ok (.getfield 64, 3)), ?_⟩
  refine List.forall_mem_cons.mpr ⟨snd_iconst (by decide +kernel : decode cX7_sneezes 20 = .ok (.iconst 1, 1)) (by decide +kernel), ?_⟩
  refine List.forall_mem_cons.mpr ⟨snd_isub (by decide +kernel : decode cX7_sneezes 21 = .ok (.isub, 1)), ?_⟩
  refine List.forall_mem_cons.mpr ⟨snd_istore_n (by decide +kernel : decode cX7_sneezes 22 = .ok (.istore_n 3, 1)) rfl, ?_⟩
  refine List.forall_mem_cons.mpr ⟨snd_iload_n (by decide +kernel : decode cX7_sneezes 23 = .ok (.iload_n 3, 1)) rfl, ?_⟩
  refine List.forall_mem_cons.mpr ⟨snd_if_le (by decide +kernel : decode cX7_sneezes 24 = .ok (.ifCond .le 31, 3)) (by decide +kernel), ?_⟩
  refine List.forall_mem_cons.mpr ⟨snd_aload_n (by decide +kernel : decode cX7_sneezes 27 = .ok (.aload_n 0, 1)) rfl, ?_⟩
  refine List.forall_mem_cons.mpr ⟨snd_get fl_7_13 (by decide +kernel : decode cX7_sneezes 28 = .ok (.getfield 13, 3)), ?_⟩
  refine List.forall_mem_cons.mpr ⟨snd_iconst (by decide +kernel : decode cX7_sneezes 31 = .ok (.iconst 5, 1)) (by decide +kernel), ?_⟩
  refine List.forall_mem_cons.mpr ⟨snd_iload_n (by decide +kernel : decode cX7_sneezes 32 = .ok (.iload_n 1, 1)) rfl, ?_⟩
  refine List.forall_mem_cons.mpr ⟨snd_imul (by decide +kernel : decode cX7_sneezes 33 = .ok (.imul, 1)), ?_⟩
  refine List.forall_mem_cons.mpr ⟨snd_iload_n (by decide +kernel : decode cX7_sneezes 34 = .ok (.iload_n 3, 1)) rfl, ?_⟩
  refine List.forall_mem_cons.mpr ⟨snd_iadd (by decide +kernel : decode cX7_sneezes 35 = .ok (.iadd, 1)), ?_⟩
  refine List.forall_mem_cons.mpr ⟨snd_aload_n (by decide +kernel : decode cX7_sneezes 36 = .ok (.aload_n 0, 1)) rfl, ?_⟩
  refine List.forall_mem_cons.mpr ⟨snd_get fl_7_13 (by decide +kernel : decode cX7_sneezes 37 = .ok (.getfield 13, 3)), ?_⟩
  refine List.forall_mem_cons.mpr ⟨snd_iconst (by decide +kernel : decode cX7_sneezes 40 = .ok (.iconst 5, 1)) (by decide +kernel), ?_⟩
  refine List.forall_mem_cons.mpr ⟨snd_iload_n (by decide +kernel : decode cX7_sneezes 41 = .ok (.iload_n 1, 1)) rfl, ?_⟩
  refine List.forall_mem_cons.mpr ⟨snd_imul (by decide +kernel : decode cX7_sneezes 42 = .ok (.imul, 1)), ?_⟩
  refine List.forall_mem_cons.mpr ⟨snd_iload_n (by decide +kernel : decode cX7_sneezes 43 = .ok (.iload_n 3, 1)) rfl, ?_⟩
  refine List.forall_mem_cons.mpr ⟨snd_iadd (by decide +kernel : decode cX7_sneezes 44 = .ok (.iadd, 1)), ?_⟩
  refine List.forall_mem_cons.mpr ⟨snd_iconst (by decide +kernel : decode cX7_sneezes 45 = .ok (.iconst 1, 1)) (by decide +kernel), ?_⟩
  refine List.forall_mem_cons.mpr ⟨snd_isub (by decide +kernel : decode cX7_sneezes 46 = .ok (.isub, 1)), ?_⟩
  refine List.forall_mem_cons.mpr ⟨snd_iald (by decide +kernel : decode cX7_sneezes 47 = .ok (.iaload, 1)), ?_⟩
  refine List.forall_mem_cons.mpr ⟨snd_iast (by decide +kernel : decode cX7_sneezes 48 = .ok (.iastore, 1)), ?_⟩
  refine List.forall_mem_cons.mpr ⟨snd_iinc (by decide +kernel : decode cX7_sneezes 49 = .ok (.iinc 3 (-1), 3)) (by decide +kernel), ?_⟩
  refine List.forall_mem_cons.mpr ⟨snd_goto (by decide +kernel : decode cX7_sneezes 52 = .ok (.goto (-29), 3)) (by decide +kernel), ?_⟩
  refine List.forall_mem_cons.mpr ⟨snd_aload_n (by decide +kernel : decode cX7_sneezes 55 = .ok (.aload_n 0, 1)) rfl, ?_⟩
  refine List.forall_mem_cons.mpr ⟨snd_get fl_7_13 (by decide +kernel : decode cX7_sneezes 56 = .ok (.getfield 13, 3)), ?_⟩
  refine List.forall_mem_cons.mpr ⟨snd_iconst (by decide +kernel : decode cX7_sneezes 59 = .ok (.iconst 5, 1)) (by decide +kernel), ?_⟩
  refine List.forall_mem_cons.mpr ⟨snd_iload_n (by decide +kernel : decode cX7_sneezes 60 = .ok (.iload_n 1, 1)) rfl, ?_⟩
  refine List.forall_mem_cons.mpr ⟨snd_imul (by decide +kernel : decode cX7_sneezes 61 = .ok (.imul, 1)), ?_⟩
  refine List.forall_mem_cons.mpr ⟨snd_iload_n (by decide +kernel : decode cX7_sneezes 62 = .ok (.iload_n 2, 1)) rfl, ?_⟩
  refine List.forall_mem_cons.mpr ⟨snd_iast (by decide +kernel : decode cX7_sneezes 63 = .ok (.iastore, 1)), ?_⟩
  refine List.forall_mem_cons.mpr ⟨snd_vret (by decide +kernel : decode cX7_sneezes 64 = .ok (.return_, 1)), ?_⟩
  exact fun _ h => absurd h List.not_mem_nil
theorem m_X7_sneezes : ∀ q ∈ k_X7_sneezes, Mono q.2 := by
  unfold k_X7_sneezes
  refine List.forall_mem_cons.mpr ⟨mo_aload _ _, ?_⟩
  refine List.forall_mem_cons.mpr ⟨mo_get _ _, ?_⟩
  refine List.forall_mem_cons.mpr ⟨mo_push _ _, ?_⟩
  refine List.forall_mem_cons.mpr ⟨mo_iload _ _, ?_⟩
  refine List.forall_mem_cons.mpr ⟨mo_bin _, ?_⟩
  refine List.forall_mem_cons.mpr ⟨mo_aload _ _, ?_⟩
  refine List.forall_mem_cons.mpr ⟨mo_get _ _, ?_⟩
  refine List.forall_mem_cons.mpr ⟨mo_bin _, ?_⟩
  refine List.forall_mem_cons.mpr ⟨mo_push _ _, ?_⟩
  refine List.forall_mem_cons.mpr ⟨mo_bin _, ?_⟩
  refine List.forall_mem_cons.mpr ⟨mo_iald, ?_⟩
  refine List.forall_mem_cons.mpr ⟨mo_istore _ _, ?_⟩
  refine List.forall_mem_cons.mpr ⟨mo_aload _ _, ?_⟩
  refine List.forall_mem_cons.mpr ⟨mo_get _ _, ?_⟩
  refine List.forall_mem_cons.mpr ⟨mo_push _ _, ?_⟩
  refine List.forall_mem_cons.mpr ⟨mo_bin _, ?_⟩
  refine List.forall_mem_cons.mpr ⟨mo_istore _ _, ?_⟩
  refine List.forall_mem_cons.mpr ⟨mo_iload _ _, ?_⟩
  refine List.forall_mem_cons.mpr ⟨mo_if _ _ _, ?_⟩
  refine List.forall_mem_cons.mpr ⟨mo_aload _ _, ?_⟩
  refine List.forall_mem_cons.mpr ⟨mo_get _ _, ?_⟩
  refine List.forall_mem_cons.mpr ⟨mo_push _ _, ?_⟩
  refine List.forall_mem_cons.mpr ⟨mo_iload _ _, ?_⟩
  refine List.forall_mem_cons.mpr ⟨mo_bin _, ?_⟩
  refine List.forall_mem_cons.mpr ⟨mo_iload _ _, ?_⟩
  refine List.forall_mem_cons.mpr ⟨mo_bin _, ?_⟩
  refine List.forall_mem_cons.mpr ⟨mo_aload _ _, ?_⟩
  refine List.forall_mem_cons.mpr ⟨mo_get _ _, ?_⟩
  refine List.forall_mem_cons.mpr ⟨mo_push _ _, ?_⟩
  refine List.forall_mem_cons.mpr ⟨mo_iload _ _, ?_⟩
  refine List.forall_mem_cons.mpr ⟨mo_bin _, ?_⟩
  refine List.forall_mem_cons.mpr ⟨mo_iload _ _, ?_⟩
  refine List.forall_mem_cons.mpr ⟨mo_bin _, ?_⟩
  refine List.forall_mem_cons.mpr ⟨mo_push _ _, ?_⟩
  refine List.forall_mem_cons.mpr ⟨mo_bin _, ?_⟩
  refine List.forall_mem_cons.mpr ⟨mo_iald, ?_⟩
  refine List.forall_mem_cons.mpr ⟨mo_iast, ?_⟩
  refine List.forall_mem_cons.mpr ⟨mo_iinc _ _, ?_⟩
  refine List.forall_mem_cons.mpr ⟨mo_goto _, ?_⟩
  refine List.forall_mem_cons.mpr ⟨mo_aload _ _, ?_⟩
  refine List.forall_mem_cons.mpr ⟨mo_get _ _, ?_⟩
  refine List.forall_mem_cons.mpr ⟨mo_push _ _, ?_⟩
  refine List.forall_mem_cons.mpr ⟨mo_iload _ _, ?_⟩
  refine List.forall_mem_cons.mpr ⟨mo_bin _, ?_⟩
  refine List.forall_mem_cons.mpr ⟨mo_iload _ _, ?_⟩
  refine List.forall_mem_cons.mpr ⟨mo_iast, ?_⟩
  refine List.forall_mem_cons.mpr ⟨mo_vret, ?_⟩
  exact fun _ h => absurd h List.not_mem_nil
def k_X7_sneeze : List (Nat × aI) := [
  (0, i_aload 0 1),
  (1, i_iload 1 1),
  (2, i_callV 122 2 7),
  (5, i_if (fun x => x = 0) 8 10),
  (8, i_push (.int (-1)) 1),
  (9, i_iret),
  (10, i_aload 0 1),
  (11, i_callV 146 1 7),
  (14, i_aload 0 1),
  (15, i_iload 1 1),
  (16, i_callV 149 2 7),
  (19, i_aload 0 1),
  (20, i_get 7 4),
  (23, i_push (.int 5) 1),
  (24, i_iload 1 1),
  (25, i_bin (fun x y => x * y)),
  (26, i_iald),
  (27, i_iret)]
theorem s_X7_sneeze : ∀ q ∈ k_X7_sneeze, Snd RX7 cX7_sneeze (some .int) false q.1 q.2 := by
  unfold k_X7_sneeze
  refine List.forall_mem_cons.mpr ⟨snd_aload_n (by decide +kernel : decode cX7_sneeze 0 = .ok (.aload_n 0, 1)) rfl, ?_⟩
  refine List.forall_mem_cons.mpr ⟨snd_iload_n (by decide +kernel : decode cX7_sneeze 1 = .ok (.iload_n 1, 1)) rfl, ?_⟩
  refine List.forall_mem_cons.mpr ⟨snd_callV mok_122 wd_606 wd_609 wd_610 rfl rfl (by decide +kernel : decode cX7_sneeze 2 = .ok (.invokevirtual 131, 3)), ?_⟩
  refine List.forall_mem_cons.mpr ⟨snd_if_ne (by decide +kernel : decode cX7_sneeze 5 = .ok (.ifCond .ne 5, 3)) (by decide +kernel), ?_⟩
  refine List.forall_mem_cons.mpr ⟨snd_iconst (by decide +kernel : decode cX7_sneeze 8 = .ok (.iconst (-1), 1)) (by decide +kernel), ?_⟩
  refine List.forall_mem_cons.mpr ⟨snd_iret (by decide +kernel : decode cX7_sneeze 9 = .ok (.ireturn, 1)), ?_⟩
  refine List.forall_mem_cons.mpr ⟨snd_aload_n (by decide +kernel : decode cX7_sneeze 10 = .ok (.aload_n 0, 1)) rfl, ?_⟩
  refine List.forall_mem_cons.mpr ⟨snd_callV mok_146 wd_631 wd_634 wd_635 rfl rfl (by decide +kernel : decode cX7_sneeze 11 = .ok (.invokevirtual 148, 3)), ?_⟩
  refine List.forall_mem_cons.mpr ⟨snd_aload_n (by decide +kernel : decode cX7_sneeze 14 = .ok (.aload_n 0, 1)) rfl, ?_⟩
  refine List.forall_mem_cons.mpr ⟨snd_iload_n (by decide +kernel : decode cX7_sneeze 15 = .ok (.iload_n 1, 1)) rfl, ?_⟩
  refine List.forall_mem_cons.mpr ⟨snd_callV mok_149 wd_641 wd_644 wd_645 rfl rfl (by decide +kernel : decode cX7_sneeze 16 = .ok (.invokevirtual 155, 3)), ?_⟩
  refine List.forall_mem_cons.mpr ⟨snd_aload_n (by decide +kernel : decode cX7_sneeze 19 = .ok (.aload_n 0, 1)) rfl, ?_⟩
  refine List.forall_mem_cons.mpr ⟨snd_get fl_7_13 (by decide +kernel : decode cX7_sneeze 20 = .ok (.getfield 13, 3)), ?_⟩
  refine List.forall_mem_cons.mpr ⟨snd_iconst (by decide +kernel : decode cX7_sneeze 23 = .ok (.iconst 5, 1)) (by decide +kernel), ?_⟩
  refine List.forall_mem_cons.mpr ⟨snd_iload_n (by decide +kernel : decode cX7_sneeze 24 = .ok (.iload_n 1, 1)) rfl, ?_⟩
  refine List.forall_mem_cons.mpr ⟨snd_imul (by decide +kernel : decode cX7_sneeze 25 = .ok (.imul, 1)), ?_⟩
  refine List.forall_mem_cons.mpr ⟨snd_iald (by decide +kernel : decode cX7_sneeze 26 = .ok (.iaload, 1)), ?_⟩
  refine List.forall_mem_cons.mpr ⟨snd_iret (by decide +kernel : decode cX7_sneeze 27 = .ok (.ireturn, 1)), ?_⟩
  exact fun _ h => absurd h List.not_mem_nil
theorem m_X7_sneeze : ∀ q ∈ k_X7_sneeze, Mono q.2 := by
  unfold k_X7_sneeze
  refine List.forall_mem_cons.mpr ⟨mo_aload _ _, ?_⟩
  refine List.forall_mem_cons.mpr ⟨mo_iload _ _, ?_⟩
  refine List.forall_mem_cons.mpr ⟨mo_call _ _ _, ?_⟩
  refine List.forall_mem_cons.mpr ⟨mo_if _ _ _, ?_⟩
  refine List.forall_mem_cons.mpr ⟨mo_push _ _, ?_⟩
  refine List.forall_mem_cons.mpr ⟨mo_iret, ?_⟩
  refine List.forall_mem_cons.mpr ⟨mo_aload _ _, ?_⟩
  refine List.forall_mem_cons.mpr ⟨mo_call _ _ _, ?_⟩
  refine List.forall_mem_cons.mpr ⟨mo_aload _ _, ?_⟩
  refine List.forall_mem_cons.mpr ⟨mo_iload _ _, ?_⟩
  refine List.forall_mem_cons.mpr ⟨mo_call _ _ _, ?_⟩
  refine List.forall_mem_cons.mpr ⟨mo_aload _ _, ?_⟩
  refine List.forall_mem_cons.mpr ⟨mo_get _ _, ?_⟩
  refine List.forall_mem_cons.mpr ⟨mo_push _ _, ?_⟩
  refine List.forall_mem_cons.mpr ⟨mo_iload _ _, ?_⟩
  refine List.forall_mem_cons.mpr ⟨mo_bin _, ?_⟩
  refine List.forall_mem_cons.mpr ⟨mo_iald, ?_⟩
  refine List.forall_mem_cons.mpr ⟨mo_iret, ?_⟩
  exact fun _ h => absurd h List.not_mem_nil
def k_X7_mousing : List (Nat × aI) := [
  (0, i_aload 0 1),
  (1, i_iload 1 1),
  (2, i_callV 122 2 7),
  (5, i_if (fun x => x = 0) 8 10),
  (8, i_push (.int (-1)) 1),
  (9, i_iret),
  (10, i_aload 0 1),
  (11, i_get 7 5),
  (14, i_iload 1 1),
  (15, i_iald),
  (16, i_iload 2 1),
  (17, i_icmp (fun x y => x = y) 20 23),
  (20, i_push (.int (-2)) 2),
  (22, i_iret),
  (23, i_aload 0 1),
  (24, i_callV 146 1 7),
  (27, i_aload 0 1),
  (28, i_get 7 5),
  (31, i_iload 1 1),
  (32, i_iload 2 1),
  (33, i_iast),
  (34, i_aload 0 1),
  (35, i_callV 143 1 7),
  (38, i_iret)]
theorem s_X7_mousing : ∀ q ∈ k_X7_mousing, Snd RX7 cX7_mousing (some .int) false q.1 q.2 := by
  unfold k_X7_mousing
  refine List.forall_mem_cons.mpr ⟨snd_aload_n (by decide +kernel : decode cX7_mousing 0 = .ok (.aload_n 0, 1)) rfl, ?_⟩
  refine List.forall_mem_cons.mpr ⟨snd_iload_n (by decide +kernel : decode cX7_mousing 1 = .ok (.iload_n 1, 1)) rfl, ?_⟩
  refine List.forall_mem_cons.mpr ⟨snd_callV mok_122 wd_606 wd_609 wd_610 rfl rfl (by decide +kernel : decode cX7_mousing 2 = .ok (.invokevirtual 131, 3)), ?_⟩
  refine List.forall_mem_cons.mpr ⟨snd_if_ne (by decide +kernel : decode cX7_mousing 5 = .ok (.ifCond .ne 5, 3)) (by decide +kernel), ?_⟩
  refine List.forall_mem_cons.mpr ⟨snd_iconst (by decide +kernel : decode cX7_mousing 8 = .ok (.iconst (-1), 1)) (by decide +kernel), ?_⟩
  refine List.forall_mem_cons.mpr ⟨snd_iret (by decide +kernel : decode cX7_mousing 9 = .ok (.ireturn, 1)), ?_⟩
  refine List.forall_mem_cons.mpr ⟨snd_aload_n (by decide +kernel : decode cX7_mousing 10 = .ok (.aload_n 0, 1)) rfl, ?_⟩
  refine List.forall_mem_cons.mpr ⟨snd_get fl_7_16 (by decide +kernel : decode cX7_mousing 11 = .ok (.getfield 16, 3)), ?_⟩
  refine List.forall_mem_cons.mpr ⟨snd_iload_n (by decide +kernel : decode cX7_mousing 14 = .ok (.iload_n 1, 1)) rfl, ?_⟩
  refine List.forall_mem_cons.mpr ⟨snd_iald (by decide +kernel : decode cX7_mousing 15 = .ok (.iaload, 1)), ?_⟩
  refine List.forall_mem_cons.mpr ⟨snd_iload_n (by decide +kernel : decode cX7_mousing 16 = .ok (.iload_n 2, 1)) rfl, ?_⟩
  refine List.forall_mem_cons.mpr ⟨snd_icmp_ne (by decide +kernel : decode cX7_mousing 17 = .ok (.if_icmp .ne 6, 3)) (by decide +kernel), ?_⟩
  refine List.forall_mem_cons.mpr ⟨snd_bipush (by decide +kernel : decode cX7_mousing 20 = .ok (.bipush (-2), 2)) (by decide +kernel), ?_⟩
  refine List.forall_mem_cons.mpr ⟨snd_iret (by decide +kernel : decode cX7_mousing 22 = .ok (.ireturn, 1)), ?_⟩
  refine List.forall_mem_cons.mpr ⟨snd_aload_n (by decide +kernel : decode cX7_mousing 23 = .ok (.aload_n 0, 1)) rfl, ?_⟩
  refine List.forall_mem_cons.mpr ⟨snd_callV mok_146 wd_631 wd_634 wd_635 rfl rfl (by decide +kernel : decode cX7_mousing 24 = .ok (.invokevirtual 148, 3)), ?_⟩
  refine List.forall_mem_cons.mpr ⟨snd_aload_n (by decide +kernel : decode cX7_mousing 27 = .ok (.aload_n 0, 1)) rfl, ?_⟩
  refine List.forall_mem_cons.mpr ⟨snd_get fl_7_16 (by decide +kernel : decode cX7_mousing 28 = .ok (.getfield 16, 3)), ?_⟩
  refine List.forall_mem_cons.mpr ⟨snd_iload_n (by decide +kernel : decode cX7_mousing 31 = .ok (.iload_n 1, 1)) rfl, ?_⟩
  refine List.forall_mem_cons.mpr ⟨snd_iload_n (by decide +kernel : decode cX7_mousing 32 = .ok (.iload_n 2, 1)) rfl, ?_⟩
  refine List.forall_mem_cons.mpr ⟨snd_iast (by decide +kernel : decode cX7_mousing 33 = .ok (.iastore, 1)), ?_⟩
  refine List.forall_mem_cons.mpr ⟨snd_aload_n (by decide +kernel : decode cX7_mousing 34 = .ok (.aload_n 0, 1)) rfl, ?_⟩
  refine List.forall_mem_cons.mpr ⟨snd_callV mok_143 wd_646 wd_649 wd_650 rfl rfl (by decide +kernel : decode cX7_mousing 35 = .ok (.invokevirtual 158, 3)), ?_⟩
  refine List.forall_mem_cons.mpr ⟨snd_iret (by decide +kernel : decode cX7_mousing 38 = .ok (.ireturn, 1)), ?_⟩
  exact fun _ h => absurd h List.not_mem_nil
theorem m_X7_mousing : ∀ q ∈ k_X7_mousing, Mono q.2 := by
  unfold k_X7_mousing
  refine List.forall_mem_cons.mpr ⟨mo_aload _ _, ?_⟩
  refine List.forall_mem_cons.mpr ⟨mo_iload _ _, ?_⟩
  refine List.forall_mem_cons.mpr ⟨mo_call _ _ _, ?_⟩
  refine List.forall_mem_cons.mpr ⟨mo_if _ _ _, ?_⟩
  refine List.forall_mem_cons.mpr ⟨mo_push _ _, ?_⟩
  refine List.forall_mem_cons.mpr ⟨mo_iret, ?_⟩
  refine List.forall_mem_cons.mpr ⟨mo_aload _ _, ?_⟩
  refine List.forall_mem_cons.mpr ⟨mo_get _ _, ?_⟩
  refine List.forall_mem_cons.mpr ⟨mo_iload _ _, ?_⟩
  refine List.forall_mem_cons.mpr ⟨mo_iald, ?_⟩
  refine List.forall_mem_cons.mpr ⟨mo_iload _ _, ?_⟩
  refine List.forall_mem_cons.mpr ⟨mo_icmp _ _ _, ?_⟩
  refine List.forall_mem_cons.mpr ⟨mo_push _ _, ?_⟩
  refine List.forall_mem_cons.mpr ⟨mo_iret, ?_⟩
  refine List.forall_mem_cons.mpr ⟨mo_aload _ _, ?_⟩
  refine List.forall_mem_cons.mpr ⟨mo_call _ _ _, ?_⟩
  refine List.forall_mem_cons.mpr ⟨mo_aload _ _, ?_⟩
  refine List.forall_mem_cons.mpr ⟨mo_get _ _, ?_⟩
  refine List.forall_mem_cons.mpr ⟨mo_iload _ _, ?_⟩
  refine List.forall_mem_cons.mpr ⟨mo_iload _ _, ?_⟩
  refine List.forall_mem_cons.mpr ⟨mo_iast, ?_⟩
  refine List.forall_mem_cons.mpr ⟨mo_aload _ _, ?_⟩
  refine List.forall_mem_cons.mpr ⟨mo_call _ _ _, ?_⟩
  refine List.forall_mem_cons.mpr ⟨mo_iret, ?_⟩
  exact fun _ h => absurd h List.not_mem_nil
def k_X7_mouse : List (Nat × aI) := [
  (0, i_aload 0 1),
  (1, i_iload 1 1),
  (2, i_push (.int 1) 1),
  (3, i_callV 151 3 7),
  (6, i_iret)]
theorem s_X7_mouse : ∀ q ∈ k_X7_mouse, Snd RX7 cX7_mouse (some .int) false q.1 q.2 := by
  unfold k_X7_mouse
  refine List.forall_mem_cons.mpr ⟨snd_aload_n (by decide +kernel : decode cX7_mouse 0 = .ok (.aload_n 0, 1)) rfl, ?_⟩
  refine List.forall_mem_cons.mpr ⟨snd_iload_n (by decide +kernel : decode cX7_mouse 1 = .ok (.iload_n 1, 1)) rfl, ?_⟩
  refine List.forall_mem_cons.mpr ⟨snd_iconst (by decide +kernel : decode cX7_mouse 2 = .ok (.iconst 1, 1)) (by decide +kernel), ?_⟩
  refine List.forall_mem_cons.mpr ⟨snd_callV mok_151 wd_651 wd_654 wd_655 rfl rfl (by decide +kernel : decode cX7_mouse 3 = .ok (.invokevirtual 161, 3)), ?_⟩
  refine List.forall_mem_cons.mpr ⟨snd_iret (by decide +kernel : decode cX7_mouse 6 = .ok (.ireturn, 1)), ?_⟩
  exact fun _ h => absurd h List.not_mem_nil
theorem m_X7_mouse : ∀ q ∈ k_X7_mouse, Mono q.2 := by
  unfold k_X7_mouse
  refine List.forall_mem_cons.mpr ⟨mo_aload _ _, ?_⟩
  refine List.forall_mem_cons.mpr ⟨mo_iload _ _, ?_⟩
  refine List.forall_mem_cons.mpr ⟨mo_push _ _, ?_⟩
  refine List.forall_mem_cons.mpr ⟨mo_call _ _ _, ?_⟩
  refine List.forall_mem_cons.mpr ⟨mo_iret, ?_⟩
  exact fun _ h => absurd h List.not_mem_nil
def k_X7_chase : List (Nat × aI) := [
  (0, i_aload 0 1),
  (1, i_iload 1 1),
  (2, i_push (.int 0) 1),
  (3, i_callV 151 3 7),
  (6, i_iret)]
theorem s_X7_chase : ∀ q ∈ k_X7_chase, Snd RX7 cX7_chase (some .int) false q.1 q.2 := by
  unfold k_X7_chase
  refine List.forall_mem_cons.mpr ⟨snd_aload_n (by decide +kernel : decode cX7_chase 0 = .ok (.aload_n 0, 1)) rfl, ?_⟩
  refine List.forall_mem_cons.mpr ⟨snd_iload_n (by decide +kernel : decode cX7_chase 1 = .ok (.iload_n 1, 1)) rfl, ?_⟩
  refine List.forall_mem_cons.mpr ⟨snd_iconst (by decide +kernel : decode cX7_chase 2 = .ok (.iconst 0, 1)) (by decide +kernel), ?_⟩
  refine List.forall_mem_cons.mpr ⟨snd_callV mok_151 wd_651 wd_654 wd_655 rfl rfl (by decide +kernel : decode cX7_chase 3 = .ok (.invokevirtual 161, 3)), ?_⟩
  refine List.forall_mem_cons.mpr ⟨snd_iret (by decide +kernel : decode cX7_chase 6 = .ok (.ireturn, 1)), ?_⟩
  exact fun _ h => absurd h List.not_mem_nil
theorem m_X7_chase : ∀ q ∈ k_X7_chase, Mono q.2 := by
  unfold k_X7_chase
  refine List.forall_mem_cons.mpr ⟨mo_aload _ _, ?_⟩
  refine List.forall_mem_cons.mpr ⟨mo_iload _ _, ?_⟩
  refine List.forall_mem_cons.mpr ⟨mo_push _ _, ?_⟩
  refine List.forall_mem_cons.mpr ⟨mo_call _ _ _, ?_⟩
  refine List.forall_mem_cons.mpr ⟨mo_iret, ?_⟩
  exact fun _ h => absurd h List.not_mem_nil
def k_X7_want : List (Nat × aI) := [
  (0, i_aload 0 1),
  (1, i_iload 1 1),
  (2, i_callV 123 2 7),
  (5, i_if (fun x => x = 0) 18 8),
  (8, i_iload 2 1),
  (9, i_push (.int 0) 1),
  (10, i_push (.int 10) 2),
  (12, i_callS 117 3),
  (15, i_if (fun x => x = 0) 18 20),
  (18, i_push (.int (-1)) 1),
  (19, i_iret),
  (20, i_aload 0 1),
  (21, i_callV 146 1 7),
  (24, i_aload 0 1),
  (25, i_get 7 6),
  (28, i_iload 1 1),
  (29, i_iald),
  (30, i_istore 3 1),
  (31, i_aload 0 1),
  (32, i_get 7 6),
  (35, i_iload 1 1),
  (36, i_iload 2 1),
  (37, i_push (.int 10) 2),
  (39, i_icmp (fun x y => x = y) 42 47),
  (42, i_push (.int (-4)) 2),
  (44, i_goto 48),
  (47, i_iload 2 1),
  (48, i_iast),
  (49, i_iload 3 1),
  (50, i_iret)]
theorem s_X7_want : ∀ q ∈ k_X7_want, Snd RX7 cX7_want (some .int) false q.1 q.2 := by
  unfold k_X7_want
  refine List.forall_mem_cons.mpr ⟨snd_aload_n (by decide +kernel : decode cX7_want 0 = .ok (.aload_n 0, 1)) rfl, ?_⟩
  refine List.forall_mem_cons.mpr ⟨snd_iload_n (by decide +kernel : decode cX7_want 1 = .ok (.iload_n 1, 1)) rfl, ?_⟩
  refine List.forall_mem_cons.mpr ⟨snd_callV mok_123 wd_611 wd_614 wd_615 rfl rfl (by decide +kernel : decode cX7_want 2 = .ok (.invokevirtual 134, 3)), ?_⟩
  refine List.forall_mem_cons.mpr ⟨snd_if_eq (by decide +kernel : decode cX7_want 5 = .ok (.ifCond .eq 13, 3)) (by decide +kernel), ?_⟩
  refine List.forall_mem_cons.mpr ⟨snd_iload_n (by decide +kernel : decode cX7_want 8 = .ok (.iload_n 2, 1)) rfl, ?_⟩
  refine List.forall_mem_cons.mpr ⟨snd_iconst (by decide +kernel : decode cX7_want 9 = .ok (.iconst 0, 1)) (by decide +kernel), ?_⟩
  refine List.forall_mem_cons.mpr ⟨snd_bipush (by decide +kernel : decode cX7_want 10 = .ok (.bipush 10, 2)) (by decide +kernel), ?_⟩
  refine List.forall_mem_cons.mpr ⟨snd_callS mok_117 wd_554 wd_557 (by decide +kernel : decode cX7_want 12 = .ok (.invokestatic 75, 3)), ?_⟩
  refine List.forall_mem_cons.mpr ⟨snd_if_ne (by decide +kernel : decode cX7_want 15 = .ok (.ifCond .ne 5, 3)) (by decide +kernel), ?_⟩
  refine List.forall_mem_cons.mpr ⟨snd_iconst (by decide +kernel : decode cX7_want 18 = .ok (.iconst (-1), 1)) (by decide +kernel), ?_⟩
  refine List.forall_mem_cons.mpr ⟨snd_iret (by decide +kernel : decode cX7_want 19 = .ok (.ireturn, 1)), ?_⟩
  refine List.forall_mem_cons.mpr ⟨snd_aload_n (by decide +kernel : decode cX7_want 20 = .ok (.aload_n 0, 1)) rfl, ?_⟩
  refine List.forall_mem_cons.mpr ⟨snd_callV mok_146 wd_631 wd_634 wd_635 rfl rfl (by decide +kernel : decode cX7_want 21 = .ok (.invokevirtual 148, 3)), ?_⟩
  refine List.forall_mem_cons.mpr ⟨snd_aload_n (by decide +kernel : decode cX7_want 24 = .ok (.aload_n 0, 1)) rfl, ?_⟩
  refine List.forall_mem_cons.mpr ⟨snd_get fl_7_19 (by decide +kernel : decode cX7_want 25 = .ok (.getfield 19, 3)), ?_⟩
  refine List.forall_mem_cons.mpr ⟨snd_iload_n (by decide +kernel : decode cX7_want 28 = .ok (.iload_n 1, 1)) rfl, ?_⟩
  refine List.forall_mem_cons.mpr ⟨snd_iald (by decide +kernel : decode cX7_want 29 = .ok (.iaload, 1)), ?_⟩
  refine List.forall_mem_cons.mpr ⟨snd_istore_n (by decide +kernel : decode cX7_want 30 = .ok (.istore_n 3, 1)) rfl, ?_⟩
  refine List.forall_mem_cons.mpr ⟨snd_aload_n (by decide +kernel : decode cX7_want 31 = .ok (.aload_n 0, 1)) rfl, ?_⟩
  refine List.forall_mem_cons.mpr ⟨snd_get fl_7_19 (by decide +kernel : decode cX7_want 32 = .ok (.getfield 19, 3)), ?_⟩
  refine List.forall_mem_cons.mpr ⟨snd_iload_n (by decide +kernel : decode cX7_want 35 = .ok (.iload_n 1, 1)) rfl, ?_⟩
  refine List.forall_mem_cons.mpr ⟨snd_iload_n (by decide +kernel : decode cX7_want 36 = .ok (.iload_n 2, 1)) rfl, ?_⟩
  refine List.forall_mem_cons.mpr ⟨snd_bipush (by decide +kernel : decode cX7_want 37 = .ok (.bipush 10, 2)) (by decide +kernel), ?_⟩
  refine List.forall_mem_cons.mpr ⟨snd_icmp_ne (by decide +kernel : decode cX7_want 39 = .ok (.if_icmp .ne 8, 3)) (by decide +kernel), ?_⟩
  refine List.forall_mem_cons.mpr ⟨snd_bipush (by decide +kernel : decode cX7_want 42 = .ok (.bipush (-4), 2)) (by decide +kernel), ?_⟩
  refine List.forall_mem_cons.mpr ⟨snd_goto (by decide +kernel : decode cX7_want 44 = .ok (.goto 4, 3)) (by decide +kernel), ?_⟩
  refine List.forall_mem_cons.mpr ⟨snd_iload_n (by decide +kernel : decode cX7_want 47 = .ok (.iload_n 2, 1)) rfl, ?_⟩
  refine List.forall_mem_cons.mpr ⟨snd_iast (by decide +kernel : decode cX7_want 48 = .ok (.iastore, 1)), ?_⟩
  refine List.forall_mem_cons.mpr ⟨snd_iload_n (by decide +kernel : decode cX7_want 49 = .ok (.iload_n 3, 1)) rfl, ?_⟩
  refine List.forall_mem_cons.mpr ⟨snd_iret (by decide +kernel : decode cX7_want 50 = .ok (.ireturn, 1)), ?_⟩
  exact fun _ h => absurd h List.not_mem_nil
theorem m_X7_want : ∀ q ∈ k_X7_want, Mono q.2 := by
  unfold k_X7_want
  refine List.forall_mem_cons.mpr ⟨mo_aload _ _, ?_⟩
  refine List.forall_mem_cons.mpr ⟨mo_iload _ _, ?_⟩
  refine List.forall_mem_cons.mpr ⟨mo_call _ _ _, ?_⟩
  refine List.forall_mem_cons.mpr ⟨mo_if _ _ _, ?_⟩
  refine List.forall_mem_cons.mpr ⟨mo_iload _ _, ?_⟩
  refine List.forall_mem_cons.mpr ⟨mo_push _ _, ?_⟩
  refine List.forall_mem_cons.mpr ⟨mo_push _ _, ?_⟩
  refine List.forall_mem_cons.mpr ⟨mo_call _ _ _, ?_⟩
  refine List.forall_mem_cons.mpr ⟨mo_if _ _ _, ?_⟩
  refine List.forall_mem_cons.mpr ⟨mo_push _ _, ?_⟩
  refine List.forall_mem_cons.mpr ⟨mo_iret, ?_⟩
  refine List.forall_mem_cons.mpr ⟨mo_aload _ _, ?_⟩
  refine List.forall_mem_cons.mpr ⟨mo_call _ _ _, ?_⟩
  refine List.forall_mem_cons.mpr ⟨mo_aload _ _, ?_⟩
  refine List.forall_mem_cons.mpr ⟨mo_get _ _, ?_⟩
  refine List.forall_mem_cons.mpr ⟨mo_iload _ _, ?_⟩
  refine List.forall_mem_cons.mpr ⟨mo_iald, ?_⟩
  refine List.forall_mem_cons.mpr ⟨mo_istore _ _, ?_⟩
  refine List.forall_mem_cons.mpr ⟨mo_aload _ _, ?_⟩
  refine List.forall_mem_cons.mpr ⟨mo_get _ _, ?_⟩
  refine List.forall_mem_cons.mpr ⟨mo_iload _ _, ?_⟩
  refine List.forall_mem_cons.mpr ⟨mo_iload _ _, ?_⟩
  refine List.forall_mem_cons.mpr ⟨mo_push _ _, ?_⟩
  refine List.forall_mem_cons.mpr ⟨mo_icmp _ _ _, ?_⟩
  refine List.forall_mem_cons.mpr ⟨mo_push _ _, ?_⟩
  refine List.forall_mem_cons.mpr ⟨mo_goto _, ?_⟩
  refine List.forall_mem_cons.mpr ⟨mo_iload _ _, ?_⟩
  refine List.forall_mem_cons.mpr ⟨mo_iast, ?_⟩
  refine List.forall_mem_cons.mpr ⟨mo_iload _ _, ?_⟩
  refine List.forall_mem_cons.mpr ⟨mo_iret, ?_⟩
  exact fun _ h => absurd h List.not_mem_nil
def k_X7_undo : List (Nat × aI) := [
  (0, i_aload 0 1),
  (1, i_get 7 22),
  (4, i_if (fun x => x = 0) 7 10),
  (7, i_push (.int (-2)) 2),
  (9, i_iret),
  (10, i_aload 0 1),
  (11, i_dup),
  (12, i_get 7 22),
  (15, i_push (.int 1) 1),
  (16, i_bin (fun x y => x - y)),
  (17, i_put 7 22),
  (20, i_aload 0 1),
  (21, i_aload 0 1),
  (22, i_get 7 21),
  (25, i_push (.int 42) 2),
  (27, i_aload 0 1),
  (28, i_get 7 22),
  (31, i_bin (fun x y => x * y)),
  (32, i_callV 145 3 7),
  (35, i_aload 0 1),
  (36, i_get 7 22),
  (39, i_iret)]
theorem s_X7_undo : ∀ q ∈ k_X7_undo, Snd RX7 cX7_undo (some .int) false q.1 q.2 := by
  unfold k_X7_undo
  refine List.forall_mem_cons.mpr ⟨snd_aload_n (by decide +kernel : decode cX7_undo 0 = .ok (.aload_n 0, 1)) rfl, ?_⟩
  refine List.forall_mem_cons.mpr ⟨snd_get fl_7_125 (by decide +kernel : decode cX7_undo 1 = .ok (.getfield 125, 3)), ?_⟩
  refine List.forall_mem_cons.mpr ⟨snd_if_ne (by decide +kernel : decode cX7_undo 4 = .ok (.ifCond .ne 6, 3)) (by decide +kernel), ?_⟩
  refine List.forall_mem_cons.mpr ⟨snd_bipush (by decide +kernel : decode cX7_undo 7 = .ok (.bipush (-2), 2)) (by decide +kernel), ?_⟩
  refine List.forall_mem_cons.mpr ⟨snd_iret (by decide +kernel : decode cX7_undo 9 = .ok (.ireturn, 1)), ?_⟩
  refine List.forall_mem_cons.mpr ⟨snd_aload_n (by decide +kernel : decode cX7_undo 10 = .ok (.aload_n 0, 1)) rfl, ?_⟩
  refine List.forall_mem_cons.mpr ⟨snd_dup (by decide +kernel : decode cX7_undo 11 = .ok (.dup, 1)), ?_⟩
  refine List.forall_mem_cons.mpr ⟨snd_get fl_7_125 (by decide +kernel : decode cX7_undo 12 = .ok (.getfield 125, 3)), ?_⟩
  refine List.forall_mem_cons.mpr ⟨snd_iconst (by decide +kernel : decode cX7_undo 15 = .ok (.iconst 1, 1)) (by decide +kernel), ?_⟩
  refine List.forall_mem_cons.mpr ⟨snd_isub (by decide +kernel : decode cX7_undo 16 = .ok (.isub, 1)), ?_⟩
  refine List.forall_mem_cons.mpr ⟨snd_put fl_7_125 (by decide +kernel : decode cX7_undo 17 = .ok (.putfield 125, 3)), ?_⟩
  refine List.forall_mem_cons.mpr ⟨snd_aload_n (by decide +kernel : decode cX7_undo 20 = .ok (.aload_n 0, 1)) rfl, ?_⟩
  refine List.forall_mem_cons.mpr ⟨snd_aload_n (by decide +kernel : decode cX7_undo 21 = .ok (.aload_n 0, 1)) rfl, ?_⟩
  refine List.forall_mem_cons.mpr ⟨snd_get fl_7_49 (by decide +kernel : decode cX7_undo 22 = .ok (.getfield 49, 3)), ?_⟩
  refine List.forall_mem_cons.mpr ⟨snd_bipush (by decide +kernel : decode cX7_undo 25 = .ok (.bipush 42, 2)) (by decide +kernel), ?_⟩
  refine List.forall_mem_cons.mpr ⟨snd_aload_n (by decide +kernel : decode cX7_undo 27 = .ok (.aload_n 0, 1)) rfl, ?_⟩
  refine List.forall_mem_cons.mpr ⟨snd_get fl_7_125 (by decide +kernel : decode cX7_undo 28 = .ok (.getfield 125, 3)), ?_⟩
  refine List.forall_mem_cons.mpr ⟨snd_imul (by decide +kernel : decode cX7_undo 31 = .ok (.imul, 1)), ?_⟩
  refine List.forall_mem_cons.mpr ⟨snd_callV mok_145 wd_656 wd_659 wd_660 rfl rfl (by decide +kernel : decode cX7_undo 32 = .ok (.invokevirtual 164, 3)), ?_⟩
  refine List.forall_mem_cons.mpr ⟨snd_aload_n (by decide +kernel : decode cX7_undo 35 = .ok (.aload_n 0, 1)) rfl, ?_⟩
  refine List.forall_mem_cons.mpr ⟨snd_get fl_7_125 (by decide +kernel : decode cX7_undo 36 = .ok (.getfield 125, 3)), ?_⟩
  refine List.forall_mem_cons.mpr ⟨snd_iret (by decide +kernel : decode cX7_undo 39 = .ok (.ireturn, 1)), ?_⟩
  exact fun _ h => absurd h List.not_mem_nil
theorem m_X7_undo : ∀ q ∈ k_X7_undo, Mono q.2 := by
  unfold k_X7_undo
  refine List.forall_mem_cons.mpr ⟨mo_aload _ _, ?_⟩
  refine List.forall_mem_cons.mpr ⟨mo_get _ _, ?_⟩
  refine List.forall_mem_cons.mpr ⟨mo_if _ _ _, ?_⟩
  refine List.forall_mem_cons.mpr ⟨mo_push _ _, ?_⟩
  refine List.forall_mem_cons.mpr ⟨mo_iret, ?_⟩
  refine List.forall_mem_cons.mpr ⟨mo_aload _ _, ?_⟩
  refine List.forall_mem_cons.mpr ⟨mo_dup, ?_⟩
  refine List.forall_mem_cons.mpr ⟨mo_get _ _, ?_⟩
  refine List.forall_mem_cons.mpr ⟨mo_push _ _, ?_⟩
  refine List.forall_mem_cons.mpr ⟨mo_bin _, ?_⟩
  refine List.forall_mem_cons.mpr ⟨mo_put _ _, ?_⟩
  refine List.forall_mem_cons.mpr ⟨mo_aload _ _, ?_⟩
  refine List.forall_mem_cons.mpr ⟨mo_aload _ _, ?_⟩
  refine List.forall_mem_cons.mpr ⟨mo_get _ _, ?_⟩
  refine List.forall_mem_cons.mpr ⟨mo_push _ _, ?_⟩
  refine List.forall_mem_cons.mpr ⟨mo_aload _ _, ?_⟩
  refine List.forall_mem_cons.mpr ⟨mo_get _ _, ?_⟩
  refine List.forall_mem_cons.mpr ⟨mo_bin _, ?_⟩
  refine List.forall_mem_cons.mpr ⟨mo_call _ _ _, ?_⟩
  refine List.forall_mem_cons.mpr ⟨mo_aload _ _, ?_⟩
  refine List.forall_mem_cons.mpr ⟨mo_get _ _, ?_⟩
  refine List.forall_mem_cons.mpr ⟨mo_iret, ?_⟩
  exact fun _ h => absurd h List.not_mem_nil
def k_X7_puts : List (Nat × aI) := [
  (0, i_aload 0 1),
  (1, i_aload 0 1),
  (2, i_get 7 23),
  (5, i_push (.int 0) 1),
  (6, i_callV 144 3 7),
  (9, i_vret)]
theorem s_X7_puts : ∀ q ∈ k_X7_puts, Snd RX7 cX7_puts none false q.1 q.2 := by
  unfold k_X7_puts
  refine List.forall_mem_cons.mpr ⟨snd_aload_n (by decide +kernel : decode cX7_puts 0 = .ok (.aload_n 0, 1)) rfl, ?_⟩
  refine List.forall_mem_cons.mpr ⟨snd_aload_n (by decide +kernel : decode cX7_puts 1 = .ok (.aload_n 0, 1)) rfl, ?_⟩
  refine List.forall_mem_cons.mpr ⟨snd_get fl_7_52 (by decide +kernel : decode cX7_puts 2 = .ok (.getfield 52, 3)), ?_⟩
  refine List.forall_mem_cons.mpr ⟨snd_iconst (by decide +kernel : decode cX7_puts 5 = .ok (.iconst 0, 1)) (by decide +kernel), ?_⟩
  refine List.forall_mem_cons.mpr ⟨snd_callV mok_144 wd_626 wd_629 wd_630 rfl rfl (by decide +kernel : decode cX7_puts 6 = .ok (.invokevirtual 144, 3)), ?_⟩
  refine List.forall_mem_cons.mpr ⟨snd_vret (by decide +kernel : decode cX7_puts 9 = .ok (.return_, 1)), ?_⟩
  exact fun _ h => absurd h List.not_mem_nil
theorem m_X7_puts : ∀ q ∈ k_X7_puts, Mono q.2 := by
  unfold k_X7_puts
  refine List.forall_mem_cons.mpr ⟨mo_aload _ _, ?_⟩
  refine List.forall_mem_cons.mpr ⟨mo_aload _ _, ?_⟩
  refine List.forall_mem_cons.mpr ⟨mo_get _ _, ?_⟩
  refine List.forall_mem_cons.mpr ⟨mo_push _ _, ?_⟩
  refine List.forall_mem_cons.mpr ⟨mo_call _ _ _, ?_⟩
  refine List.forall_mem_cons.mpr ⟨mo_vret, ?_⟩
  exact fun _ h => absurd h List.not_mem_nil
def k_X7_puttingBack : List (Nat × aI) := [
  (0, i_aload 0 1),
  (1, i_aload 0 1),
  (2, i_get 7 23),
  (5, i_push (.int 0) 1),
  (6, i_callV 145 3 7),
  (9, i_vret)]
theorem s_X7_puttingBack : ∀ q ∈ k_X7_puttingBack, Snd RX7 cX7_puttingBack none false q.1 q.2 := by
  unfold k_X7_puttingBack
  refine List.forall_mem_cons.mpr ⟨snd_aload_n (by decide +kernel : decode cX7_puttingBack 0 = .ok (.aload_n 0, 1)) rfl, ?_⟩
  refine List.forall_mem_cons.mpr ⟨snd_aload_n (by decide +kernel : decode cX7_puttingBack 1 = .ok (.aload_n 0, 1)) rfl, ?_⟩
  refine List.forall_mem_cons.mpr ⟨snd_get fl_7_52 (by decide +kernel : decode cX7_puttingBack 2 = .ok (.getfield 52, 3)), ?_⟩
  refine List.forall_mem_cons.mpr ⟨snd_iconst (by decide +kernel : decode cX7_puttingBack 5 = .ok (.iconst 0, 1)) (by decide +kernel), ?_⟩
  refine List.forall_mem_cons.mpr ⟨snd_callV mok_145 wd_656 wd_659 wd_660 rfl rfl (by decide +kernel : decode cX7_puttingBack 6 = .ok (.invokevirtual 164, 3)), ?_⟩
  refine List.forall_mem_cons.mpr ⟨snd_vret (by decide +kernel : decode cX7_puttingBack 9 = .ok (.return_, 1)), ?_⟩
  exact fun _ h => absurd h List.not_mem_nil
theorem m_X7_puttingBack : ∀ q ∈ k_X7_puttingBack, Mono q.2 := by
  unfold k_X7_puttingBack
  refine List.forall_mem_cons.mpr ⟨mo_aload _ _, ?_⟩
  refine List.forall_mem_cons.mpr ⟨mo_aload _ _, ?_⟩
  refine List.forall_mem_cons.mpr ⟨mo_get _ _, ?_⟩
  refine List.forall_mem_cons.mpr ⟨mo_push _ _, ?_⟩
  refine List.forall_mem_cons.mpr ⟨mo_call _ _ _, ?_⟩
  refine List.forall_mem_cons.mpr ⟨mo_vret, ?_⟩
  exact fun _ h => absurd h List.not_mem_nil
def k_X7_behind : List (Nat × aI) := [
  (0, i_iload 1 1),
  (1, i_push (.int 0) 1),
  (2, i_push (.int 40) 2),
  (4, i_callS 117 3),
  (7, i_if (fun x => x = 0) 26 10),
  (10, i_aload 0 1),
  (11, i_iload 2 1),
  (12, i_callV 122 2 7),
  (15, i_if (fun x => x = 0) 26 18),
  (18, i_aload 0 1),
  (19, i_iload 3 1),
  (20, i_callV 123 2 7),
  (23, i_if (fun x => x = 0) 26 28),
  (26, i_push (.int (-1)) 1),
  (27, i_iret),
  (28, i_aload 0 1),
  (29, i_callV 156 1 7),
  (32, i_aload 0 1),
  (33, i_iload 1 1),
  (34, i_callV 140 2 7),
  (37, i_aload 0 1),
  (38, i_get 7 4),
  (41, i_push (.int 5) 1),
  (42, i_iload 2 1),
  (43, i_bin (fun x y => x * y)),
  (44, i_iload 3 1),
  (45, i_bin (fun x y => x + y)),
  (46, i_iald),
  (47, i_istore 4 2),
  (49, i_aload 0 1),
  (50, i_callV 157 1 7),
  (53, i_iload 4 2),
  (55, i_iret)]
theorem s_X7_behind : ∀ q ∈ k_X7_behind, Snd RX7 cX7_behind (some .int) false q.1 q.2 := by
  unfold k_X7_behind
  refine List.forall_mem_cons.mpr ⟨snd_iload_n (by decide +kernel : decode cX7_behind 0 = .ok (.iload_n 1, 1)) rfl, ?_⟩
  refine List.forall_mem_cons.mpr ⟨snd_iconst (by decide +kernel : decode cX7_behind 1 = .ok (.iconst 0, 1)) (by decide +kernel), ?_⟩
  refine List.forall_mem_cons.mpr ⟨snd_bipush (by decide +kernel : decode cX7_behind 2 = .ok (.bipush 40, 2)) (by decide +kernel), ?_⟩
  refine List.forall_mem_cons.mpr ⟨snd_callS mok_117 wd_554 wd_557 (by decide +kernel : decode cX7_behind 4 = .ok (.invokestatic 75, 3)), ?_⟩
  refine List.forall_mem_cons.mpr ⟨snd_if_eq (by decide +kernel : decode cX7_behind 7 = .ok (.ifCond .eq 19, 3)) (by decide +kernel), ?_⟩
  refine List.forall_mem_cons.mpr ⟨snd_aload_n (by decide +kernel : decode cX7_behind 10 = .ok (.aload_n 0, 1)) rfl, ?_⟩
  refine List.forall_mem_cons.mpr ⟨snd_iload_n (by decide +kernel : decode cX7_behind 11 = .ok (.iload_n 2, 1)) rfl, ?_⟩
  refine List.forall_mem_cons.mpr ⟨snd_callV mok_122 wd_606 wd_609 wd_610 rfl rfl (by decide +kernel : decode cX7_behind 12 = .ok (.invokevirtual 131, 3)), ?_⟩
  refine List.forall_mem_cons.mpr ⟨snd_if_eq (by decide +kernel : decode cX7_behind 15 = .ok (.ifCond .eq 11, 3)) (by decide +kernel), ?_⟩
  refine List.forall_mem_cons.mpr ⟨snd_aload_n (by decide +kernel : decode cX7_behind 18 = .ok (.aload_n 0, 1)) rfl, ?_⟩
  refine List.forall_mem_cons.mpr ⟨snd_iload_n (by decide +kernel : decode cX7_behind 19 = .ok (.iload_n 3, 1)) rfl, ?_⟩
  refine List.forall_mem_cons.mpr ⟨snd_callV mok_123 wd_611 wd_614 wd_615 rfl rfl (by decide +kernel : decode cX7_behind 20 = .ok (.invokevirtual 134, 3)), ?_⟩
  refine List.forall_mem_cons.mpr ⟨snd_if_ne (by decide +kernel : decode cX7_behind 23 = .ok (.ifCond .ne 5, 3)) (by decide +kernel), ?_⟩
  refine List.forall_mem_cons.mpr ⟨snd_iconst (by decide +kernel : decode cX7_behind 26 = .ok (.iconst (-1), 1)) (by decide +kernel), ?_⟩
  refine List.forall_mem_cons.mpr ⟨snd_iret (by decide +kernel : decode cX7_behind 27 = .ok (.ireturn, 1)), ?_⟩
  refine List.forall_mem_cons.mpr ⟨snd_aload_n (by decide +kernel : decode cX7_behind 28 = .ok (.aload_n 0, 1)) rfl, ?_⟩
  refine List.forall_mem_cons.mpr ⟨snd_callV mok_156 wd_661 wd_664 wd_665 rfl rfl (by decide +kernel : decode cX7_behind 29 = .ok (.invokevirtual 167, 3)), ?_⟩
  refine List.forall_mem_cons.mpr ⟨snd_aload_n (by decide +kernel : decode cX7_behind 32 = .ok (.aload_n 0, 1)) rfl, ?_⟩
  refine List.forall_mem_cons.mpr ⟨snd_iload_n (by decide +kernel : decode cX7_behind 33 = .ok (.iload_n 1, 1)) rfl, ?_⟩
  refine List.forall_mem_cons.mpr ⟨snd_callV mok_140 wd_636 wd_639 wd_640 rfl rfl (by decide +kernel : decode cX7_behind 34 = .ok (.invokevirtual 151, 3)), ?_⟩
  refine List.forall_mem_cons.mpr ⟨snd_aload_n (by decide +kernel : decode cX7_behind 37 = .ok (.aload_n 0, 1)) rfl, ?_⟩
  refine List.forall_mem_cons.mpr ⟨snd_get fl_7_13 (by decide +kernel : decode cX7_behind 38 = .ok (.getfield 13, 3)), ?_⟩
  refine List.forall_mem_cons.mpr ⟨snd_iconst (by decide +kernel : decode cX7_behind 41 = .ok (.iconst 5, 1)) (by decide +kernel), ?_⟩
  refine List.forall_mem_cons.mpr ⟨snd_iload_n (by decide +kernel : decode cX7_behind 42 = .ok (.iload_n 2, 1)) rfl, ?_⟩
  refine List.forall_mem_cons.mpr ⟨snd_imul (by decide +kernel : decode cX7_behind 43 = .ok (.imul, 1)), ?_⟩
  refine List.forall_mem_cons.mpr ⟨snd_iload_n (by decide +kernel : decode cX7_behind 44 = .ok (.iload_n 3, 1)) rfl, ?_⟩
  refine List.forall_mem_cons.mpr ⟨snd_iadd (by decide +kernel : decode cX7_behind 45 = .ok (.iadd, 1)), ?_⟩
  refine List.forall_mem_cons.mpr ⟨snd_iald (by decide +kernel : decode cX7_behind 46 = .ok (.iaload, 1)), ?_⟩
  refine List.forall_mem_cons.mpr ⟨snd_istore (by decide +kernel : decode cX7_behind 47 = .ok (.istore 4, 2)), ?_⟩
  refine List.forall_mem_cons.mpr ⟨snd_aload_n (by decide +kernel : decode cX7_behind 49 = .ok (.aload_n 0, 1)) rfl, ?_⟩
  refine List.forall_mem_cons.mpr ⟨snd_callV mok_157 wd_666 wd_669 wd_670 rfl rfl (by decide +kernel : decode cX7_behind 50 = .ok (.invokevirtual 170, 3)), ?_⟩
  refine List.forall_mem_cons.mpr ⟨snd_iload (by decide +kernel : decode cX7_behind 53 = .ok (.iload 4, 2)), ?_⟩
  refine List.forall_mem_cons.mpr ⟨snd_iret (by decide +kernel : decode cX7_behind 55 = .ok (.ireturn, 1)), ?_⟩
  exact fun _ h => absurd h List.not_mem_nil
theorem m_X7_behind : ∀ q ∈ k_X7_behind, Mono q.2 := by
  unfold k_X7_behind
  refine List.forall_mem_cons.mpr ⟨mo_iload _ _, ?_⟩
  refine List.forall_mem_cons.mpr ⟨mo_push _ _, ?_⟩
  refine List.forall_mem_cons.mpr ⟨mo_push _ _, ?_⟩
  refine List.forall_mem_cons.mpr ⟨mo_call _ _ _, ?_⟩
  refine List.forall_mem_cons.mpr ⟨mo_if _ _ _, ?_⟩
  refine List.forall_mem_cons.mpr ⟨mo_aload _ _, ?_⟩
  refine List.forall_mem_cons.mpr ⟨mo_iload _ _, ?_⟩
  refine List.forall_mem_cons.mpr ⟨mo_call _ _ _, ?_⟩
  refine List.forall_mem_cons.mpr ⟨mo_if _ _ _, ?_⟩
  refine List.forall_mem_cons.mpr ⟨mo_aload _ _, ?_⟩
  refine List.forall_mem_cons.mpr ⟨mo_iload _ _, ?_⟩
  refine List.forall_mem_cons.mpr ⟨mo_call _ _ _, ?_⟩
  refine List.forall_mem_cons.mpr ⟨mo_if _ _ _, ?_⟩
  refine List.forall_mem_cons.mpr ⟨mo_push _ _, ?_⟩
  refine List.forall_mem_cons.mpr ⟨mo_iret, ?_⟩
  refine List.forall_mem_cons.mpr ⟨mo_aload _ _, ?_⟩
  refine List.forall_mem_cons.mpr ⟨mo_call _ _ _, ?_⟩
  refine List.forall_mem_cons.mpr ⟨mo_aload _ _, ?_⟩
  refine List.forall_mem_cons.mpr ⟨mo_iload _ _, ?_⟩
  refine List.forall_mem_cons.mpr ⟨mo_call _ _ _, ?_⟩
  refine List.forall_mem_cons.mpr ⟨mo_aload _ _, ?_⟩
  refine List.forall_mem_cons.mpr ⟨mo_get _ _, ?_⟩
  refine List.forall_mem_cons.mpr ⟨mo_push _ _, ?_⟩
  refine List.forall_mem_cons.mpr ⟨mo_iload _ _, ?_⟩
  refine List.forall_mem_cons.mpr ⟨mo_bin _, ?_⟩
  refine List.forall_mem_cons.mpr ⟨mo_iload _ _, ?_⟩
  refine List.forall_mem_cons.mpr ⟨mo_bin _, ?_⟩
  refine List.forall_mem_cons.mpr ⟨mo_iald, ?_⟩
  refine List.forall_mem_cons.mpr ⟨mo_istore _ _, ?_⟩
  refine List.forall_mem_cons.mpr ⟨mo_aload _ _, ?_⟩
  refine List.forall_mem_cons.mpr ⟨mo_call _ _ _, ?_⟩
  refine List.forall_mem_cons.mpr ⟨mo_iload _ _, ?_⟩
  refine List.forall_mem_cons.mpr ⟨mo_iret, ?_⟩
  exact fun _ h => absurd h List.not_mem_nil
def k_X7_when : List (Nat × aI) := [
  (0, i_aload 0 1),
  (1, i_iload 1 1),
  (2, i_callV 123 2 7),
  (5, i_if (fun x => x = 0) 18 8),
  (8, i_iload 2 1),
  (9, i_push (.int 0) 1),
  (10, i_push (.int 9) 2),
  (12, i_callS 117 3),
  (15, i_if (fun x => x = 0) 18 20),
  (18, i_push (.int (-1)) 1),
  (19, i_iret),
  (20, i_aload 0 1),
  (21, i_callV 156 1 7),
  (24, i_push (.int 0) 1),
  (25, i_istore 3 1),
  (26, i_iload 3 1),
  (27, i_push (.int 40) 2),
  (29, i_icmp (fun x y => x < y) 32 53),
  (32, i_aload 0 1),
  (33, i_get 7 4),
  (36, i_iload 1 1),
  (37, i_iald),
  (38, i_iload 2 1),
  (39, i_icmp (fun x y => x = y) 53 42),
  (42, i_aload 0 1),
  (43, i_callV 139 1 7),
  (46, i_pop),
  (47, i_iinc 3 1),
  (50, i_goto 26),
  (53, i_aload 0 1),
  (54, i_get 7 4),
  (57, i_iload 1 1),
  (58, i_iald),
  (59, i_iload 2 1),
  (60, i_icmp (fun x y => x = y) 63 67),
  (63, i_push (.int 1) 1),
  (64, i_goto 68),
  (67, i_push (.int 0) 1),
  (68, i_istore 4 2),
  (70, i_aload 0 1),
  (71, i_callV 157 1 7),
  (74, i_iload 4 2),
  (76, i_if (fun x => x = 0) 83 79),
  (79, i_iload 3 1),
  (80, i_goto 85),
  (83, i_push (.int (-4)) 2),
  (85, i_iret)]
theorem s_X7_when : ∀ q ∈ k_X7_when, Snd RX7 cX7_when (some .int) false q.1 q.2 := by
  unfold k_X7_when
  refine List.forall_mem_cons.mpr ⟨snd_aload_n (by decide +kernel : decode cX7_when 0 = .ok (.aload_n 0, 1)) rfl, ?_⟩
  refine List.forall_mem_cons.mpr ⟨snd_iload_n (by decide +kernel : decode cX7_when 1 = .ok (.iload_n 1, 1)) rfl, ?_⟩
  refine List.forall_mem_cons.mpr ⟨snd_callV mok_123 wd_611 wd_614 wd_615 rfl rfl (by decide +kernel : decode cX7_when 2 = .ok (.invokevirtual 134, 3)), ?_⟩
  refine List.forall_mem_cons.mpr ⟨snd_if_eq (by decide +kernel : decode cX7_when 5 = .ok (.ifCond .eq 13, 3)) (by decide +kernel), ?_⟩
  refine List.forall_mem_cons.mpr ⟨snd_iload_n (by decide +kernel : decode cX7_when 8 = .ok (.iload_n 2, 1)) rfl, ?_⟩
  refine List.forall_mem_cons.mpr ⟨snd_iconst (by decide +kernel : decode cX7_when 9 = .ok (.iconst 0, 1)) (by decide +kernel), ?_⟩
  refine List.forall_mem_cons.mpr ⟨snd_bipush (by decide +kernel : decode cX7_when 10 = .ok (.bipush 9, 2)) (by decide +kernel), ?_⟩
  refine List.forall_mem_cons.mpr ⟨snd_callS mok_117 wd_554 wd_557 (by decide +kernel : decode cX7_when 12 = .ok (.invokestatic 75, 3)), ?_⟩
  refine List.forall_mem_cons.mpr ⟨snd_if_ne (by decide +kernel : decode cX7_when 15 = .ok (.ifCond .ne 5, 3)) (by decide +kernel), ?_⟩
  refine List.forall_mem_cons.mpr ⟨snd_iconst (by decide +kernel : decode cX7_when 18 = .ok (.iconst (-1), 1)) (by decide +kernel), ?_⟩
  refine List.forall_mem_cons.mpr ⟨snd_iret (by decide +kernel : decode cX7_when 19 = .ok (.ireturn, 1)), ?_⟩
  refine List.forall_mem_cons.mpr ⟨snd_aload_n (by decide +kernel : decode cX7_when 20 = .ok (.aload_n 0, 1)) rfl, ?_⟩
  refine List.forall_mem_cons.mpr ⟨snd_callV mok_156 wd_661 wd_664 wd_665 rfl rfl (by decide +kernel : decode cX7_when 21 = .ok (.invokevirtual 167, 3)), ?_⟩
  refine List.forall_mem_cons.mpr ⟨snd_iconst (by decide +kernel : decode cX7_when 24 = .ok (.iconst 0, 1)) (by decide +kernel), ?_⟩
  refine List.forall_mem_cons.mpr ⟨snd_istore_n (by decide +kernel : decode cX7_when 25 = .ok (.istore_n 3, 1)) rfl, ?_⟩
  refine List.forall_mem_cons.mpr ⟨snd_iload_n (by decide +kernel : decode cX7_when 26 = .ok (.iload_n 3, 1)) rfl, ?_⟩
  refine List.forall_mem_cons.mpr ⟨snd_bipush (by decide +kernel : decode cX7_when 27 = .ok (.bipush 40, 2)) (by decide +kernel), ?_⟩
  refine List.forall_mem_cons.mpr ⟨snd_icmp_ge (by decide +kernel : decode cX7_when 29 = .ok (.if_icmp .ge 24, 3)) (by decide +kernel), ?_⟩
  refine List.forall_mem_cons.mpr ⟨snd_aload_n (by decide +kernel : decode cX7_when 32 = .ok (.aload_n 0, 1)) rfl, ?_⟩
  refine List.forall_mem_cons.mpr ⟨snd_get fl_7_13 (by decide +kernel : decode cX7_when 33 = .ok (.getfield 13, 3)), ?_⟩
  refine List.forall_mem_cons.mpr ⟨snd_iload_n (by decide +kernel : decode cX7_when 36 = .ok (.iload_n 1, 1)) rfl, ?_⟩
  refine List.forall_mem_cons.mpr ⟨snd_iald (by decide +kernel : decode cX7_when 37 = .ok (.iaload, 1)), ?_⟩
  refine List.forall_mem_cons.mpr ⟨snd_iload_n (by decide +kernel : decode cX7_when 38 = .ok (.iload_n 2, 1)) rfl, ?_⟩
  refine List.forall_mem_cons.mpr ⟨snd_icmp_eq (by decide +kernel : decode cX7_when 39 = .ok (.if_icmp .eq 14, 3)) (by decide +kernel), ?_⟩
  refine List.forall_mem_cons.mpr ⟨snd_aload_n (by decide +kernel : decode cX7_when 42 = .ok (.aload_n 0, 1)) rfl, ?_⟩
  refine List.forall_mem_cons.mpr ⟨snd_callV mok_139 wd_621 wd_624 wd_625 rfl rfl (by decide +kernel : decode cX7_when 43 = .ok (.invokevirtual 141, 3)), ?_⟩
  refine List.forall_mem_cons.mpr ⟨snd_pop (by decide +kernel : decode cX7_when 46 = .ok (.pop, 1)), ?_⟩
  refine List.forall_mem_cons.mpr ⟨snd_iinc (by decide +kernel : decode cX7_when 47 = .ok (.iinc 3 1, 3)) (by decide +kernel), ?_⟩
  refine List.forall_mem_cons.mpr ⟨snd_goto (by decide +kernel : decode cX7_when 50 = .ok (.goto (-24), 3)) (by decide +kernel), ?_⟩
  refine List.forall_mem_cons.mpr ⟨snd_aload_n (by decide +kernel : decode cX7_when 53 = .ok (.aload_n 0, 1)) rfl, ?_⟩
  refine List.forall_mem_cons.mpr ⟨snd_get fl_7_13 (by decide +kernel : decode cX7_when 54 = .ok (.getfield 13, 3)), ?_⟩
  refine List.forall_mem_cons.mpr ⟨snd_iload_n (by decide +kernel : decode cX7_when 57 = .ok (.iload_n 1, 1)) rfl, ?_⟩
  refine List.forall_mem_cons.mpr ⟨snd_iald (by decide +kernel : decode cX7_when 58 = .ok (.iaload, 1)), ?_⟩
  refine List.forall_mem_cons.mpr ⟨snd_iload_n (by decide +kernel : decode cX7_when 59 = .ok (.iload_n 2, 1)) rfl, ?_⟩
  refine List.forall_mem_cons.mpr ⟨snd_icmp_ne (by decide +kernel : decode cX7_when 60 = .ok (.if_icmp .ne 7, 3)) (by decide +kernel), ?_⟩
  refine List.forall_mem_cons.mpr ⟨snd_iconst (by decide +kernel : decode cX7_when 63 = .ok (.iconst 1, 1)) (by decide +kernel), ?_⟩
  refine List.forall_mem_cons.mpr ⟨snd_goto (by decide +kernel : decode cX7_when 64 = .ok (.goto 4, 3)) (by decide +kernel), ?_⟩
  refine List.forall_mem_cons.mpr ⟨snd_iconst (by decide +kernel : decode cX7_when 67 = .ok (.iconst 0, 1)) (by decide +kernel), ?_⟩
  refine List.forall_mem_cons.mpr ⟨snd_istore (by decide +kernel : decode cX7_when 68 = .ok (.istore 4, 2)), ?_⟩
  refine List.forall_mem_cons.mpr ⟨snd_aload_n (by decide +kernel : decode cX7_when 70 = .ok (.aload_n 0, 1)) rfl, ?_⟩
  refine List.forall_mem_cons.mpr ⟨snd_callV mok_157 wd_666 wd_669 wd_670 rfl rfl (by decide +kernel : decode cX7_when 71 = .ok (.invokevirtual 170, 3)), ?_⟩
  refine List.forall_mem_cons.mpr ⟨snd_iload (by decide +kernel : decode cX7_when 74 = .ok (.iload 4, 2)), ?_⟩
  refine List.forall_mem_cons.mpr ⟨snd_if_eq (by decide +kernel : decode cX7_when 76 = .ok (.ifCond .eq 7, 3)) (by decide +kernel), ?_⟩
  refine List.forall_mem_cons.mpr ⟨snd_iload_n (by decide +kernel : decode cX7_when 79 = .ok (.iload_n 3, 1)) rfl, ?_⟩
  refine List.forall_mem_cons.mpr ⟨snd_goto (by decide +kernel : decode cX7_when 80 = .ok (.goto 5, 3)) (by decide +kernel), ?_⟩
  refine List.forall_mem_cons.mpr ⟨snd_bipush (by decide +kernel : decode cX7_when 83 = .ok (.bipush (-4), 2)) (by decide +kernel), ?_⟩
  refine List.forall_mem_cons.mpr ⟨snd_iret (by decide +kernel : decode cX7_when 85 = .ok (.ireturn, 1)), ?_⟩
  exact fun _ h => absurd h List.not_mem_nil
theorem m_X7_when : ∀ q ∈ k_X7_when, Mono q.2 := by
  unfold k_X7_when
  refine List.forall_mem_cons.mpr ⟨mo_aload _ _, ?_⟩
  refine List.forall_mem_cons.mpr ⟨mo_iload _ _, ?_⟩
  refine List.forall_mem_cons.mpr ⟨mo_call _ _ _, ?_⟩
  refine List.forall_mem_cons.mpr ⟨mo_if _ _ _, ?_⟩
  refine List.forall_mem_cons.mpr ⟨mo_iload _ _, ?_⟩
  refine List.forall_mem_cons.mpr ⟨mo_push _ _, ?_⟩
  refine List.forall_mem_cons.mpr ⟨mo_push _ _, ?_⟩
  refine List.forall_mem_cons.mpr ⟨mo_call _ _ _, ?_⟩
  refine List.forall_mem_cons.mpr ⟨mo_if _ _ _, ?_⟩
  refine List.forall_mem_cons.mpr ⟨mo_push _ _, ?_⟩
  refine List.forall_mem_cons.mpr ⟨mo_iret, ?_⟩
  refine List.forall_mem_cons.mpr ⟨mo_aload _ _, ?_⟩
  refine List.forall_mem_cons.mpr ⟨mo_call _ _ _, ?_⟩
  refine List.forall_mem_cons.mpr ⟨mo_push _ _, ?_⟩
  refine List.forall_mem_cons.mpr ⟨mo_istore _ _, ?_⟩
  refine List.forall_mem_cons.mpr ⟨mo_iload _ _, ?_⟩
  refine List.forall_mem_cons.mpr ⟨mo_push _ _, ?_⟩
  refine List.forall_mem_cons.mpr ⟨mo_icmp _ _ _, ?_⟩
  refine List.forall_mem_cons.mpr ⟨mo_aload _ _, ?_⟩
  refine List.forall_mem_cons.mpr ⟨mo_get _ _, ?_⟩
  refine List.forall_mem_cons.mpr ⟨mo_iload _ _, ?_⟩
  refine List.forall_mem_cons.mpr ⟨mo_iald, ?_⟩
  refine List.forall_mem_cons.mpr ⟨mo_iload _ _, ?_⟩
  refine List.forall_mem_cons.mpr ⟨mo_icmp _ _ _, ?_⟩
  refine List.forall_mem_cons.mpr ⟨mo_aload _ _, ?_⟩
  refine List.forall_mem_cons.mpr ⟨mo_call _ _ _, ?_⟩
  refine List.forall_mem_cons.mpr ⟨mo_pop, ?_⟩
  refine List.forall_mem_cons.mpr ⟨mo_iinc _ _, ?_⟩
  refine List.forall_mem_cons.mpr ⟨mo_goto _, ?_⟩
  refine List.forall_mem_cons.mpr ⟨mo_aload _ _, ?_⟩
  refine List.forall_mem_cons.mpr ⟨mo_get _ _, ?_⟩
  refine List.forall_mem_cons.mpr ⟨mo_iload _ _, ?_⟩
  refine List.forall_mem_cons.mpr ⟨mo_iald, ?_⟩
  refine List.forall_mem_cons.mpr ⟨mo_iload _ _, ?_⟩
  refine List.forall_mem_cons.mpr ⟨mo_icmp _ _ _, ?_⟩
  refine List.forall_mem_cons.mpr ⟨mo_push _ _, ?_⟩
  refine List.forall_mem_cons.mpr ⟨mo_goto _, ?_⟩
  refine List.forall_mem_cons.mpr ⟨mo_push _ _, ?_⟩
  refine List.forall_mem_cons.mpr ⟨mo_istore _ _, ?_⟩
  refine List.forall_mem_cons.mpr ⟨mo_aload _ _, ?_⟩
  refine List.forall_mem_cons.mpr ⟨mo_call _ _ _, ?_⟩
  refine List.forall_mem_cons.mpr ⟨mo_iload _ _, ?_⟩
  refine List.forall_mem_cons.mpr ⟨mo_if _ _ _, ?_⟩
  refine List.forall_mem_cons.mpr ⟨mo_iload _ _, ?_⟩
  refine List.forall_mem_cons.mpr ⟨mo_goto _, ?_⟩
  refine List.forall_mem_cons.mpr ⟨mo_push _ _, ?_⟩
  refine List.forall_mem_cons.mpr ⟨mo_iret, ?_⟩
  exact fun _ h => absurd h List.not_mem_nil
def k_X7_rest : List (Nat × aI) := [
  (0, i_aload 0 1),
  (1, i_callV 156 1 7),
  (4, i_push (.int 0) 1),
  (5, i_istore 1 1),
  (6, i_iload 1 1),
  (7, i_push (.int 40) 2),
  (9, i_icmp (fun x y => y < x) 25 12),
  (12, i_aload 0 1),
  (13, i_callV 139 1 7),
  (16, i_if (fun x => x = 0) 25 19),
  (19, i_iinc 1 1),
  (22, i_goto 6),
  (25, i_aload 0 1),
  (26, i_callV 157 1 7),
  (29, i_iload 1 1),
  (30, i_push (.int 40) 2),
  (32, i_icmp (fun x y => y < x) 39 35),
  (35, i_iload 1 1),
  (36, i_goto 41),
  (39, i_push (.int (-4)) 2),
  (41, i_iret)]
theorem s_X7_rest : ∀ q ∈ k_X7_rest, Snd RX7 cX7_rest (some .int) false q.1 q.2 := by
  unfold k_X7_rest
  refine List.forall_mem_cons.mpr ⟨snd_aload_n (by decide +kernel : decode cX7_rest 0 = .ok (.aload_n 0, 1)) rfl, ?_⟩
  refine List.forall_mem_cons.mpr ⟨snd_callV mok_156 wd_661 wd_664 wd_665 rfl rfl (by decide +kernel : decode cX7_rest 1 = .ok (.invokevirtual 167, 3)), ?_⟩
  refine List.forall_mem_cons.mpr ⟨snd_iconst (by decide +kernel : decode cX7_rest 4 = .ok (.iconst 0, 1)) (by decide +kernel), ?_⟩
  refine List.forall_mem_cons.mpr ⟨snd_istore_n (by decide +kernel : decode cX7_rest 5 = .ok (.istore_n 1, 1)) rfl, ?_⟩
  refine List.forall_mem_cons.mpr ⟨snd_iload_n (by decide +kernel : decode cX7_rest 6 = .ok (.iload_n 1, 1)) rfl, ?_⟩
  refine List.forall_mem_cons.mpr ⟨snd_bipush (by decide +kernel : decode cX7_rest 7 = .ok (.bipush 40, 2)) (by decide +kernel), ?_⟩
  refine List.forall_mem_cons.mpr ⟨snd_icmp_gt (by decide +kernel : decode cX7_rest 9 = .ok (.if_icmp .gt 16, 3)) (by decide +kernel), ?_⟩
  refine List.forall_mem_cons.mpr ⟨snd_aload_n (by decide +kernel : decode cX7_rest 12 = .ok (.aload_n 0, 1)) rfl, ?_⟩
  refine List.forall_mem_cons.mpr ⟨snd_callV mok_139 wd_621 wd_624 wd_625 rfl rfl (by decide +kernel : decode cX7_rest 13 = .ok (.invokevirtual 141, 3)), ?_⟩
  refine List.forall_mem_cons.mpr ⟨snd_if_eq (by decide +kernel : decode cX7_rest 16 = .ok (.ifCond .eq 9, 3)) (by decide +kernel), ?_⟩
  refine List.forall_mem_cons.mpr ⟨snd_iinc (by decide +kernel : decode cX7_rest 19 = .ok (.iinc 1 1, 3)) (by decide +kernel), ?_⟩
  refine List.forall_mem_cons.mpr ⟨snd_goto (by decide +kernel : decode cX7_rest 22 = .ok (.goto (-16), 3)) (by decide +kernel), ?_⟩
  refine List.forall_mem_cons.mpr ⟨snd_aload_n (by decide +kernel : decode cX7_rest 25 = .ok (.aload_n 0, 1)) rfl, ?_⟩
  refine List.forall_mem_cons.mpr ⟨snd_callV mok_157 wd_666 wd_669 wd_670 rfl rfl (by decide +kernel : decode cX7_rest 26 = .ok (.invokevirtual 170, 3)), ?_⟩
  refine List.forall_mem_cons.mpr ⟨snd_iload_n (by decide +kernel : decode cX7_rest 29 = .ok (.iload_n 1, 1)) rfl, ?_⟩
  refine List.forall_mem_cons.mpr ⟨snd_bipush (by decide +kernel : decode cX7_rest 30 = .ok (.bipush 40, 2)) (by decide +kernel), ?_⟩
  refine List.forall_mem_cons.mpr ⟨snd_icmp_gt (by decide +kernel : decode cX7_rest 32 = .ok (.if_icmp .gt 7, 3)) (by decide +kernel), ?_⟩
  refine List.forall_mem_cons.mpr ⟨snd_iload_n (by decide +kernel : decode cX7_rest 35 = .ok (.iload_n 1, 1)) rfl, ?_⟩
  refine List.forall_mem_cons.mpr ⟨snd_goto (by decide +kernel : decode cX7_rest 36 = .ok (.goto 5, 3)) (by decide +kernel), ?_⟩
  refine List.forall_mem_cons.mpr ⟨snd_bipush (by decide +kernel : decode cX7_rest 39 = .ok (.bipush (-4), 2)) (by decide +kernel), ?_⟩
  refine List.forall_mem_cons.mpr ⟨snd_iret (by decide +kernel : decode cX7_rest 41 = .ok (.ireturn, 1)), ?_⟩
  exact fun _ h => absurd h List.not_mem_nil
theorem m_X7_rest : ∀ q ∈ k_X7_rest, Mono q.2 := by
  unfold k_X7_rest
  refine List.forall_mem_cons.mpr ⟨mo_aload _ _, ?_⟩
  refine List.forall_mem_cons.mpr ⟨mo_call _ _ _, ?_⟩
  refine List.forall_mem_cons.mpr ⟨mo_push _ _, ?_⟩
  refine List.forall_mem_cons.mpr ⟨mo_istore _ _, ?_⟩
  refine List.forall_mem_cons.mpr ⟨mo_iload _ _, ?_⟩
  refine List.forall_mem_cons.mpr ⟨mo_push _ _, ?_⟩
  refine List.forall_mem_cons.mpr ⟨mo_icmp _ _ _, ?_⟩
  refine List.forall_mem_cons.mpr ⟨mo_aload _ _, ?_⟩
  refine List.forall_mem_cons.mpr ⟨mo_call _ _ _, ?_⟩
  refine List.forall_mem_cons.mpr ⟨mo_if _ _ _, ?_⟩
  refine List.forall_mem_cons.mpr ⟨mo_iinc _ _, ?_⟩
  refine List.forall_mem_cons.mpr ⟨mo_goto _, ?_⟩
  refine List.forall_mem_cons.mpr ⟨mo_aload _ _, ?_⟩
  refine List.forall_mem_cons.mpr ⟨mo_call _ _ _, ?_⟩
  refine List.forall_mem_cons.mpr ⟨mo_iload _ _, ?_⟩
  refine List.forall_mem_cons.mpr ⟨mo_push _ _, ?_⟩
  refine List.forall_mem_cons.mpr ⟨mo_icmp _ _ _, ?_⟩
  refine List.forall_mem_cons.mpr ⟨mo_iload _ _, ?_⟩
  refine List.forall_mem_cons.mpr ⟨mo_goto _, ?_⟩
  refine List.forall_mem_cons.mpr ⟨mo_push _ _, ?_⟩
  refine List.forall_mem_cons.mpr ⟨mo_iret, ?_⟩
  exact fun _ h => absurd h List.not_mem_nil
def k_X7_metBehind : List (Nat × aI) := [
  (0, i_aload 0 1),
  (1, i_callV 156 1 7),
  (4, i_aload 0 1),
  (5, i_iload 1 1),
  (6, i_callV 140 2 7),
  (9, i_aload 0 1),
  (10, i_callV 141 1 7),
  (13, i_istore 2 1),
  (14, i_aload 0 1),
  (15, i_callV 157 1 7),
  (18, i_iload 2 1),
  (19, i_iret)]
theorem s_X7_metBehind : ∀ q ∈ k_X7_metBehind, Snd RX7 cX7_metBehind (some .int) false q.1 q.2 := by
  unfold k_X7_metBehind
  refine List.forall_mem_cons.mpr ⟨snd_aload_n (by decide +kernel : decode cX7_metBehind 0 = .ok (.aload_n 0, 1)) rfl, ?_⟩
  refine List.forall_mem_cons.mpr ⟨snd_callV mok_156 wd_661 wd_664 wd_665 rfl rfl (by decide +kernel : decode cX7_metBehind 1 = .ok (.invokevirtual 167, 3)), ?_⟩
  refine List.forall_mem_cons.mpr ⟨snd_aload_n (by decide +kernel : decode cX7_metBehind 4 = .ok (.aload_n 0, 1)) rfl, ?_⟩
  refine List.forall_mem_cons.mpr ⟨snd_iload_n (by decide +kernel : decode cX7_metBehind 5 = .ok (.iload_n 1, 1)) rfl, ?_⟩
  refine List.forall_mem_cons.mpr ⟨snd_callV mok_140 wd_636 wd_639 wd_640 rfl rfl (by decide +kernel : decode cX7_metBehind 6 = .ok (.invokevirtual 151, 3)), ?_⟩
  refine List.forall_mem_cons.mpr ⟨snd_aload_n (by decide +kernel : decode cX7_metBehind 9 = .ok (.aload_n 0, 1)) rfl, ?_⟩
  refine List.forall_mem_cons.mpr ⟨snd_callV mok_141 wd_671 wd_674 wd_675 rfl rfl (by decide +kernel : decode cX7_metBehind 10 = .ok (.invokevirtual 173, 3)), ?_⟩
  refine List.forall_mem_cons.mpr ⟨snd_istore_n (by decide +kernel : decode cX7_metBehind 13 = .ok (.istore_n 2, 1)) rfl, ?_⟩
  refine List.forall_mem_cons.mpr ⟨snd_aload_n (by decide +kernel : decode cX7_metBehind 14 = .ok (.aload_n 0, 1)) rfl, ?_⟩
  refine List.forall_mem_cons.mpr ⟨snd_callV mok_157 wd_666 wd_669 wd_670 rfl rfl (by decide +kernel : decode cX7_metBehind 15 = .ok (.invokevirtual 170, 3)), ?_⟩
  refine List.forall_mem_cons.mpr ⟨snd_iload_n (by decide +kernel : decode cX7_metBehind 18 = .ok (.iload_n 2, 1)) rfl, ?_⟩
  refine List.forall_mem_cons.mpr ⟨snd_iret (by decide +kernel : decode cX7_metBehind 19 = .ok (.ireturn, 1)), ?_⟩
  exact fun _ h => absurd h List.not_mem_nil
theorem m_X7_metBehind : ∀ q ∈ k_X7_metBehind, Mono q.2 := by
  unfold k_X7_metBehind
  refine List.forall_mem_cons.mpr ⟨mo_aload _ _, ?_⟩
  refine List.forall_mem_cons.mpr ⟨mo_call _ _ _, ?_⟩
  refine List.forall_mem_cons.mpr ⟨mo_aload _ _, ?_⟩
  refine List.forall_mem_cons.mpr ⟨mo_iload _ _, ?_⟩
  refine List.forall_mem_cons.mpr ⟨mo_call _ _ _, ?_⟩
  refine List.forall_mem_cons.mpr ⟨mo_aload _ _, ?_⟩
  refine List.forall_mem_cons.mpr ⟨mo_call _ _ _, ?_⟩
  refine List.forall_mem_cons.mpr ⟨mo_istore _ _, ?_⟩
  refine List.forall_mem_cons.mpr ⟨mo_aload _ _, ?_⟩
  refine List.forall_mem_cons.mpr ⟨mo_call _ _ _, ?_⟩
  refine List.forall_mem_cons.mpr ⟨mo_iload _ _, ?_⟩
  refine List.forall_mem_cons.mpr ⟨mo_iret, ?_⟩
  exact fun _ h => absurd h List.not_mem_nil
def k_X7_met : List (Nat × aI) := [
  (0, i_iload 1 1),
  (1, i_push (.int 0) 1),
  (2, i_push (.int 40) 2),
  (4, i_callS 117 3),
  (7, i_if (fun x => x = 0) 18 10),
  (10, i_aload 0 1),
  (11, i_iload 1 1),
  (12, i_callV 161 2 7),
  (15, i_goto 19),
  (18, i_push (.int (-1)) 1),
  (19, i_iret)]
theorem s_X7_met : ∀ q ∈ k_X7_met, Snd RX7 cX7_met (some .int) false q.1 q.2 := by
  unfold k_X7_met
  refine List.forall_mem_cons.mpr ⟨snd_iload_n (by decide +kernel : decode cX7_met 0 = .ok (.iload_n 1, 1)) rfl, ?_⟩
  refine List.forall_mem_cons.mpr ⟨snd_iconst (by decide +kernel : decode cX7_met 1 = .ok (.iconst 0, 1)) (by decide +kernel), ?_⟩
  refine List.forall_mem_cons.mpr ⟨snd_bipush (by decide +kernel : decode cX7_met 2 = .ok (.bipush 40, 2)) (by decide +kernel), ?_⟩
  refine List.forall_mem_cons.mpr ⟨snd_callS mok_117 wd_554 wd_557 (by decide +kernel : decode cX7_met 4 = .ok (.invokestatic 75, 3)), ?_⟩
  refine List.forall_mem_cons.mpr ⟨snd_if_eq (by decide +kernel : decode cX7_met 7 = .ok (.ifCond .eq 11, 3)) (by decide +kernel), ?_⟩
  refine List.forall_mem_cons.mpr ⟨snd_aload_n (by decide +kernel : decode cX7_met 10 = .ok (.aload_n 0, 1)) rfl, ?_⟩
  refine List.forall_mem_cons.mpr ⟨snd_iload_n (by decide +kernel : decode cX7_met 11 = .ok (.iload_n 1, 1)) rfl, ?_⟩
  refine List.forall_mem_cons.mpr ⟨snd_callV mok_161 wd_676 wd_679 wd_680 rfl rfl (by decide +kernel : decode cX7_met 12 = .ok (.invokevirtual 176, 3)), ?_⟩
  refine List.forall_mem_cons.mpr ⟨snd_goto (by decide +kernel : decode cX7_met 15 = .ok (.goto 4, 3)) (by decide +kernel), ?_⟩
  refine List.forall_mem_cons.mpr ⟨snd_iconst (by decide +kernel : decode cX7_met 18 = .ok (.iconst (-1), 1)) (by decide +kernel), ?_⟩
  refine List.forall_mem_cons.mpr ⟨snd_iret (by decide +kernel : decode cX7_met 19 = .ok (.ireturn, 1)), ?_⟩
  exact fun _ h => absurd h List.not_mem_nil
theorem m_X7_met : ∀ q ∈ k_X7_met, Mono q.2 := by
  unfold k_X7_met
  refine List.forall_mem_cons.mpr ⟨mo_iload _ _, ?_⟩
  refine List.forall_mem_cons.mpr ⟨mo_push _ _, ?_⟩
  refine List.forall_mem_cons.mpr ⟨mo_push _ _, ?_⟩
  refine List.forall_mem_cons.mpr ⟨mo_call _ _ _, ?_⟩
  refine List.forall_mem_cons.mpr ⟨mo_if _ _ _, ?_⟩
  refine List.forall_mem_cons.mpr ⟨mo_aload _ _, ?_⟩
  refine List.forall_mem_cons.mpr ⟨mo_iload _ _, ?_⟩
  refine List.forall_mem_cons.mpr ⟨mo_call _ _ _, ?_⟩
  refine List.forall_mem_cons.mpr ⟨mo_goto _, ?_⟩
  refine List.forall_mem_cons.mpr ⟨mo_push _ _, ?_⟩
  refine List.forall_mem_cons.mpr ⟨mo_iret, ?_⟩
  exact fun _ h => absurd h List.not_mem_nil
def k_X7_pinsFor : List (Nat × aI) := [
  (0, i_push (.int 5) 1),
  (1, i_aload 0 1),
  (2, i_get 7 0),
  (5, i_push (.int 1) 1),
  (6, i_bin (fun x y => x - y)),
  (7, i_bin (fun x y => x * y)),
  (8, i_istore 2 1),
  (9, i_push (.int 0) 1),
  (10, i_istore 3 1),
  (11, i_push (.int 0) 1),
  (12, i_istore 4 2),
  (14, i_iload 4 2),
  (16, i_aload 0 1),
  (17, i_get 7 0),
  (20, i_push (.int 1) 1),
  (21, i_bin (fun x y => x - y)),
  (22, i_icmp (fun x y => x < y) 25 50),
  (25, i_iload 3 1),
  (26, i_aload 0 1),
  (27, i_get 7 2),
  (30, i_iload 4 2),
  (32, i_iald),
  (33, i_push (.int 3) 1),
  (34, i_icmp (fun x y => x = y) 37 41),
  (37, i_push (.int 1) 1),
  (38, i_goto 42),
  (41, i_push (.int 0) 1),
  (42, i_bin (fun x y => x + y)),
  (43, i_istore 3 1),
  (44, i_iinc 4 1),
  (47, i_goto 14),
  (50, i_push (.int 0) 1),
  (51, i_istore 4 2),
  (53, i_iload 4 2),
  (55, i_aload 0 1),
  (56, i_get 7 1),
  (59, i_icmp (fun x y => x < y) 62 84),
  (62, i_aload 0 1),
  (63, i_get 7 24),
  (66, i_iload 4 2),
  (68, i_aload 0 1),
  (69, i_get 7 4),
  (72, i_iload 2 1),
  (73, i_iload 4 2),
  (75, i_bin (fun x y => x + y)),
  (76, i_iald),
  (77, i_iast),
  (78, i_iinc 4 1),
  (81, i_goto 53),
  (84, i_aload 0 1),
  (85, i_iload 1 1),
  (86, i_callV 161 2 7),
  (89, i_istore 4 2),
  (91, i_push (.int 0) 1),
  (92, i_istore 5 2),
  (94, i_push (.int 0) 1),
  (95, i_istore 6 2),
  (97, i_iload 6 2),
  (99, i_aload 0 1),
  (100, i_get 7 1),
  (103, i_icmp (fun x y => x < y) 106 241),
  (106, i_aload 0 1),
  (107, i_get 7 6),
  (110, i_iload 6 2),
  (112, i_iald),
  (113, i_push (.int (-4)) 2),
  (115, i_icmp (fun x y => x = y) 235 118),
  (118, i_iload 4 2),
  (120, i_iload 6 2),
  (122, i_callS 118 2),
  (125, i_if (fun x => x = 0) 128 235),
  (128, i_iload 6 2),
  (130, i_iload 3 1),
  (131, i_bin (fun x y => x + y)),
  (132, i_aload 0 1),
  (133, i_get 7 1),
  (136, i_div (fun x y => x - x / y * y)),
  (137, i_istore 7 2),
  (139, i_aload 0 1),
  (140, i_get 7 4),
  (143, i_iload 2 1),
  (144, i_iload 7 2),
  (146, i_bin (fun x y => x + y)),
  (147, i_iald),
  (148, i_istore 8 2),
  (150, i_push (.int (-4)) 2),
  (152, i_istore 9 2),
  (154, i_push (.int 9) 2),
  (156, i_istore 10 2),
  (158, i_iload 10 2),
  (160, i_if (fun x => x < 0) 202 163),
  (163, i_aload 0 1),
  (164, i_get 7 4),
  (167, i_iload 2 1),
  (168, i_iload 7 2),
  (170, i_bin (fun x y => x + y)),
  (171, i_iload 10 2),
  (173, i_iast),
  (174, i_aload 0 1),
  (175, i_iload 1 1),
  (176, i_callV 161 2 7),
  (179, i_iload 6 2),
  (181, i_callS 118 2),
  (184, i_if (fun x => x = 0) 192 187),
  (187, i_iload 10 2),
  (189, i_goto 194),
  (192, i_iload 9 2),
  (194, i_istore 9 2),
  (196, i_iinc 10 (-1)),
  (199, i_goto 158),
  (202, i_aload 0 1),
  (203, i_get 7 4),
  (206, i_iload 2 1),
  (207, i_iload 7 2),
  (209, i_bin (fun x y => x + y)),
  (210, i_iload 8 2),
  (212, i_iast),
  (213, i_iload 9 2),
  (215, i_push (.int (-4)) 2),
  (217, i_icmp (fun x y => x = y) 220 223),
  (220, i_push (.int (-4)) 2),
  (222, i_iret),
  (223, i_aload 0 1),
  (224, i_get 7 24),
  (227, i_iload 7 2),
  (229, i_iload 9 2),
  (231, i_iast),
  (232, i_iinc 5 1),
  (235, i_iinc 6 1),
  (238, i_goto 97),
  (241, i_iload 5 2),
  (243, i_iret)]
theorem s_X7_pinsFor : ∀ q ∈ k_X7_pinsFor, Snd RX7 cX7_pinsFor (some .int) false q.1 q.2 := by
  unfold k_X7_pinsFor
  refine List.forall_mem_cons.mpr ⟨snd_iconst (by decide +kernel : decode cX7_pinsFor 0 = .ok (.iconst 5, 1)) (by decide +kernel), ?_⟩
  refine List.forall_mem_cons.mpr ⟨snd_aload_n (by decide +kernel : decode cX7_pinsFor 1 = .ok (.aload_n 0, 1)) rfl, ?_⟩
  refine List.forall_mem_cons.mpr ⟨snd_get fl_7_72 (by decide +kernel : decode cX7_pinsFor 2 = .ok (.getfield 72, 3)), ?_⟩
  refine List.forall_mem_cons.mpr ⟨snd_iconst (by decide +kernel : decode cX7_pinsFor 5 = .ok (.iconst 1, 1)) (by decide +kernel), ?_⟩
  refine List.forall_mem_cons.mpr ⟨snd_isub (by decide +kernel : decode cX7_pinsFor 6 = .ok (.isub, 1)), ?_⟩
  refine List.forall_mem_cons.mpr ⟨snd_imul (by decide +kernel : decode cX7_pinsFor 7 = .ok (.imul, 1)), ?_⟩
  refine List.forall_mem_cons.mpr ⟨snd_istore_n (by decide +kernel : decode cX7_pinsFor 8 = .ok (.istore_n 2, 1)) rfl, ?_⟩
  refine List.forall_mem_cons.mpr ⟨snd_iconst (by decide +kernel : decode cX7_pinsFor 9 = .ok (.iconst 0, 1)) (by decide +kernel), ?_⟩
  refine List.forall_mem_cons.mpr ⟨snd_istore_n (by decide +kernel : decode cX7_pinsFor 10 = .ok (.istore_n 3, 1)) rfl, ?_⟩
  refine List.forall_mem_cons.mpr ⟨snd_iconst (by decide +kernel : decode cX7_pinsFor 11 = .ok (.iconst 0, 1)) (by decide +kernel), ?_⟩
  refine List.forall_mem_cons.mpr ⟨snd_istore (by decide +kernel : decode cX7_pinsFor 12 = .ok (.istore 4, 2)), ?_⟩
  refine List.forall_mem_cons.mpr ⟨snd_iload (by decide +kernel : decode cX7_pinsFor 14 = .ok (.iload 4, 2)), ?_⟩
  refine List.forall_mem_cons.mpr ⟨snd_aload_n (by decide +kernel : decode cX7_pinsFor 16 = .ok (.aload_n 0, 1)) rfl, ?_⟩
  refine List.forall_mem_cons.mpr ⟨snd_get fl_7_72 (by decide +kernel : decode cX7_pinsFor 17 = .ok (.getfield 72, 3)), ?_⟩
  refine List.forall_mem_cons.mpr ⟨snd_iconst (by decide +kernel : decode cX7_pinsFor 20 = .ok (.iconst 1, 1)) (by decide +kernel), ?_⟩
  refine List.forall_mem_cons.mpr ⟨snd_isub (by decide +kernel : decode cX7_pinsFor 21 = .ok (.isub, 1)), ?_⟩
  refine List.forall_mem_cons.mpr ⟨snd_icmp_ge (by decide +kernel : decode cX7_pinsFor 22 = .ok (.if_icmp .ge 28, 3)) (by decide +kernel), ?_⟩
  refine List.forall_mem_cons.mpr ⟨snd_iload_n (by decide +kernel : decode cX7_pinsFor 25 = .ok (.iload_n 3, 1)) rfl, ?_⟩
  refine List.forall_mem_cons.mpr ⟨snd_aload_n (by decide +kernel : decode cX7_pinsFor 26 = .ok (.aload_n 0, 1)) rfl, ?_⟩
  refine List.forall_mem_cons.mpr ⟨snd_get fl_7_9 (by decide +kernel : decode cX7_pinsFor 27 = .ok (.getfield 9, 3)), ?_⟩
  refine List.forall_mem_cons.mpr ⟨snd_iload (by decide +kernel : decode cX7_pinsFor 30 = .ok (.iload 4, 2)), ?_⟩
  refine List.forall_mem_cons.mpr ⟨snd_iald (by decide +kernel : decode cX7_pinsFor 32 = .ok (.iaload, 1)), ?_⟩
  refine List.forall_mem_cons.mpr ⟨snd_iconst (by decide +kernel : decode cX7_pinsFor 33 = .ok (.iconst 3, 1)) (by decide +kernel), ?_⟩
  refine List.forall_mem_cons.mpr ⟨snd_icmp_ne (by decide +kernel : decode cX7_pinsFor 34 = .ok (.if_icmp .ne 7, 3)) (by decide +kernel), ?_⟩
  refine List.forall_mem_cons.mpr ⟨snd_iconst (by decide +kernel : decode cX7_pinsFor 37 = .ok (.iconst 1, 1)) (by decide +kernel), ?_⟩
  refine List.forall_mem_cons.mpr ⟨snd_goto (by decide +kernel : decode cX7_pinsFor 38 = .ok (.goto 4, 3)) (by decide +kernel), ?_⟩
  refine List.forall_mem_cons.mpr ⟨snd_iconst (by decide +kernel : decode cX7_pinsFor 41 = .ok (.iconst 0, 1)) (by decide +kernel), ?_⟩
  refine List.forall_mem_cons.mpr ⟨snd_iadd (by decide +kernel : decode cX7_pinsFor 42 = .ok (.iadd, 1)), ?_⟩
  refine List.forall_mem_cons.mpr ⟨snd_istore_n (by decide +kernel : decode cX7_pinsFor 43 = .ok (.istore_n 3, 1)) rfl, ?_⟩
  refine List.forall_mem_cons.mpr ⟨snd_iinc (by decide +kernel : decode cX7_pinsFor 44 = .ok (.iinc 4 1, 3)) (by decide +kernel), ?_⟩
  refine List.forall_mem_cons.mpr ⟨snd_goto (by decide +kernel : decode cX7_pinsFor 47 = .ok (.goto (-33), 3)) (by decide +kernel), ?_⟩
  refine List.forall_mem_cons.mpr ⟨snd_iconst (by decide +kernel : decode cX7_pinsFor 50 = .ok (.iconst 0, 1)) (by decide +kernel), ?_⟩
  refine List.forall_mem_cons.mpr ⟨snd_istore (by decide +kernel : decode cX7_pinsFor 51 = .ok (.istore 4, 2)), ?_⟩
  refine List.forall_mem_cons.mpr ⟨snd_iload (by decide +kernel : decode cX7_pinsFor 53 = .ok (.iload 4, 2)), ?_⟩
  refine List.forall_mem_cons.mpr ⟨snd_aload_n (by decide +kernel : decode cX7_pinsFor 55 = .ok (.aload_n 0, 1)) rfl, ?_⟩
  refine List.forall_mem_cons.mpr ⟨snd_get fl_7_64 (by decide +kernel : decode cX7_pinsFor 56 = .ok (.getfield 64, 3)), ?_⟩
  refine List.forall_mem_cons.mpr ⟨snd_icmp_ge (by decide +kernel : decode cX7_pinsFor 59 = .ok (.if_icmp .ge 25, 3)) (by decide +kernel), ?_⟩
  refine List.forall_mem_cons.mpr ⟨snd_aload_n (by decide +kernel : decode cX7_pinsFor 62 = .ok (.aload_n 0, 1)) rfl, ?_⟩
  refine List.forall_mem_cons.mpr ⟨snd_get fl_7_55 (by decide +kernel : decode cX7_pinsFor 63 = .ok (.getfield 55, 3)), ?_⟩
  refine List.forall_mem_cons.mpr ⟨snd_iload (by decide +kernel : decode cX7_pinsFor 66 = .ok (.iload 4, 2)), ?_⟩
  refine List.forall_mem_cons.mpr ⟨snd_aload_n (by decide +kernel : decode cX7_pinsFor 68 = .ok (.aload_n 0, 1)) rfl, ?_⟩
  refine List.forall_mem_cons.mpr ⟨snd_get fl_7_13 (by decide +kernel : decode cX7_pinsFor 69 = .ok (.getfield 13, 3)), ?_⟩
  refine List.forall_mem_cons.mpr ⟨snd_iload_n (by decide +kernel : decode cX7_pinsFor 72 = .ok (.iload_n 2, 1)) rfl, ?_⟩
  refine List.forall_mem_cons.mpr ⟨snd_iload (by decide +kernel : decode cX7_pinsFor 73 = .ok (.iload 4, 2)), ?_⟩
  refine List.forall_mem_cons.mpr ⟨snd_iadd (by decide +kernel : decode cX7_pinsFor 75 = .ok (.iadd, 1)), ?_⟩
  refine List.forall_mem_cons.mpr ⟨snd_iald (by decide +kernel : decode cX7_pinsFor 76 = .ok (.iaload, 1)), ?_⟩
  refine List.forall_mem_cons.mpr ⟨snd_iast (by decide +kernel : decode cX7_pinsFor 77 = .ok (.iastore, 1)), ?_⟩
  refine List.forall_mem_cons.mpr ⟨snd_iinc (by decide +kernel : decode cX7_pinsFor 78 = .ok (.iinc 4 1, 3)) (by decide +kernel), ?_⟩
  refine List.forall_mem_cons.mpr ⟨snd_goto (by decide +kernel : decode cX7_pinsFor 81 = .ok (.goto (-28), 3)) (by decide +kernel), ?_⟩
  refine List.forall_mem_cons.mpr ⟨snd_aload_n (by decide +kernel : decode cX7_pinsFor 84 = .ok (.aload_n 0, 1)) rfl, ?_⟩
  refine List.forall_mem_cons.mpr ⟨snd_iload_n (by decide +kernel : decode cX7_pinsFor 85 = .ok (.iload_n 1, 1)) rfl, ?_⟩
  refine List.forall_mem_cons.mpr ⟨snd_callV mok_161 wd_676 wd_679 wd_680 rfl rfl (by decide +kernel : decode cX7_pinsFor 86 = .ok (.invokevirtual 176, 3)), ?_⟩
  refine List.forall_mem_cons.mpr ⟨snd_istore (by decide +kernel : decode cX7_pinsFor 89 = .ok (.istore 4, 2)), ?_⟩
  refine List.forall_mem_cons.mpr ⟨snd_iconst (by decide +kernel : decode cX7_pinsFor 91 = .ok (.iconst 0, 1)) (by decide +kernel), ?_⟩
  refine List.forall_mem_cons.mpr ⟨snd_istore (by decide +kernel : decode cX7_pinsFor 92 = .ok (.istore 5, 2)), ?_⟩
  refine List.forall_mem_cons.mpr ⟨snd_iconst (by decide +kernel : decode cX7_pinsFor 94 = .ok (.iconst 0, 1)) (by decide +kernel), ?_⟩
  refine List.forall_mem_cons.mpr ⟨snd_istore (by decide +kernel : decode cX7_pinsFor 95 = .ok (.istore 6, 2)), ?_⟩
  refine List.forall_mem_cons.mpr ⟨snd_iload (by decide +kernel : decode cX7_pinsFor 97 = .ok (.iload 6, 2)), ?_⟩
  refine List.forall_mem_cons.mpr ⟨snd_aload_n (by decide +kernel : decode cX7_pinsFor 99 = .ok (.aload_n 0, 1)) rfl, ?_⟩
  refine List.forall_mem_cons.mpr ⟨snd_get fl_7_64 (by decide +kernel : decode cX7_pinsFor 100 = .ok (.getfield 64, 3)), ?_⟩
  refine List.forall_mem_cons.mpr ⟨snd_icmp_ge (by decide +kernel : decode cX7_pinsFor 103 = .ok (.if_icmp .ge 138, 3)) (by decide +kernel), ?_⟩
  refine List.forall_mem_cons.mpr ⟨snd_aload_n (by decide +kernel : decode cX7_pinsFor 106 = .ok (.aload_n 0, 1)) rfl, ?_⟩
  refine List.forall_mem_cons.mpr ⟨snd_get fl_7_19 (by decide +kernel : decode cX7_pinsFor 107 = .ok (.getfield 19, 3)), ?_⟩
  refine List.forall_mem_cons.mpr ⟨snd_iload (by decide +kernel : decode cX7_pinsFor 110 = .ok (.iload 6, 2)), ?_⟩
  refine List.forall_mem_cons.mpr ⟨snd_iald (by decide +kernel : decode cX7_pinsFor 112 = .ok (.iaload, 1)), ?_⟩
  refine List.forall_mem_cons.mpr ⟨snd_bipush (by decide +kernel : decode cX7_pinsFor 113 = .ok (.bipush (-4), 2)) (by decide +kernel), ?_⟩
  refine List.forall_mem_cons.mpr ⟨snd_icmp_eq (by decide +kernel : decode cX7_pinsFor 115 = .ok (.if_icmp .eq 120, 3)) (by decide +kernel), ?_⟩
  refine List.forall_mem_cons.mpr ⟨snd_iload (by decide +kernel : decode cX7_pinsFor 118 = .ok (.iload 4, 2)), ?_⟩
  refine List.forall_mem_cons.mpr ⟨snd_iload (by decide +kernel : decode cX7_pinsFor 120 = .ok (.iload 6, 2)), ?_⟩
  refine List.forall_mem_cons.mpr ⟨snd_callS mok_118 wd_681 wd_684 (by decide +kernel : decode cX7_pinsFor 122 = .ok (.invokestatic 179, 3)), ?_⟩
  refine List.forall_mem_cons.mpr ⟨snd_if_ne (by decide +kernel : decode cX7_pinsFor 125 = .ok (.ifCond .ne 110, 3)) (by decide +kernel), ?_⟩
  refine List.forall_mem_cons.mpr ⟨snd_iload (by decide +kernel : decode cX7_pinsFor 128 = .ok (.iload 6, 2)), ?_⟩
  refine List.forall_mem_cons.mpr ⟨snd_iload_n (by decide +kernel : decode cX7_pinsFor 130 = .ok (.iload_n 3, 1)) rfl, ?_⟩
  refine List.forall_mem_cons.mpr ⟨snd_iadd (by decide +kernel : decode cX7_pinsFor 131 = .ok (.iadd, 1)), ?_⟩
  refine List.forall_mem_cons.mpr ⟨snd_aload_n (by decide +kernel : decode cX7_pinsFor 132 = .ok (.aload_n 0, 1)) rfl, ?_⟩
  refine List.forall_mem_cons.mpr ⟨snd_get fl_7_64 (by decide +kernel : decode cX7_pinsFor 133 = .ok (.getfield 64, 3)), ?_⟩
  refine List.forall_mem_cons.mpr ⟨snd_irem (by decide +kernel : decode cX7_pinsFor 136 = .ok (.irem, 1)), ?_⟩
  refine List.forall_mem_cons.mpr ⟨snd_istore (by decide +kernel : decode cX7_pinsFor 137 = .ok (.istore 7, 2)), ?_⟩
  refine List.forall_mem_cons.mpr ⟨snd_aload_n (by decide +kernel : decode cX7_pinsFor 139 = .ok (.aload_n 0, 1)) rfl, ?_⟩
  refine List.forall_mem_cons.mpr ⟨snd_get fl_7_13 (by decide +kernel : decode cX7_pinsFor 140 = .ok (.getfield 13, 3)), ?_⟩
  refine List.forall_mem_cons.mpr ⟨snd_iload_n (by decide +kernel : decode cX7_pinsFor 143 = .ok (.iload_n 2, 1)) rfl, ?_⟩
  refine List.forall_mem_cons.mpr ⟨snd_iload (by decide +kernel : decode cX7_pinsFor 144 = .ok (.iload 7, 2)), ?_⟩
  refine List.forall_mem_cons.mpr ⟨snd_iadd (by decide +kernel : decode cX7_pinsFor 146 = .ok (.iadd, 1)), ?_⟩
  refine List.forall_mem_cons.mpr ⟨snd_iald (by decide +kernel : decode cX7_pinsFor 147 = .ok (.iaload, 1)), ?_⟩
  refine List.forall_mem_cons.mpr ⟨snd_istore (by decide +kernel : decode cX7_pinsFor 148 = .ok (.istore 8, 2)), ?_⟩
  refine List.forall_mem_cons.mpr ⟨snd_bipush (by decide +kernel : decode cX7_pinsFor 150 = .ok (.bipush (-4), 2)) (by decide +kernel), ?_⟩
  refine List.forall_mem_cons.mpr ⟨snd_istore (by decide +kernel : decode cX7_pinsFor 152 = .ok (.istore 9, 2)), ?_⟩
  refine List.forall_mem_cons.mpr ⟨snd_bipush (by decide +kernel : decode cX7_pinsFor 154 = .ok (.bipush 9, 2)) (by decide +kernel), ?_⟩
  refine List.forall_mem_cons.mpr ⟨snd_istore (by decide +kernel : decode cX7_pinsFor 156 = .ok (.istore 10, 2)), ?_⟩
  refine List.forall_mem_cons.mpr ⟨snd_iload (by decide +kernel : decode cX7_pinsFor 158 = .ok (.iload 10, 2)), ?_⟩
  refine List.forall_mem_cons.mpr ⟨snd_if_lt (by decide +kernel : decode cX7_pinsFor 160 = .ok (.ifCond .lt 42, 3)) (by decide +kernel), ?_⟩
  refine List.forall_mem_cons.mpr ⟨snd_aload_n (by decide +kernel : decode cX7_pinsFor 163 = .ok (.aload_n 0, 1)) rfl, ?_⟩
  refine List.forall_mem_cons.mpr ⟨snd_get fl_7_13 (by decide +kernel : decode cX7_pinsFor 164 = .ok (.getfield 13, 3)), ?_⟩
  refine List.forall_mem_cons.mpr ⟨snd_iload_n (by decide +kernel : decode cX7_pinsFor 167 = .ok (.iload_n 2, 1)) rfl, ?_⟩
  refine List.forall_mem_cons.mpr ⟨snd_iload (by decide +kernel : decode cX7_pinsFor 168 = .ok (.iload 7, 2)), ?_⟩
  refine List.forall_mem_cons.mpr ⟨snd_iadd (by decide +kernel : decode cX7_pinsFor 170 = .ok (.iadd, 1)), ?_⟩
  refine List.forall_mem_cons.mpr ⟨snd_iload (by decide +kernel : decode cX7_pinsFor 171 = .ok (.iload 10, 2)), ?_⟩
  refine List.forall_mem_cons.mpr ⟨snd_iast (by decide +kernel : decode cX7_pinsFor 173 = .ok (.iastore, 1)), ?_⟩
  refine List.forall_mem_cons.mpr ⟨snd_aload_n (by decide +kernel : decode cX7_pinsFor 174 = .ok (.aload_n 0, 1)) rfl, ?_⟩
  refine List.forall_mem_cons.mpr ⟨snd_iload_n (by decide +kernel : decode cX7_pinsFor 175 = .ok (.iload_n 1, 1)) rfl, ?_⟩
  refine List.forall_mem_cons.mpr ⟨snd_callV mok_161 wd_676 wd_679 wd_680 rfl rfl (by decide +kernel : decode cX7_pinsFor 176 = .ok (.invokevirtual 176, 3)), ?_⟩
  refine List.forall_mem_cons.mpr ⟨snd_iload (by decide +kernel : decode cX7_pinsFor 179 = .ok (.iload 6, 2)), ?_⟩
  refine List.forall_mem_cons.mpr ⟨snd_callS mok_118 wd_681 wd_684 (by decide +kernel : decode cX7_pinsFor 181 = .ok (.invokestatic 179, 3)), ?_⟩
  refine List.forall_mem_cons.mpr ⟨snd_if_eq (by decide +kernel : decode cX7_pinsFor 184 = .ok (.ifCond .eq 8, 3)) (by decide +kernel), ?_⟩
  refine List.forall_mem_cons.mpr ⟨snd_iload (by decide +kernel : decode cX7_pinsFor 187 = .ok (.iload 10, 2)), ?_⟩
  refine List.forall_mem_cons.mpr ⟨snd_goto (by decide +kernel : decode cX7_pinsFor 189 = .ok (.goto 5, 3)) (by decide +kernel), ?_⟩
  refine List.forall_mem_cons.mpr ⟨snd_iload (by decide +kernel : decode cX7_pinsFor 192 = .ok (.iload 9, 2)), ?_⟩
  refine List.forall_mem_cons.mpr ⟨snd_istore (by decide +kernel : decode cX7_pinsFor 194 = .ok (.istore 9, 2)), ?_⟩
  refine List.forall_mem_cons.mpr ⟨snd_iinc (by decide +kernel : decode cX7_pinsFor 196 = .ok (.iinc 10 (-1), 3)) (by decide +kernel), ?_⟩
  refine List.forall_mem_cons.mpr ⟨snd_goto (by decide +kernel : decode cX7_pinsFor 199 = .ok (.goto (-41), 3)) (by decide +kernel), ?_⟩
  refine List.forall_mem_cons.mpr ⟨snd_aload_n (by decide +kernel : decode cX7_pinsFor 202 = .ok (.aload_n 0, 1)) rfl, ?_⟩
  refine List.forall_mem_cons.mpr ⟨snd_get fl_7_13 (by decide +kernel : decode cX7_pinsFor 203 = .ok (.getfield 13, 3)), ?_⟩
  refine List.forall_mem_cons.mpr ⟨snd_iload_n (by decide +kernel : decode cX7_pinsFor 206 = .ok (.iload_n 2, 1)) rfl, ?_⟩
  refine List.forall_mem_cons.mpr ⟨snd_iload (by decide +kernel : decode cX7_pinsFor 207 = .ok (.iload 7, 2)), ?_⟩
  refine List.forall_mem_cons.mpr ⟨snd_iadd (by decide +kernel : decode cX7_pinsFor 209 = .ok (.iadd, 1)), ?_⟩
  refine List.forall_mem_cons.mpr ⟨snd_iload (by decide +kernel : decode cX7_pinsFor 210 = .ok (.iload 8, 2)), ?_⟩
  refine List.forall_mem_cons.mpr ⟨snd_iast (by decide +kernel : decode cX7_pinsFor 212 = .ok (.iastore, 1)), ?_⟩
  refine List.forall_mem_cons.mpr ⟨snd_iload (by decide +kernel : decode cX7_pinsFor 213 = .ok (.iload 9, 2)), ?_⟩
  refine List.forall_mem_cons.mpr ⟨snd_bipush (by decide +kernel : decode cX7_pinsFor 215 = .ok (.bipush (-4), 2)) (by decide +kernel), ?_⟩
  refine List.forall_mem_cons.mpr ⟨snd_icmp_ne (by decide +kernel : decode cX7_pinsFor 217 = .ok (.if_icmp .ne 6, 3)) (by decide +kernel), ?_⟩
  refine List.forall_mem_cons.mpr ⟨snd_bipush (by decide +kernel : decode cX7_pinsFor 220 = .ok (.bipush (-4), 2)) (by decide +kernel), ?_⟩
  refine List.forall_mem_cons.mpr ⟨snd_iret (by decide +kernel : decode cX7_pinsFor 222 = .ok (.ireturn, 1)), ?_⟩
  refine List.forall_mem_cons.mpr ⟨snd_aload_n (by decide +kernel : decode cX7_pinsFor 223 = .ok (.aload_n 0, 1)) rfl, ?_⟩
  refine List.forall_mem_cons.mpr ⟨snd_get fl_7_55 (by decide +kernel : decode cX7_pinsFor 224 = .ok (.getfield 55, 3)), ?_⟩
  refine List.forall_mem_cons.mpr ⟨snd_iload (by decide +kernel : decode cX7_pinsFor 227 = .ok (.iload 7, 2)), ?_⟩
  refine List.forall_mem_cons.mpr ⟨snd_iload (by decide +kernel : decode cX7_pinsFor 229 = .ok (.iload 9, 2)), ?_⟩
  refine List.forall_mem_cons.mpr ⟨snd_iast (by decide +kernel : decode cX7_pinsFor 231 = .ok (.iastore, 1)), ?_⟩
  refine List.forall_mem_cons.mpr ⟨snd_iinc (by decide +kernel : decode cX7_pinsFor 232 = .ok (.iinc 5 1, 3)) (by decide +kernel), ?_⟩
  refine List.forall_mem_cons.mpr ⟨snd_iinc (by decide +kernel : decode cX7_pinsFor 235 = .ok (.iinc 6 1, 3)) (by decide +kernel), ?_⟩
  refine List.forall_mem_cons.mpr ⟨snd_goto (by decide +kernel : decode cX7_pinsFor 238 = .ok (.goto (-141), 3)) (by decide +kernel), ?_⟩
  refine List.forall_mem_cons.mpr ⟨snd_iload (by decide +kernel : decode cX7_pinsFor 241 = .ok (.iload 5, 2)), ?_⟩
  refine List.forall_mem_cons.mpr ⟨snd_iret (by decide +kernel : decode cX7_pinsFor 243 = .ok (.ireturn, 1)), ?_⟩
  exact fun _ h => absurd h List.not_mem_nil
theorem m_X7_pinsFor : ∀ q ∈ k_X7_pinsFor, Mono q.2 := by
  unfold k_X7_pinsFor
  refine List.forall_mem_cons.mpr ⟨mo_push _ _, ?_⟩
  refine List.forall_mem_cons.mpr ⟨mo_aload _ _, ?_⟩
  refine List.forall_mem_cons.mpr ⟨mo_get _ _, ?_⟩
  refine List.forall_mem_cons.mpr ⟨mo_push _ _, ?_⟩
  refine List.forall_mem_cons.mpr ⟨mo_bin _, ?_⟩
  refine List.forall_mem_cons.mpr ⟨mo_bin _, ?_⟩
  refine List.forall_mem_cons.mpr ⟨mo_istore _ _, ?_⟩
  refine List.forall_mem_cons.mpr ⟨mo_push _ _, ?_⟩
  refine List.forall_mem_cons.mpr ⟨mo_istore _ _, ?_⟩
  refine List.forall_mem_cons.mpr ⟨mo_push _ _, ?_⟩
  refine List.forall_mem_cons.mpr ⟨mo_istore _ _, ?_⟩
  refine List.forall_mem_cons.mpr ⟨mo_iload _ _, ?_⟩
  refine List.forall_mem_cons.mpr ⟨mo_aload _ _, ?_⟩
  refine List.forall_mem_cons.mpr ⟨mo_get _ _, ?_⟩
  refine List.forall_mem_cons.mpr ⟨mo_push _ _, ?_⟩
  refine List.forall_mem_cons.mpr ⟨mo_bin _, ?_⟩
  refine List.forall_mem_cons.mpr ⟨mo_icmp _ _ _, ?_⟩
  refine List.forall_mem_cons.mpr ⟨mo_iload _ _, ?_⟩
  refine List.forall_mem_cons.mpr ⟨mo_aload _ _, ?_⟩
  refine List.forall_mem_cons.mpr ⟨mo_get _ _, ?_⟩
  refine List.forall_mem_cons.mpr ⟨mo_iload _ _, ?_⟩
  refine List.forall_mem_cons.mpr ⟨mo_iald, ?_⟩
  refine List.forall_mem_cons.mpr ⟨mo_push _ _, ?_⟩
  refine List.forall_mem_cons.mpr ⟨mo_icmp _ _ _, ?_⟩
  refine List.forall_mem_cons.mpr ⟨mo_push _ _, ?_⟩
  refine List.forall_mem_cons.mpr ⟨mo_goto _, ?_⟩
  refine List.forall_mem_cons.mpr ⟨mo_push _ _, ?_⟩
  refine List.forall_mem_cons.mpr ⟨mo_bin _, ?_⟩
  refine List.forall_mem_cons.mpr ⟨mo_istore _ _, ?_⟩
  refine List.forall_mem_cons.mpr ⟨mo_iinc _ _, ?_⟩
  refine List.forall_mem_cons.mpr ⟨mo_goto _, ?_⟩
  refine List.forall_mem_cons.mpr ⟨mo_push _ _, ?_⟩
  refine List.forall_mem_cons.mpr ⟨mo_istore _ _, ?_⟩
  refine List.forall_mem_cons.mpr ⟨mo_iload _ _, ?_⟩
  refine List.forall_mem_cons.mpr ⟨mo_aload _ _, ?_⟩
  refine List.forall_mem_cons.mpr ⟨mo_get _ _, ?_⟩
  refine List.forall_mem_cons.mpr ⟨mo_icmp _ _ _, ?_⟩
  refine List.forall_mem_cons.mpr ⟨mo_aload _ _, ?_⟩
  refine List.forall_mem_cons.mpr ⟨mo_get _ _, ?_⟩
  refine List.forall_mem_cons.mpr ⟨mo_iload _ _, ?_⟩
  refine List.forall_mem_cons.mpr ⟨mo_aload _ _, ?_⟩
  refine List.forall_mem_cons.mpr ⟨mo_get _ _, ?_⟩
  refine List.forall_mem_cons.mpr ⟨mo_iload _ _, ?_⟩
  refine List.forall_mem_cons.mpr ⟨mo_iload _ _, ?_⟩
  refine List.forall_mem_cons.mpr ⟨mo_bin _, ?_⟩
  refine List.forall_mem_cons.mpr ⟨mo_iald, ?_⟩
  refine List.forall_mem_cons.mpr ⟨mo_iast, ?_⟩
  refine List.forall_mem_cons.mpr ⟨mo_iinc _ _, ?_⟩
  refine List.forall_mem_cons.mpr ⟨mo_goto _, ?_⟩
  refine List.forall_mem_cons.mpr ⟨mo_aload _ _, ?_⟩
  refine List.forall_mem_cons.mpr ⟨mo_iload _ _, ?_⟩
  refine List.forall_mem_cons.mpr ⟨mo_call _ _ _, ?_⟩
  refine List.forall_mem_cons.mpr ⟨mo_istore _ _, ?_⟩
  refine List.forall_mem_cons.mpr ⟨mo_push _ _, ?_⟩
  refine List.forall_mem_cons.mpr ⟨mo_istore _ _, ?_⟩
  refine List.forall_mem_cons.mpr ⟨mo_push _ _, ?_⟩
  refine List.forall_mem_cons.mpr ⟨mo_istore _ _, ?_⟩
  refine List.forall_mem_cons.mpr ⟨mo_iload _ _, ?_⟩
  refine List.forall_mem_cons.mpr ⟨mo_aload _ _, ?_⟩
  refine List.forall_mem_cons.mpr ⟨mo_get _ _, ?_⟩
  refine List.forall_mem_cons.mpr ⟨mo_icmp _ _ _, ?_⟩
  refine List.forall_mem_cons.mpr ⟨mo_aload _ _, ?_⟩
  refine List.forall_mem_cons.mpr ⟨mo_get _ _, ?_⟩
  refine List.forall_mem_cons.mpr ⟨mo_iload _ _, ?_⟩
  refine List.forall_mem_cons.mpr ⟨mo_iald, ?_⟩
  refine List.forall_mem_cons.mpr ⟨mo_push _ _, ?_⟩
  refine List.forall_mem_cons.mpr ⟨mo_icmp _ _ _, ?_⟩
  refine List.forall_mem_cons.mpr ⟨mo_iload _ _, ?_⟩
  refine List.forall_mem_cons.mpr ⟨mo_iload _ _, ?_⟩
  refine List.forall_mem_cons.mpr ⟨mo_call _ _ _, ?_⟩
  refine List.forall_mem_cons.mpr ⟨mo_if _ _ _, ?_⟩
  refine List.forall_mem_cons.mpr ⟨mo_iload _ _, ?_⟩
  refine List.forall_mem_cons.mpr ⟨mo_iload _ _, ?_⟩
  refine List.forall_mem_cons.mpr ⟨mo_bin _, ?_⟩
  refine List.forall_mem_cons.mpr ⟨mo_aload _ _, ?_⟩
  refine List.forall_mem_cons.mpr ⟨mo_get _ _, ?_⟩
  refine List.forall_mem_cons.mpr ⟨mo_div _, ?_⟩
  refine List.forall_mem_cons.mpr ⟨mo_istore _ _, ?_⟩
  refine List.forall_mem_cons.mpr ⟨mo_aload _ _, ?_⟩
  refine List.forall_mem_cons.mpr ⟨mo_get _ _, ?_⟩
  refine List.forall_mem_cons.mpr ⟨mo_iload _ _, ?_⟩
  refine List.forall_mem_cons.mpr ⟨mo_iload _ _, ?_⟩
  refine List.forall_mem_cons.mpr ⟨mo_bin _, ?_⟩
  refine List.forall_mem_cons.mpr ⟨mo_iald, ?_⟩
  refine List.forall_mem_cons.mpr ⟨mo_istore _ _, ?_⟩
  refine List.forall_mem_cons.mpr ⟨mo_push _ _, ?_⟩
  refine List.forall_mem_cons.mpr ⟨mo_istore _ _, ?_⟩
  refine List.forall_mem_cons.mpr ⟨mo_push _ _, ?_⟩
  refine List.forall_mem_cons.mpr ⟨mo_istore _ _, ?_⟩
  refine List.forall_mem_cons.mpr ⟨mo_iload _ _, ?_⟩
  refine List.forall_mem_cons.mpr ⟨mo_if _ _ _, ?_⟩
  refine List.forall_mem_cons.mpr ⟨mo_aload _ _, ?_⟩
  refine List.forall_mem_cons.mpr ⟨mo_get _ _, ?_⟩
  refine List.forall_mem_cons.mpr ⟨mo_iload _ _, ?_⟩
  refine List.forall_mem_cons.mpr ⟨mo_iload _ _, ?_⟩
  refine List.forall_mem_cons.mpr ⟨mo_bin _, ?_⟩
  refine List.forall_mem_cons.mpr ⟨mo_iload _ _, ?_⟩
  refine List.forall_mem_cons.mpr ⟨mo_iast, ?_⟩
  refine List.forall_mem_cons.mpr ⟨mo_aload _ _, ?_⟩
  refine List.forall_mem_cons.mpr ⟨mo_iload _ _, ?_⟩
  refine List.forall_mem_cons.mpr ⟨mo_call _ _ _, ?_⟩
  refine List.forall_mem_cons.mpr ⟨mo_iload _ _, ?_⟩
  refine List.forall_mem_cons.mpr ⟨mo_call _ _ _, ?_⟩
  refine List.forall_mem_cons.mpr ⟨mo_if _ _ _, ?_⟩
  refine List.forall_mem_cons.mpr ⟨mo_iload _ _, ?_⟩
  refine List.forall_mem_cons.mpr ⟨mo_goto _, ?_⟩
  refine List.forall_mem_cons.mpr ⟨mo_iload _ _, ?_⟩
  refine List.forall_mem_cons.mpr ⟨mo_istore _ _, ?_⟩
  refine List.forall_mem_cons.mpr ⟨mo_iinc _ _, ?_⟩
  refine List.forall_mem_cons.mpr ⟨mo_goto _, ?_⟩
  refine List.forall_mem_cons.mpr ⟨mo_aload _ _, ?_⟩
  refine List.forall_mem_cons.mpr ⟨mo_get _ _, ?_⟩
  refine List.forall_mem_cons.mpr ⟨mo_iload _ _, ?_⟩
  refine List.forall_mem_cons.mpr ⟨mo_iload _ _, ?_⟩
  refine List.forall_mem_cons.mpr ⟨mo_bin _, ?_⟩
  refine List.forall_mem_cons.mpr ⟨mo_iload _ _, ?_⟩
  refine List.forall_mem_cons.mpr ⟨mo_iast, ?_⟩
  refine List.forall_mem_cons.mpr ⟨mo_iload _ _, ?_⟩
  refine List.forall_mem_cons.mpr ⟨mo_push _ _, ?_⟩
  refine List.forall_mem_cons.mpr ⟨mo_icmp _ _ _, ?_⟩
  refine List.forall_mem_cons.mpr ⟨mo_push _ _, ?_⟩
  refine List.forall_mem_cons.mpr ⟨mo_iret, ?_⟩
  refine List.forall_mem_cons.mpr ⟨mo_aload _ _, ?_⟩
  refine List.forall_mem_cons.mpr ⟨mo_get _ _, ?_⟩
  refine List.forall_mem_cons.mpr ⟨mo_iload _ _, ?_⟩
  refine List.forall_mem_cons.mpr ⟨mo_iload _ _, ?_⟩
  refine List.forall_mem_cons.mpr ⟨mo_iast, ?_⟩
  refine List.forall_mem_cons.mpr ⟨mo_iinc _ _, ?_⟩
  refine List.forall_mem_cons.mpr ⟨mo_iinc _ _, ?_⟩
  refine List.forall_mem_cons.mpr ⟨mo_goto _, ?_⟩
  refine List.forall_mem_cons.mpr ⟨mo_iload _ _, ?_⟩
  refine List.forall_mem_cons.mpr ⟨mo_iret, ?_⟩
  exact fun _ h => absurd h List.not_mem_nil
def k_X7_pins : List (Nat × aI) := [
  (0, i_iload 1 1),
  (1, i_push (.int 1) 1),
  (2, i_push (.int 40) 2),
  (4, i_callS 117 3),
  (7, i_if (fun x => x = 0) 24 10),
  (10, i_iload 2 1),
  (11, i_push (.int (-1)) 1),
  (12, i_aload 0 1),
  (13, i_get 7 1),
  (16, i_push (.int 1) 1),
  (17, i_bin (fun x y => x - y)),
  (18, i_callS 117 3),
  (21, i_if (fun x => x = 0) 24 26),
  (24, i_push (.int (-1)) 1),
  (25, i_iret),
  (26, i_aload 0 1),
  (27, i_iload 1 1),
  (28, i_callV 163 2 7),
  (31, i_istore 3 1),
  (32, i_iload 3 1),
  (33, i_push (.int (-4)) 2),
  (35, i_icmp (fun x y => x = y) 42 38),
  (38, i_iload 2 1),
  (39, i_if (fun x => x < 0) 42 46),
  (42, i_iload 3 1),
  (43, i_goto 52),
  (46, i_aload 0 1),
  (47, i_get 7 24),
  (50, i_iload 2 1),
  (51, i_iald),
  (52, i_iret)]
theorem s_X7_pins : ∀ q ∈ k_X7_pins, Snd RX7 cX7_pins (some .int) false q.1 q.2 := by
  unfold k_X7_pins
  refine List.forall_mem_cons.mpr ⟨snd_iload_n (by decide +kernel : decode cX7_pins 0 = .ok (.iload_n 1, 1)) rfl, ?_⟩
  refine List.forall_mem_cons.mpr ⟨snd_iconst (by decide +kernel : decode cX7_pins 1 = .ok (.iconst 1, 1)) (by decide +kernel), ?_⟩
  refine List.forall_mem_cons.mpr ⟨snd_bipush (by decide +kernel : decode cX7_pins 2 = .ok (.bipush 40, 2)) (by decide +kernel), ?_⟩
  refine List.forall_mem_cons.mpr ⟨snd_callS mok_117 wd_554 wd_557 (by decide +kernel : decode cX7_pins 4 = .ok (.invokestatic 75, 3)), ?_⟩
  refine List.forall_mem_cons.mpr ⟨snd_if_eq (by decide +kernel : decode cX7_pins 7 = .ok (.ifCond .eq 17, 3)) (by decide +kernel), ?_⟩
  refine List.forall_mem_cons.mpr ⟨snd_iload_n (by decide +kernel : decode cX7_pins 10 = .ok (.iload_n 2, 1)) rfl, ?_⟩
  refine List.forall_mem_cons.mpr ⟨snd_iconst (by decide +kernel : decode cX7_pins 11 = .ok (.iconst (-1), 1)) (by decide +kernel), ?_⟩
  refine List.forall_mem_cons.mpr ⟨snd_aload_n (by decide +kernel : decode cX7_pins 12 = .ok (.aload_n 0, 1)) rfl, ?_⟩
  refine List.forall_mem_cons.mpr ⟨snd_get fl_7_64 (by decide +kernel : decode cX7_pins 13 = .ok (.getfield 64, 3)), ?_⟩
  refine List.forall_mem_cons.mpr ⟨snd_iconst (by decide +kernel : decode cX7_pins 16 = .ok (.iconst 1, 1)) (by decide +kernel), ?_⟩
  refine List.forall_mem_cons.mpr ⟨snd_isub (by decide +kernel : decode cX7_pins 17 = .ok (.isub, 1)), ?_⟩
  refine List.forall_mem_cons.mpr ⟨snd_callS mok_117 wd_554 wd_557 (by decide +kernel : decode cX7_pins 18 = .ok (.invokestatic 75, 3)), ?_⟩
  refine List.forall_mem_cons.mpr ⟨snd_if_ne (by decide +kernel : decode cX7_pins 21 = .ok (.ifCond .ne 5, 3)) (by decide +kernel), ?_⟩
  refine List.forall_mem_cons.mpr ⟨snd_iconst (by decide +kernel : decode cX7_pins 24 = .ok (.iconst (-1), 1)) (by decide +kernel), ?_⟩
  refine List.forall_mem_cons.mpr ⟨snd_iret (by decide +kernel : decode cX7_pins 25 = .ok (.ireturn, 1)), ?_⟩
  refine List.forall_mem_cons.mpr ⟨snd_aload_n (by decide +kernel : decode cX7_pins 26 = .ok (.aload_n 0, 1)) rfl, ?_⟩
  refine List.forall_mem_cons.mpr ⟨snd_iload_n (by decide +kernel : decode cX7_pins 27 = .ok (.iload_n 1, 1)) rfl, ?_⟩
  refine List.forall_mem_cons.mpr ⟨snd_callV mok_163 wd_685 wd_688 wd_689 rfl rfl (by decide +kernel : decode cX7_pins 28 = .ok (.invokevirtual 183, 3)), ?_⟩
  refine List.forall_mem_cons.mpr ⟨snd_istore_n (by decide +kernel : decode cX7_pins 31 = .ok (.istore_n 3, 1)) rfl, ?_⟩
  refine List.forall_mem_cons.mpr ⟨snd_iload_n (by decide +kernel : decode cX7_pins 32 = .ok (.iload_n 3, 1)) rfl, ?_⟩
  refine List.forall_mem_cons.mpr ⟨snd_bipush (by decide +kernel : decode cX7_pins 33 = .ok (.bipush (-4), 2)) (by decide +kernel), ?_⟩
  refine List.forall_mem_cons.mpr ⟨snd_icmp_eq (by decide +kernel : decode cX7_pins 35 = .ok (.if_icmp .eq 7, 3)) (by decide +kernel), ?_⟩
  refine List.forall_mem_cons.mpr ⟨snd_iload_n (by decide +kernel : decode cX7_pins 38 = .ok (.iload_n 2, 1)) rfl, ?_⟩
  refine List.forall_mem_cons.mpr ⟨snd_if_ge (by decide +kernel : decode cX7_pins 39 = .ok (.ifCond .ge 7, 3)) (by decide +kernel), ?_⟩
  refine List.forall_mem_cons.mpr ⟨snd_iload_n (by decide +kernel : decode cX7_pins 42 = .ok (.iload_n 3, 1)) rfl, ?_⟩
  refine List.forall_mem_cons.mpr ⟨snd_goto (by decide +kernel : decode cX7_pins 43 = .ok (.goto 9, 3)) (by decide +kernel), ?_⟩
  refine List.forall_mem_cons.mpr ⟨snd_aload_n (by decide +kernel : decode cX7_pins 46 = .ok (.aload_n 0, 1)) rfl, ?_⟩
  refine List.forall_mem_cons.mpr ⟨snd_get fl_7_55 (by decide +kernel : decode cX7_pins 47 = .ok (.getfield 55, 3)), ?_⟩
  refine List.forall_mem_cons.mpr ⟨snd_iload_n (by decide +kernel : decode cX7_pins 50 = .ok (.iload_n 2, 1)) rfl, ?_⟩
  refine List.forall_mem_cons.mpr ⟨snd_iald (by decide +kernel : decode cX7_pins 51 = .ok (.iaload, 1)), ?_⟩
  refine List.forall_mem_cons.mpr ⟨snd_iret (by decide +kernel : decode cX7_pins 52 = .ok (.ireturn, 1)), ?_⟩
  exact fun _ h => absurd h List.not_mem_nil
theorem m_X7_pins : ∀ q ∈ k_X7_pins, Mono q.2 := by
  unfold k_X7_pins
  refine List.forall_mem_cons.mpr ⟨mo_iload _ _, ?_⟩
  refine List.forall_mem_cons.mpr ⟨mo_push _ _, ?_⟩
  refine List.forall_mem_cons.mpr ⟨mo_push _ _, ?_⟩
  refine List.forall_mem_cons.mpr ⟨mo_call _ _ _, ?_⟩
  refine List.forall_mem_cons.mpr ⟨mo_if _ _ _, ?_⟩
  refine List.forall_mem_cons.mpr ⟨mo_iload _ _, ?_⟩
  refine List.forall_mem_cons.mpr ⟨mo_push _ _, ?_⟩
  refine List.forall_mem_cons.mpr ⟨mo_aload _ _, ?_⟩
  refine List.forall_mem_cons.mpr ⟨mo_get _ _, ?_⟩
  refine List.forall_mem_cons.mpr ⟨mo_push _ _, ?_⟩
  refine List.forall_mem_cons.mpr ⟨mo_bin _, ?_⟩
  refine List.forall_mem_cons.mpr ⟨mo_call _ _ _, ?_⟩
  refine List.forall_mem_cons.mpr ⟨mo_if _ _ _, ?_⟩
  refine List.forall_mem_cons.mpr ⟨mo_push _ _, ?_⟩
  refine List.forall_mem_cons.mpr ⟨mo_iret, ?_⟩
  refine List.forall_mem_cons.mpr ⟨mo_aload _ _, ?_⟩
  refine List.forall_mem_cons.mpr ⟨mo_iload _ _, ?_⟩
  refine List.forall_mem_cons.mpr ⟨mo_call _ _ _, ?_⟩
  refine List.forall_mem_cons.mpr ⟨mo_istore _ _, ?_⟩
  refine List.forall_mem_cons.mpr ⟨mo_iload _ _, ?_⟩
  refine List.forall_mem_cons.mpr ⟨mo_push _ _, ?_⟩
  refine List.forall_mem_cons.mpr ⟨mo_icmp _ _ _, ?_⟩
  refine List.forall_mem_cons.mpr ⟨mo_iload _ _, ?_⟩
  refine List.forall_mem_cons.mpr ⟨mo_if _ _ _, ?_⟩
  refine List.forall_mem_cons.mpr ⟨mo_iload _ _, ?_⟩
  refine List.forall_mem_cons.mpr ⟨mo_goto _, ?_⟩
  refine List.forall_mem_cons.mpr ⟨mo_aload _ _, ?_⟩
  refine List.forall_mem_cons.mpr ⟨mo_get _ _, ?_⟩
  refine List.forall_mem_cons.mpr ⟨mo_iload _ _, ?_⟩
  refine List.forall_mem_cons.mpr ⟨mo_iald, ?_⟩
  refine List.forall_mem_cons.mpr ⟨mo_iret, ?_⟩
  exact fun _ h => absurd h List.not_mem_nil
