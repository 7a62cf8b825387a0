def k_X0_init : List (Nat × aI) := [
  (0, i_aload 0 1),
  (1, i_obj),
  (4, i_aload 0 1),
  (5, i_new 2 7 [.null, .null, .null, .int 0, .int 0, .int 0, .int 0]),
  (8, i_dup),
  (9, i_callI 20 1),
  (12, i_putR 0 0),
  (15, i_vret)]
theorem s_X0_init : ∀ q ∈ k_X0_init, Snd RX0 cX0_init none true q.1 q.2 := by
  unfold k_X0_init
  refine List.forall_mem_cons.mpr ⟨snd_aload_n (by decide +kernel : decode cX0_init 0 = .ok (.aload_n 0, 1)) rfl, ?_⟩
  refine List.forall_mem_cons.mpr ⟨snd_obj wd_0 wd_1 wd_2 (by decide +kernel : decode cX0_init 1 = .ok (.invokespecial 3, 3)), ?_⟩
  refine List.forall_mem_cons.mpr ⟨snd_aload_n (by decide +kernel : decode cX0_init 4 = .ok (.aload_n 0, 1)) rfl, ?_⟩
  refine List.forall_mem_cons.mpr ⟨snd_new cl_0_9 (by decide +kernel : decode cX0_init 5 = .ok (.new 9, 3)), ?_⟩
  refine List.forall_mem_cons.mpr ⟨snd_dup (by decide +kernel : decode cX0_init 8 = .ok (.dup, 1)), ?_⟩
  refine List.forall_mem_cons.mpr ⟨snd_callIN (List.mem_of_getElem? (i := 7) rfl) mok_20 wd_8 rfl rfl (by decide +kernel : decode cX0_init 9 = .ok (.invokespecial 11, 3)), ?_⟩
  refine List.forall_mem_cons.mpr ⟨snd_putR fl_0_12 (Or.inl ⟨_, rfl⟩) (by decide +kernel : decode cX0_init 12 = .ok (.putfield 12, 3)), ?_⟩
  refine List.forall_mem_cons.mpr ⟨snd_vret (by decide +kernel : decode cX0_init 15 = .ok (.return_, 1)), ?_⟩
  exact fun _ h => absurd h List.not_mem_nil
theorem m_X0_init : ∀ q ∈ k_X0_init, Mono q.2 := by
  unfold k_X0_init
  refine List.forall_mem_cons.mpr ⟨mo_aload _ _, ?_⟩
  refine List.forall_mem_cons.mpr ⟨mo_obj, ?_⟩
  refine List.forall_mem_cons.mpr ⟨mo_aload _ _, ?_⟩
  refine List.forall_mem_cons.mpr ⟨mo_new _ _ _, ?_⟩
  refine List.forall_mem_cons.mpr ⟨mo_dup, ?_⟩
  refine List.forall_mem_cons.mpr ⟨mo_call _ _ _, ?_⟩
  refine List.forall_mem_cons.mpr ⟨mo_putR _ _, ?_⟩
  refine List.forall_mem_cons.mpr ⟨mo_vret, ?_⟩
  exact fun _ h => absurd h List.not_mem_nil
def k_X0_tellingDays : List (Nat × aI) := [
  (0, i_push (.int 0) 1),
  (1, i_iload 1 1),
  (2, i_push (.int 2) 1),
  (3, i_bin (fun x y => x + y)),
  (4, i_aload 0 1),
  (5, i_callV 25 1 2),
  (8, i_bin (fun x y => x - y)),
  (9, i_max),
  (12, i_iret)]
theorem s_X0_tellingDays : ∀ q ∈ k_X0_tellingDays, Snd RX0 cX0_tellingDays (some .int) false q.1 q.2 := by
  unfold k_X0_tellingDays
  refine List.forall_mem_cons.mpr ⟨snd_iconst (by decide +kernel : decode cX0_tellingDays 0 = .ok (.iconst 0, 1)) (by decide +kernel), ?_⟩
  refine List.forall_mem_cons.mpr ⟨snd_iload_n (by decide +kernel : decode cX0_tellingDays 1 = .ok (.iload_n 1, 1)) rfl, ?_⟩
  refine List.forall_mem_cons.mpr ⟨snd_iconst (by decide +kernel : decode cX0_tellingDays 2 = .ok (.iconst 2, 1)) (by decide +kernel), ?_⟩
  refine List.forall_mem_cons.mpr ⟨snd_iadd (by decide +kernel : decode cX0_tellingDays 3 = .ok (.iadd, 1)), ?_⟩
  refine List.forall_mem_cons.mpr ⟨snd_aload_n (by decide +kernel : decode cX0_tellingDays 4 = .ok (.aload_n 0, 1)) rfl, ?_⟩
  refine List.forall_mem_cons.mpr ⟨snd_callV mok_25 wd_10 wd_13 wd_14 rfl rfl (by decide +kernel : decode cX0_tellingDays 5 = .ok (.invokevirtual 18, 3)), ?_⟩
  refine List.forall_mem_cons.mpr ⟨snd_isub (by decide +kernel : decode cX0_tellingDays 8 = .ok (.isub, 1)), ?_⟩
  refine List.forall_mem_cons.mpr ⟨snd_max wd_15 wd_16 wd_17 wd_18 (by decide +kernel : decode cX0_tellingDays 9 = .ok (.invokestatic 22, 3)), ?_⟩
  refine List.forall_mem_cons.mpr ⟨snd_iret (by decide +kernel : decode cX0_tellingDays 12 = .ok (.ireturn, 1)), ?_⟩
  exact fun _ h => absurd h List.not_mem_nil
theorem m_X0_tellingDays : ∀ q ∈ k_X0_tellingDays, Mono q.2 := by
  unfold k_X0_tellingDays
  refine List.forall_mem_cons.mpr ⟨mo_push _ _, ?_⟩
  refine List.forall_mem_cons.mpr ⟨mo_iload _ _, ?_⟩
  refine List.forall_mem_cons.mpr ⟨mo_push _ _, ?_⟩
  refine List.forall_mem_cons.mpr ⟨mo_bin _, ?_⟩
  refine List.forall_mem_cons.mpr ⟨mo_aload _ _, ?_⟩
  refine List.forall_mem_cons.mpr ⟨mo_call _ _ _, ?_⟩
  refine List.forall_mem_cons.mpr ⟨mo_bin _, ?_⟩
  refine List.forall_mem_cons.mpr ⟨mo_max, ?_⟩
  refine List.forall_mem_cons.mpr ⟨mo_iret, ?_⟩
  exact fun _ h => absurd h List.not_mem_nil
def k_X0_waysOf : List (Nat × aI) := [
  (0, i_aload 1 1),
  (1, i_iload 2 1),
  (2, i_callS 1 2),
  (5, i_istore 6 2),
  (7, i_push (.int 0) 1),
  (8, i_istore 7 2),
  (10, i_push (.int 0) 1),
  (11, i_istore 8 2),
  (13, i_iload 8 2),
  (15, i_push (.int 1) 1),
  (16, i_iload 6 2),
  (18, i_bin (fun x y => x <<< (y &&& 31))),
  (19, i_icmp (fun x y => x < y) 22 84),
  (22, i_iload 8 2),
  (24, i_callS 181 1),
  (27, i_istore 9 2),
  (29, i_iload 5 2),
  (31, i_iload 9 2),
  (33, i_callS 115 2),
  (36, i_push (.int 10) 2),
  (38, i_iload 5 2),
  (40, i_bin (fun x y => x - y)),
  (41, i_iload 6 2),
  (43, i_iload 9 2),
  (45, i_bin (fun x y => x - y)),
  (46, i_callS 115 2),
  (49, i_bin (fun x y => x * y)),
  (50, i_istore 10 2),
  (52, i_iload 10 2),
  (54, i_if (fun x => 0 < x) 57 78),
  (57, i_aload 0 1),
  (58, i_aload 1 1),
  (59, i_iload 8 2),
  (61, i_iload 2 1),
  (62, i_iload 3 1),
  (63, i_callV 3 5 0),
  (66, i_iload 4 2),
  (68, i_icmp (fun x y => x = y) 71 78),
  (71, i_iload 7 2),
  (73, i_iload 10 2),
  (75, i_bin (fun x y => x + y)),
  (76, i_istore 7 2),
  (78, i_iinc 8 1),
  (81, i_goto 13),
  (84, i_iload 7 2),
  (86, i_iret)]
theorem s_X0_waysOf : ∀ q ∈ k_X0_waysOf, Snd RX0 cX0_waysOf (some .int) false q.1 q.2 := by
  unfold k_X0_waysOf
  refine List.forall_mem_cons.mpr ⟨snd_aload_n (by decide +kernel : decode cX0_waysOf 0 = .ok (.aload_n 1, 1)) rfl, ?_⟩
  refine List.forall_mem_cons.mpr ⟨snd_iload_n (by decide +kernel : decode cX0_waysOf 1 = .ok (.iload_n 2, 1)) rfl, ?_⟩
  refine List.forall_mem_cons.mpr ⟨snd_callS mok_1 wd_19 wd_22 (by decide +kernel : decode cX0_waysOf 2 = .ok (.invokestatic 28, 3)), ?_⟩
  refine List.forall_mem_cons.mpr ⟨snd_istore (by decide +kernel : decode cX0_waysOf 5 = .ok (.istore 6, 2)), ?_⟩
  refine List.forall_mem_cons.mpr ⟨snd_iconst (by decide +kernel : decode cX0_waysOf 7 = .ok (.iconst 0, 1)) (by decide +kernel), ?_⟩
  refine List.forall_mem_cons.mpr ⟨snd_istore (by decide +kernel : decode cX0_waysOf 8 = .ok (.istore 7, 2)), ?_⟩
  refine List.forall_mem_cons.mpr ⟨snd_iconst (by decide +kernel : decode cX0_waysOf 10 = .ok (.iconst 0, 1)) (by decide +kernel), ?_⟩
  refine List.forall_mem_cons.mpr ⟨snd_istore (by decide +kernel : decode cX0_waysOf 11 = .ok (.istore 8, 2)), ?_⟩
  refine List.forall_mem_cons.mpr ⟨snd_iload (by decide +kernel : decode cX0_waysOf 13 = .ok (.iload 8, 2)), ?_⟩
  refine List.forall_mem_cons.mpr ⟨snd_iconst (by decide +kernel : decode cX0_waysOf 15 = .ok (.iconst 1, 1)) (by decide +kernel), ?_⟩
  refine List.forall_mem_cons.mpr ⟨snd_iload (by decide +kernel : decode cX0_waysOf 16 = .ok (.iload 6, 2)), ?_⟩
  refine List.forall_mem_cons.mpr ⟨snd_ishl (by decide +kernel : decode cX0_waysOf 18 = .ok (.ishl, 1)), ?_⟩
  refine List.forall_mem_cons.mpr ⟨snd_icmp_ge (by decide +kernel : decode cX0_waysOf 19 = .ok (.if_icmp .ge 65, 3)) (by decide +kernel), ?_⟩
  refine List.forall_mem_cons.mpr ⟨snd_iload (by decide +kernel : decode cX0_waysOf 22 = .ok (.iload 8, 2)), ?_⟩
  refine List.forall_mem_cons.mpr ⟨snd_callS mok_181 wd_23 wd_26 (by decide +kernel : decode cX0_waysOf 24 = .ok (.invokestatic 32, 3)), ?_⟩
  refine List.forall_mem_cons.mpr ⟨snd_istore (by decide +kernel : decode cX0_waysOf 27 = .ok (.istore 9, 2)), ?_⟩
  refine List.forall_mem_cons.mpr ⟨snd_iload (by decide +kernel : decode cX0_waysOf 29 = .ok (.iload 5, 2)), ?_⟩
  refine List.forall_mem_cons.mpr ⟨snd_iload (by decide +kernel : decode cX0_waysOf 31 = .ok (.iload 9, 2)), ?_⟩
  refine List.forall_mem_cons.mpr ⟨snd_callSN mok_115 (List.mem_of_getElem? (i := 11) rfl) wd_29 (by decide +kernel : decode cX0_waysOf 33 = .ok (.invokestatic 38, 3)), ?_⟩
  refine List.forall_mem_cons.mpr ⟨snd_bipush (by decide +kernel : decode cX0_waysOf 36 = .ok (.bipush 10, 2)) (by decide +kernel), ?_⟩
  refine List.forall_mem_cons.mpr ⟨snd_iload (by decide +kernel : decode cX0_waysOf 38 = .ok (.iload 5, 2)), ?_⟩
  refine List.forall_mem_cons.mpr ⟨snd_isub (by decide +kernel : decode cX0_waysOf 40 = .ok (.isub, 1)), ?_⟩
  refine List.forall_mem_cons.mpr ⟨snd_iload (by decide +kernel : decode cX0_waysOf 41 = .ok (.iload 6, 2)), ?_⟩
  refine List.forall_mem_cons.mpr ⟨snd_iload (by decide +kernel : decode cX0_waysOf 43 = .ok (.iload 9, 2)), ?_⟩
  refine List.forall_mem_cons.mpr ⟨snd_isub (by decide +kernel : decode cX0_waysOf 45 = .ok (.isub, 1)), ?_⟩
  refine List.forall_mem_cons.mpr ⟨snd_callSN mok_115 (List.mem_of_getElem? (i := 11) rfl) wd_29 (by decide +kernel : decode cX0_waysOf 46 = .ok (.invokestatic 38, 3)), ?_⟩
  refine List.forall_mem_cons.mpr ⟨snd_imul (by decide +kernel : decode cX0_waysOf 49 = .ok (.imul, 1)), ?_⟩
  refine List.forall_mem_cons.mpr ⟨snd_istore (by decide +kernel : decode cX0_waysOf 50 = .ok (.istore 10, 2)), ?_⟩
  refine List.forall_mem_cons.mpr ⟨snd_iload (by decide +kernel : decode cX0_waysOf 52 = .ok (.iload 10, 2)), ?_⟩
  refine List.forall_mem_cons.mpr ⟨snd_if_le (by decide +kernel : decode cX0_waysOf 54 = .ok (.ifCond .le 24, 3)) (by decide +kernel), ?_⟩
  refine List.forall_mem_cons.mpr ⟨snd_aload_n (by decide +kernel : decode cX0_waysOf 57 = .ok (.aload_n 0, 1)) rfl, ?_⟩
  refine List.forall_mem_cons.mpr ⟨snd_aload_n (by decide +kernel : decode cX0_waysOf 58 = .ok (.aload_n 1, 1)) rfl, ?_⟩
  refine List.forall_mem_cons.mpr ⟨snd_iload (by decide +kernel : decode cX0_waysOf 59 = .ok (.iload 8, 2)), ?_⟩
  refine List.forall_mem_cons.mpr ⟨snd_iload_n (by decide +kernel : decode cX0_waysOf 61 = .ok (.iload_n 2, 1)) rfl, ?_⟩
  refine List.forall_mem_cons.mpr ⟨snd_iload_n (by decide +kernel : decode cX0_waysOf 62 = .ok (.iload_n 3, 1)) rfl, ?_⟩
  refine List.forall_mem_cons.mpr ⟨snd_callV mok_3 wd_30 wd_33 wd_34 rfl rfl (by decide +kernel : decode cX0_waysOf 63 = .ok (.invokevirtual 41, 3)), ?_⟩
  refine List.forall_mem_cons.mpr ⟨snd_iload (by decide +kernel : decode cX0_waysOf 66 = .ok (.iload 4, 2)), ?_⟩
  refine List.forall_mem_cons.mpr ⟨snd_icmp_ne (by decide +kernel : decode cX0_waysOf 68 = .ok (.if_icmp .ne 10, 3)) (by decide +kernel), ?_⟩
  refine List.forall_mem_cons.mpr ⟨snd_iload (by decide +kernel : decode cX0_waysOf 71 = .ok (.iload 7, 2)), ?_⟩
  refine List.forall_mem_cons.mpr ⟨snd_iload (by decide +kernel : decode cX0_waysOf 73 = .ok (.iload 10, 2)), ?_⟩
  refine List.forall_mem_cons.mpr ⟨snd_iadd (by decide +kernel : decode cX0_waysOf 75 = .ok (.iadd, 1)), ?_⟩
  refine List.forall_mem_cons.mpr ⟨snd_istore (by decide +kernel : decode cX0_waysOf 76 = .ok (.istore 7, 2)), ?_⟩
  refine List.forall_mem_cons.mpr ⟨snd_iinc (by decide +kernel : decode cX0_waysOf 78 = .ok (.iinc 8 1, 3)) (by decide +kernel), ?_⟩
  refine List.forall_mem_cons.mpr ⟨snd_goto (by decide +kernel : decode cX0_waysOf 81 = .ok (.goto (-68), 3)) (by decide +kernel), ?_⟩
  refine List.forall_mem_cons.mpr ⟨snd_iload (by decide +kernel : decode cX0_waysOf 84 = .ok (.iload 7, 2)), ?_⟩
  refine List.forall_mem_cons.mpr ⟨snd_iret (by decide +kernel : decode cX0_waysOf 86 = .ok (.ireturn, 1)), ?_⟩
  exact fun _ h => absurd h List.not_mem_nil
theorem m_X0_waysOf : ∀ q ∈ k_X0_waysOf, Mono q.2 := by
  unfold k_X0_waysOf
  refine List.forall_mem_cons.mpr ⟨mo_aload _ _, ?_⟩
  refine List.forall_mem_cons.mpr ⟨mo_iload _ _, ?_⟩
  refine List.forall_mem_cons.mpr ⟨mo_call _ _ _, ?_⟩
  refine List.forall_mem_cons.mpr ⟨mo_istore _ _, ?_⟩
  refine List.forall_mem_cons.mpr ⟨mo_push _ _, ?_⟩
  refine List.forall_mem_cons.mpr ⟨mo_istore _ _, ?_⟩
  refine List.forall_mem_cons.mpr ⟨mo_push _ _, ?_⟩
  refine List.forall_mem_cons.mpr ⟨mo_istore _ _, ?_⟩
  refine List.forall_mem_cons.mpr ⟨mo_iload _ _, ?_⟩
  refine List.forall_mem_cons.mpr ⟨mo_push _ _, ?_⟩
  refine List.forall_mem_cons.mpr ⟨mo_iload _ _, ?_⟩
  refine List.forall_mem_cons.mpr ⟨mo_bin _, ?_⟩
  refine List.forall_mem_cons.mpr ⟨mo_icmp _ _ _, ?_⟩
  refine List.forall_mem_cons.mpr ⟨mo_iload _ _, ?_⟩
  refine List.forall_mem_cons.mpr ⟨mo_call _ _ _, ?_⟩
  refine List.forall_mem_cons.mpr ⟨mo_istore _ _, ?_⟩
  refine List.forall_mem_cons.mpr ⟨mo_iload _ _, ?_⟩
  refine List.forall_mem_cons.mpr ⟨mo_iload _ _, ?_⟩
  refine List.forall_mem_cons.mpr ⟨mo_call _ _ _, ?_⟩
  refine List.forall_mem_cons.mpr ⟨mo_push _ _, ?_⟩
  refine List.forall_mem_cons.mpr ⟨mo_iload _ _, ?_⟩
  refine List.forall_mem_cons.mpr ⟨mo_bin _, ?_⟩
  refine List.forall_mem_cons.mpr ⟨mo_iload _ _, ?_⟩
  refine List.forall_mem_cons.mpr ⟨mo_iload _ _, ?_⟩
  refine List.forall_mem_cons.mpr ⟨mo_bin _, ?_⟩
  refine List.forall_mem_cons.mpr ⟨mo_call _ _ _, ?_⟩
  refine List.forall_mem_cons.mpr ⟨mo_bin _, ?_⟩
  refine List.forall_mem_cons.mpr ⟨mo_istore _ _, ?_⟩
  refine List.forall_mem_cons.mpr ⟨mo_iload _ _, ?_⟩
  refine List.forall_mem_cons.mpr ⟨mo_if _ _ _, ?_⟩
  refine List.forall_mem_cons.mpr ⟨mo_aload _ _, ?_⟩
  refine List.forall_mem_cons.mpr ⟨mo_aload _ _, ?_⟩
  refine List.forall_mem_cons.mpr ⟨mo_iload _ _, ?_⟩
  refine List.forall_mem_cons.mpr ⟨mo_iload _ _, ?_⟩
  refine List.forall_mem_cons.mpr ⟨mo_iload _ _, ?_⟩
  refine List.forall_mem_cons.mpr ⟨mo_call _ _ _, ?_⟩
  refine List.forall_mem_cons.mpr ⟨mo_iload _ _, ?_⟩
  refine List.forall_mem_cons.mpr ⟨mo_icmp _ _ _, ?_⟩
  refine List.forall_mem_cons.mpr ⟨mo_iload _ _, ?_⟩
  refine List.forall_mem_cons.mpr ⟨mo_iload _ _, ?_⟩
  refine List.forall_mem_cons.mpr ⟨mo_bin _, ?_⟩
  refine List.forall_mem_cons.mpr ⟨mo_istore _ _, ?_⟩
  refine List.forall_mem_cons.mpr ⟨mo_iinc _ _, ?_⟩
  refine List.forall_mem_cons.mpr ⟨mo_goto _, ?_⟩
  refine List.forall_mem_cons.mpr ⟨mo_iload _ _, ?_⟩
  refine List.forall_mem_cons.mpr ⟨mo_iret, ?_⟩
  exact fun _ h => absurd h List.not_mem_nil
def k_X0_topBehind : List (Nat × aI) := [
  (0, i_aload 0 1),
  (1, i_get 0 0),
  (4, i_aload 1 1),
  (5, i_callV 22 2 2),
  (8, i_push (.int 0) 1),
  (9, i_istore 5 2),
  (11, i_iload 5 2),
  (13, i_iload 3 1),
  (14, i_icmp (fun x y => x < y) 17 55),
  (17, i_iload 2 1),
  (18, i_iload 5 2),
  (20, i_bin (fun x y => x >>> (y &&& 31))),
  (21, i_push (.int 1) 1),
  (22, i_bin (fun x y => x &&& y)),
  (23, i_push (.int 1) 1),
  (24, i_icmp (fun x y => x = y) 27 41),
  (27, i_aload 0 1),
  (28, i_get 0 0),
  (31, i_aload 0 1),
  (32, i_get 0 0),
  (35, i_callV 27 1 2),
  (38, i_callV 44 2 2),
  (41, i_aload 0 1),
  (42, i_get 0 0),
  (45, i_callV 45 1 2),
  (48, i_pop),
  (49, i_iinc 5 1),
  (52, i_goto 11),
  (55, i_aload 0 1),
  (56, i_get 0 0),
  (59, i_push (.int 0) 1),
  (60, i_iload 4 2),
  (62, i_callV 30 3 2),
  (65, i_iret)]
theorem s_X0_topBehind : ∀ q ∈ k_X0_topBehind, Snd RX0 cX0_topBehind (some .int) false q.1 q.2 := by
  unfold k_X0_topBehind
  refine List.forall_mem_cons.mpr ⟨snd_aload_n (by decide +kernel : decode cX0_topBehind 0 = .ok (.aload_n 0, 1)) rfl, ?_⟩
  refine List.forall_mem_cons.mpr ⟨snd_get fl_0_12 (by decide +kernel : decode cX0_topBehind 1 = .ok (.getfield 12, 3)), ?_⟩
  refine List.forall_mem_cons.mpr ⟨snd_aload_n (by decide +kernel : decode cX0_topBehind 4 = .ok (.aload_n 1, 1)) rfl, ?_⟩
  refine List.forall_mem_cons.mpr ⟨snd_callV mok_22 wd_35 wd_38 wd_39 rfl rfl (by decide +kernel : decode cX0_topBehind 5 = .ok (.invokevirtual 45, 3)), ?_⟩
  refine List.forall_mem_cons.mpr ⟨snd_iconst (by decide +kernel : decode cX0_topBehind 8 = .ok (.iconst 0, 1)) (by decide +kernel), ?_⟩
  refine List.forall_mem_cons.mpr ⟨snd_istore (by decide +kernel : decode cX0_topBehind 9 = .ok (.istore 5, 2)), ?_⟩
  refine List.forall_mem_cons.mpr ⟨snd_iload (by decide +kernel : decode cX0_topBehind 11 = .ok (.iload 5, 2)), ?_⟩
  refine List.forall_mem_cons.mpr ⟨snd_iload_n (by decide +kernel : decode cX0_topBehind 13 = .ok (.iload_n 3, 1)) rfl, ?_⟩
  refine List.forall_mem_cons.mpr ⟨snd_icmp_ge (by decide +kernel : decode cX0_topBehind 14 = .ok (.if_icmp .ge 41, 3)) (by decide +kernel), ?_⟩
  refine List.forall_mem_cons.mpr ⟨snd_iload_n (by decide +kernel : decode cX0_topBehind 17 = .ok (.iload_n 2, 1)) rfl, ?_⟩
  refine List.forall_mem_cons.mpr ⟨snd_iload (by decide +kernel : decode cX0_topBehind 18 = .ok (.iload 5, 2)), ?_⟩
  refine List.forall_mem_cons.mpr ⟨snd_ishr (by decide +kernel : decode cX0_topBehind 20 = .ok (.ishr, 1)), ?_⟩
  refine List.forall_mem_cons.mpr ⟨snd_iconst (by decide +kernel : decode cX0_topBehind 21 = .ok (.iconst 1, 1)) (by decide +kernel), ?_⟩
  refine List.forall_mem_cons.mpr ⟨snd_iand (by decide +kernel : decode cX0_topBehind 22 = .ok (.iand, 1)), ?_⟩
  refine List.forall_mem_cons.mpr ⟨snd_iconst (by decide +kernel : decode cX0_topBehind 23 = .ok (.iconst 1, 1)) (by decide +kernel), ?_⟩
  refine List.forall_mem_cons.mpr ⟨snd_icmp_ne (by decide +kernel : decode cX0_topBehind 24 = .ok (.if_icmp .ne 17, 3)) (by decide +kernel), ?_⟩
  refine List.forall_mem_cons.mpr ⟨snd_aload_n (by decide +kernel : decode cX0_topBehind 27 = .ok (.aload_n 0, 1)) rfl, ?_⟩
  refine List.forall_mem_cons.mpr ⟨snd_get fl_0_12 (by decide +kernel : decode cX0_topBehind 28 = .ok (.getfield 12, 3)), ?_⟩
  refine List.forall_mem_cons.mpr ⟨snd_aload_n (by decide +kernel : decode cX0_topBehind 31 = .ok (.aload_n 0, 1)) rfl, ?_⟩
  refine List.forall_mem_cons.mpr ⟨snd_get fl_0_12 (by decide +kernel : decode cX0_topBehind 32 = .ok (.getfield 12, 3)), ?_⟩
  refine List.forall_mem_cons.mpr ⟨snd_callV mok_27 wd_40 wd_43 wd_44 rfl rfl (by decide +kernel : decode cX0_topBehind 35 = .ok (.invokevirtual 49, 3)), ?_⟩
  refine List.forall_mem_cons.mpr ⟨snd_callV mok_44 wd_45 wd_48 wd_49 rfl rfl (by decide +kernel : decode cX0_topBehind 38 = .ok (.invokevirtual 52, 3)), ?_⟩
  refine List.forall_mem_cons.mpr ⟨snd_aload_n (by decide +kernel : decode cX0_topBehind 41 = .ok (.aload_n 0, 1)) rfl, ?_⟩
  refine List.forall_mem_cons.mpr ⟨snd_get fl_0_12 (by decide +kernel : decode cX0_topBehind 42 = .ok (.getfield 12, 3)), ?_⟩
  refine List.forall_mem_cons.mpr ⟨snd_callV mok_45 wd_50 wd_53 wd_54 rfl rfl (by decide +kernel : decode cX0_topBehind 45 = .ok (.invokevirtual 56, 3)), ?_⟩
  refine List.forall_mem_cons.mpr ⟨snd_pop (by decide +kernel : decode cX0_topBehind 48 = .ok (.pop, 1)), ?_⟩
  refine List.forall_mem_cons.mpr ⟨snd_iinc (by decide +kernel : decode cX0_topBehind 49 = .ok (.iinc 5 1, 3)) (by decide +kernel), ?_⟩
  refine List.forall_mem_cons.mpr ⟨snd_goto (by decide +kernel : decode cX0_topBehind 52 = .ok (.goto (-41), 3)) (by decide +kernel), ?_⟩
  refine List.forall_mem_cons.mpr ⟨snd_aload_n (by decide +kernel : decode cX0_topBehind 55 = .ok (.aload_n 0, 1)) rfl, ?_⟩
  refine List.forall_mem_cons.mpr ⟨snd_get fl_0_12 (by decide +kernel : decode cX0_topBehind 56 = .ok (.getfield 12, 3)), ?_⟩
  refine List.forall_mem_cons.mpr ⟨snd_iconst (by decide +kernel : decode cX0_topBehind 59 = .ok (.iconst 0, 1)) (by decide +kernel), ?_⟩
  refine List.forall_mem_cons.mpr ⟨snd_iload (by decide +kernel : decode cX0_topBehind 60 = .ok (.iload 4, 2)), ?_⟩
  refine List.forall_mem_cons.mpr ⟨snd_callV mok_30 wd_55 wd_58 wd_59 rfl rfl (by decide +kernel : decode cX0_topBehind 62 = .ok (.invokevirtual 60, 3)), ?_⟩
  refine List.forall_mem_cons.mpr ⟨snd_iret (by decide +kernel : decode cX0_topBehind 65 = .ok (.ireturn, 1)), ?_⟩
  exact fun _ h => absurd h List.not_mem_nil
theorem m_X0_topBehind : ∀ q ∈ k_X0_topBehind, Mono q.2 := by
  unfold k_X0_topBehind
  refine List.forall_mem_cons.mpr ⟨mo_aload _ _, ?_⟩
  refine List.forall_mem_cons.mpr ⟨mo_get _ _, ?_⟩
  refine List.forall_mem_cons.mpr ⟨mo_aload _ _, ?_⟩
  refine List.forall_mem_cons.mpr ⟨mo_call _ _ _, ?_⟩
  refine List.forall_mem_cons.mpr ⟨mo_push _ _, ?_⟩
  refine List.forall_mem_cons.mpr ⟨mo_istore _ _, ?_⟩
  refine List.forall_mem_cons.mpr ⟨mo_iload _ _, ?_⟩
  refine List.forall_mem_cons.mpr ⟨mo_iload _ _, ?_⟩
  refine List.forall_mem_cons.mpr ⟨mo_icmp _ _ _, ?_⟩
  refine List.forall_mem_cons.mpr ⟨mo_iload _ _, ?_⟩
  refine List.forall_mem_cons.mpr ⟨mo_iload _ _, ?_⟩
  refine List.forall_mem_cons.mpr ⟨mo_bin _, ?_⟩
  refine List.forall_mem_cons.mpr ⟨mo_push _ _, ?_⟩
  refine List.forall_mem_cons.mpr ⟨mo_bin _, ?_⟩
  refine List.forall_mem_cons.mpr ⟨mo_push _ _, ?_⟩
  refine List.forall_mem_cons.mpr ⟨mo_icmp _ _ _, ?_⟩
  refine List.forall_mem_cons.mpr ⟨mo_aload _ _, ?_⟩
  refine List.forall_mem_cons.mpr ⟨mo_get _ _, ?_⟩
  refine List.forall_mem_cons.mpr ⟨mo_aload _ _, ?_⟩
  refine List.forall_mem_cons.mpr ⟨mo_get _ _, ?_⟩
  refine List.forall_mem_cons.mpr ⟨mo_call _ _ _, ?_⟩
  refine List.forall_mem_cons.mpr ⟨mo_call _ _ _, ?_⟩
  refine List.forall_mem_cons.mpr ⟨mo_aload _ _, ?_⟩
  refine List.forall_mem_cons.mpr ⟨mo_get _ _, ?_⟩
  refine List.forall_mem_cons.mpr ⟨mo_call _ _ _, ?_⟩
  refine List.forall_mem_cons.mpr ⟨mo_pop, ?_⟩
  refine List.forall_mem_cons.mpr ⟨mo_iinc _ _, ?_⟩
  refine List.forall_mem_cons.mpr ⟨mo_goto _, ?_⟩
  refine List.forall_mem_cons.mpr ⟨mo_aload _ _, ?_⟩
  refine List.forall_mem_cons.mpr ⟨mo_get _ _, ?_⟩
  refine List.forall_mem_cons.mpr ⟨mo_push _ _, ?_⟩
  refine List.forall_mem_cons.mpr ⟨mo_iload _ _, ?_⟩
  refine List.forall_mem_cons.mpr ⟨mo_call _ _ _, ?_⟩
  refine List.forall_mem_cons.mpr ⟨mo_iret, ?_⟩
  exact fun _ h => absurd h List.not_mem_nil
def k_X0_liveCentury : List (Nat × aI) := [
  (0, i_push (.int 0) 1),
  (1, i_istore 3 1),
  (2, i_iload 3 1),
  (3, i_iload 2 1),
  (4, i_icmp (fun x y => x < y) 7 27),
  (7, i_aload 0 1),
  (8, i_iload 1 1),
  (9, i_iload 3 1),
  (10, i_callS 5 2),
  (13, i_callS 6 2),
  (16, i_aload 0 1),
  (17, i_callV 45 1 2),
  (20, i_pop),
  (21, i_iinc 3 1),
  (24, i_goto 2),
  (27, i_vret)]
theorem s_X0_liveCentury : ∀ q ∈ k_X0_liveCentury, Snd RX0 cX0_liveCentury none false q.1 q.2 := by
  unfold k_X0_liveCentury
  refine List.forall_mem_cons.mpr ⟨snd_iconst (by decide +kernel : decode cX0_liveCentury 0 = .ok (.iconst 0, 1)) (by decide +kernel), ?_⟩
  refine List.forall_mem_cons.mpr ⟨snd_istore_n (by decide +kernel : decode cX0_liveCentury 1 = .ok (.istore_n 3, 1)) rfl, ?_⟩
  refine List.forall_mem_cons.mpr ⟨snd_iload_n (by decide +kernel : decode cX0_liveCentury 2 = .ok (.iload_n 3, 1)) rfl, ?_⟩
  refine List.forall_mem_cons.mpr ⟨snd_iload_n (by decide +kernel : decode cX0_liveCentury 3 = .ok (.iload_n 2, 1)) rfl, ?_⟩
  refine List.forall_mem_cons.mpr ⟨snd_icmp_ge (by decide +kernel : decode cX0_liveCentury 4 = .ok (.if_icmp .ge 23, 3)) (by decide +kernel), ?_⟩
  refine List.forall_mem_cons.mpr ⟨snd_aload_n (by decide +kernel : decode cX0_liveCentury 7 = .ok (.aload_n 0, 1)) rfl, ?_⟩
  refine List.forall_mem_cons.mpr ⟨snd_iload_n (by decide +kernel : decode cX0_liveCentury 8 = .ok (.iload_n 1, 1)) rfl, ?_⟩
  refine List.forall_mem_cons.mpr ⟨snd_iload_n (by decide +kernel : decode cX0_liveCentury 9 = .ok (.iload_n 3, 1)) rfl, ?_⟩
  refine List.forall_mem_cons.mpr ⟨snd_callS mok_5 wd_60 wd_63 (by decide +kernel : decode cX0_liveCentury 10 = .ok (.invokestatic 63, 3)), ?_⟩
  refine List.forall_mem_cons.mpr ⟨snd_callS mok_6 wd_64 wd_67 (by decide +kernel : decode cX0_liveCentury 13 = .ok (.invokestatic 66, 3)), ?_⟩
  refine List.forall_mem_cons.mpr ⟨snd_aload_n (by decide +kernel : decode cX0_liveCentury 16 = .ok (.aload_n 0, 1)) rfl, ?_⟩
  refine List.forall_mem_cons.mpr ⟨snd_callV mok_45 wd_50 wd_53 wd_54 rfl rfl (by decide +kernel : decode cX0_liveCentury 17 = .ok (.invokevirtual 56, 3)), ?_⟩
  refine List.forall_mem_cons.mpr ⟨snd_pop (by decide +kernel : decode cX0_liveCentury 20 = .ok (.pop, 1)), ?_⟩
  refine List.forall_mem_cons.mpr ⟨snd_iinc (by decide +kernel : decode cX0_liveCentury 21 = .ok (.iinc 3 1, 3)) (by decide +kernel), ?_⟩
  refine List.forall_mem_cons.mpr ⟨snd_goto (by decide +kernel : decode cX0_liveCentury 24 = .ok (.goto (-22), 3)) (by decide +kernel), ?_⟩
  refine List.forall_mem_cons.mpr ⟨snd_vret (by decide +kernel : decode cX0_liveCentury 27 = .ok (.return_, 1)), ?_⟩
  exact fun _ h => absurd h List.not_mem_nil
theorem m_X0_liveCentury : ∀ q ∈ k_X0_liveCentury, Mono q.2 := by
  unfold k_X0_liveCentury
  refine List.forall_mem_cons.mpr ⟨mo_push _ _, ?_⟩
  refine List.forall_mem_cons.mpr ⟨mo_istore _ _, ?_⟩
  refine List.forall_mem_cons.mpr ⟨mo_iload _ _, ?_⟩
  refine List.forall_mem_cons.mpr ⟨mo_iload _ _, ?_⟩
  refine List.forall_mem_cons.mpr ⟨mo_icmp _ _ _, ?_⟩
  refine List.forall_mem_cons.mpr ⟨mo_aload _ _, ?_⟩
  refine List.forall_mem_cons.mpr ⟨mo_iload _ _, ?_⟩
  refine List.forall_mem_cons.mpr ⟨mo_iload _ _, ?_⟩
  refine List.forall_mem_cons.mpr ⟨mo_call _ _ _, ?_⟩
  refine List.forall_mem_cons.mpr ⟨mo_call _ _ _, ?_⟩
  refine List.forall_mem_cons.mpr ⟨mo_aload _ _, ?_⟩
  refine List.forall_mem_cons.mpr ⟨mo_call _ _ _, ?_⟩
  refine List.forall_mem_cons.mpr ⟨mo_pop, ?_⟩
  refine List.forall_mem_cons.mpr ⟨mo_iinc _ _, ?_⟩
  refine List.forall_mem_cons.mpr ⟨mo_goto _, ?_⟩
  refine List.forall_mem_cons.mpr ⟨mo_vret, ?_⟩
  exact fun _ h => absurd h List.not_mem_nil
def k_X0_draw : List (Nat × aI) := [
  (0, i_push (.long 7919) 3),
  (3, i_iload 0 1),
  (4, i_i2l),
  (5, i_lbin (fun x y => x * y)),
  (6, i_push (.long 6151) 3),
  (9, i_iload 1 1),
  (10, i_i2l),
  (11, i_lbin (fun x y => x * y)),
  (12, i_lbin (fun x y => x + y)),
  (13, i_push (.long 1) 1),
  (14, i_lbin (fun x y => x + y)),
  (15, i_lstore 2 1),
  (16, i_lload 2 1),
  (17, i_lload 2 1),
  (18, i_lbin (fun x y => x * y)),
  (19, i_push (.long 65521) 3),
  (22, i_ldiv (fun x y => x - x / y * y)),
  (23, i_push (.long 2) 3),
  (26, i_ldiv (fun x y => x / y)),
  (27, i_l2i),
  (28, i_iret)]
theorem s_X0_draw : ∀ q ∈ k_X0_draw, Snd RX0 cX0_draw (some .int) false q.1 q.2 := by
  unfold k_X0_draw
  refine List.forall_mem_cons.mpr ⟨snd_ldc2 (by decide +kernel : decode cX0_draw 0 = .ok (.ldc2_w 70, 3)) wd_68, ?_⟩
  refine List.forall_mem_cons.mpr ⟨snd_iload_n (by decide +kernel : decode cX0_draw 3 = .ok (.iload_n 0, 1)) rfl, ?_⟩
  refine List.forall_mem_cons.mpr ⟨snd_i2l (by decide +kernel : decode cX0_draw 4 = .ok (.i2l, 1)), ?_⟩
  refine List.forall_mem_cons.mpr ⟨snd_lmul (by decide +kernel : decode cX0_draw 5 = .ok (.lmul, 1)), ?_⟩
  refine List.forall_mem_cons.mpr ⟨snd_ldc2 (by decide +kernel : decode cX0_draw 6 = .ok (.ldc2_w 72, 3)) wd_69, ?_⟩
  refine List.forall_mem_cons.mpr ⟨snd_iload_n (by decide +kernel : decode cX0_draw 9 = .ok (.iload_n 1, 1)) rfl, ?_⟩
  refine List.forall_mem_cons.mpr ⟨snd_i2l (by decide +kernel : decode cX0_draw 10 = .ok (.i2l, 1)), ?_⟩
  refine List.forall_mem_cons.mpr ⟨snd_lmul (by decide +kernel : decode cX0_draw 11 = .ok (.lmul, 1)), ?_⟩
  refine List.forall_mem_cons.mpr ⟨snd_ladd (by decide +kernel : decode cX0_draw 12 = .ok (.ladd, 1)), ?_⟩
  refine List.forall_mem_cons.mpr ⟨snd_lconst (by decide +kernel : decode cX0_draw 13 = .ok (.lconst 1, 1)) (by decide +kernel), ?_⟩
  refine List.forall_mem_cons.mpr ⟨snd_ladd (by decide +kernel : decode cX0_draw 14 = .ok (.ladd, 1)), ?_⟩
  refine List.forall_mem_cons.mpr ⟨snd_lstore_n (by decide +kernel : decode cX0_draw 15 = .ok (.lstore_n 2, 1)) rfl, ?_⟩
  refine List.forall_mem_cons.mpr ⟨snd_lload_n (by decide +kernel : decode cX0_draw 16 = .ok (.lload_n 2, 1)) rfl, ?_⟩
  refine List.forall_mem_cons.mpr ⟨snd_lload_n (by decide +kernel : decode cX0_draw 17 = .ok (.lload_n 2, 1)) rfl, ?_⟩
  refine List.forall_mem_cons.mpr ⟨snd_lmul (by decide +kernel : decode cX0_draw 18 = .ok (.lmul, 1)), ?_⟩
  refine List.forall_mem_cons.mpr ⟨snd_ldc2 (by decide +kernel : decode cX0_draw 19 = .ok (.ldc2_w 74, 3)) wd_70, ?_⟩
  refine List.forall_mem_cons.mpr ⟨snd_lrem (by decide +kernel : decode cX0_draw 22 = .ok (.lrem, 1)), ?_⟩
  refine List.forall_mem_cons.mpr ⟨snd_ldc2 (by decide +kernel : decode cX0_draw 23 = .ok (.ldc2_w 76, 3)) wd_71, ?_⟩
  refine List.forall_mem_cons.mpr ⟨snd_ldiv (by decide +kernel : decode cX0_draw 26 = .ok (.ldiv, 1)), ?_⟩
  refine List.forall_mem_cons.mpr ⟨snd_l2i (by decide +kernel : decode cX0_draw 27 = .ok (.l2i, 1)), ?_⟩
  refine List.forall_mem_cons.mpr ⟨snd_iret (by decide +kernel : decode cX0_draw 28 = .ok (.ireturn, 1)), ?_⟩
  exact fun _ h => absurd h List.not_mem_nil
theorem m_X0_draw : ∀ q ∈ k_X0_draw, Mono q.2 := by
  unfold k_X0_draw
  refine List.forall_mem_cons.mpr ⟨mo_push _ _, ?_⟩
  refine List.forall_mem_cons.mpr ⟨mo_iload _ _, ?_⟩
  refine List.forall_mem_cons.mpr ⟨mo_i2l, ?_⟩
  refine List.forall_mem_cons.mpr ⟨mo_lbin _, ?_⟩
  refine List.forall_mem_cons.mpr ⟨mo_push _ _, ?_⟩
  refine List.forall_mem_cons.mpr ⟨mo_iload _ _, ?_⟩
  refine List.forall_mem_cons.mpr ⟨mo_i2l, ?_⟩
  refine List.forall_mem_cons.mpr ⟨mo_lbin _, ?_⟩
  refine List.forall_mem_cons.mpr ⟨mo_lbin _, ?_⟩
  refine List.forall_mem_cons.mpr ⟨mo_push _ _, ?_⟩
  refine List.forall_mem_cons.mpr ⟨mo_lbin _, ?_⟩
  refine List.forall_mem_cons.mpr ⟨mo_lstore _ _, ?_⟩
  refine List.forall_mem_cons.mpr ⟨mo_lload _ _, ?_⟩
  refine List.forall_mem_cons.mpr ⟨mo_lload _ _, ?_⟩
  refine List.forall_mem_cons.mpr ⟨mo_lbin _, ?_⟩
  refine List.forall_mem_cons.mpr ⟨mo_push _ _, ?_⟩
  refine List.forall_mem_cons.mpr ⟨mo_ldiv _, ?_⟩
  refine List.forall_mem_cons.mpr ⟨mo_push _ _, ?_⟩
  refine List.forall_mem_cons.mpr ⟨mo_ldiv _, ?_⟩
  refine List.forall_mem_cons.mpr ⟨mo_l2i, ?_⟩
  refine List.forall_mem_cons.mpr ⟨mo_iret, ?_⟩
  exact fun _ h => absurd h List.not_mem_nil
def k_X0_actBy : List (Nat × aI) := [
  (0, i_iload 1 1),
  (1, i_aload 0 1),
  (2, i_callV 25 1 2),
  (5, i_callS 7 2),
  (8, i_istore 2 1),
  (9, i_iload 1 1),
  (10, i_push (.int 8) 2),
  (12, i_div (fun x y => x / y)),
  (13, i_aload 0 1),
  (14, i_callV 26 1 2),
  (17, i_callS 7 2),
  (20, i_istore 3 1),
  (21, i_iload 1 1),
  (22, i_push (.int 64) 2),
  (24, i_div (fun x y => x / y)),
  (25, i_push (.int 6) 2),
  (27, i_div (fun x y => x - x / y * y)),
  (28, i_tsw 0 2 [56, 73, 81] 89),
  (56, i_aload 0 1),
  (57, i_iload 2 1),
  (58, i_iload 3 1),
  (59, i_iload 1 1),
  (60, i_push (.int 512) 3),
  (63, i_div (fun x y => x / y)),
  (64, i_push (.int 10) 2),
  (66, i_div (fun x y => x - x / y * y)),
  (67, i_callV 31 4 2),
  (70, i_goto 89),
  (73, i_aload 0 1),
  (74, i_iload 2 1),
  (75, i_callV 44 2 2),
  (78, i_goto 89),
  (81, i_aload 0 1),
  (82, i_iload 2 1),
  (83, i_callV 36 2 2),
  (86, i_goto 89),
  (89, i_vret)]
theorem s_X0_actBy : ∀ q ∈ k_X0_actBy, Snd RX0 cX0_actBy none false q.1 q.2 := by
  unfold k_X0_actBy
  refine List.forall_mem_cons.mpr ⟨snd_iload_n (by decide +kernel : decode cX0_actBy 0 = .ok (.iload_n 1, 1)) rfl, ?_⟩
  refine List.forall_mem_cons.mpr ⟨snd_aload_n (by decide +kernel : decode cX0_actBy 1 = .ok (.aload_n 0, 1)) rfl, ?_⟩
  refine List.forall_mem_cons.mpr ⟨snd_callV mok_25 wd_10 wd_13 wd_14 rfl rfl (by decide +kernel : decode cX0_actBy 2 = .ok (.invokevirtual 18, 3)), ?_⟩
  refine List.forall_mem_cons.mpr ⟨snd_callS mok_7 wd_72 wd_75 (by decide +kernel : decode cX0_actBy 5 = .ok (.invokestatic 78, 3)), ?_⟩
  refine List.forall_mem_cons.mpr ⟨snd_istore_n (by decide +kernel : decode cX0_actBy 8 = .ok (.istore_n 2, 1)) rfl, ?_⟩
  refine List.forall_mem_cons.mpr ⟨snd_iload_n (by decide +kernel : decode cX0_actBy 9 = .ok (.iload_n 1, 1)) rfl, ?_⟩
  refine List.forall_mem_cons.mpr ⟨snd_bipush (by decide +kernel : decode cX0_actBy 10 = .ok (.bipush 8, 2)) (by decide +kernel), ?_⟩
  refine List.forall_mem_cons.mpr ⟨snd_idiv (by decide +kernel : decode cX0_actBy 12 = .ok (.idiv, 1)), ?_⟩
  refine List.forall_mem_cons.mpr ⟨snd_aload_n (by decide +kernel : decode cX0_actBy 13 = .ok (.aload_n 0, 1)) rfl, ?_⟩
  refine List.forall_mem_cons.mpr ⟨snd_callV mok_26 wd_76 wd_79 wd_80 rfl rfl (by decide +kernel : decode cX0_actBy 14 = .ok (.invokevirtual 81, 3)), ?_⟩
  refine List.forall_mem_cons.mpr ⟨snd_callS mok_7 wd_72 wd_75 (by decide +kernel : decode cX0_actBy 17 = .ok (.invokestatic 78, 3)), ?_⟩
  refine List.forall_mem_cons.mpr ⟨snd_istore_n (by decide +kernel : decode cX0_actBy 20 = .ok (.istore_n 3, 1)) rfl, ?_⟩
  refine List.forall_mem_cons.mpr ⟨snd_iload_n (by decide +kernel : decode cX0_actBy 21 = .ok (.iload_n 1, 1)) rfl, ?_⟩
  refine List.forall_mem_cons.mpr ⟨snd_bipush (by decide +kernel : decode cX0_actBy 22 = .ok (.bipush 64, 2)) (by decide +kernel), ?_⟩
  refine List.forall_mem_cons.mpr ⟨snd_idiv (by decide +kernel : decode cX0_actBy 24 = .ok (.idiv, 1)), ?_⟩
  refine List.forall_mem_cons.mpr ⟨snd_bipush (by decide +kernel : decode cX0_actBy 25 = .ok (.bipush 6, 2)) (by decide +kernel), ?_⟩
  refine List.forall_mem_cons.mpr ⟨snd_irem (by decide +kernel : decode cX0_actBy 27 = .ok (.irem, 1)), ?_⟩
  refine List.forall_mem_cons.mpr ⟨snd_tsw (by decide +kernel : decode cX0_actBy 28 = .ok (.tableswitch 61 0 2 #[28, 45, 53], 28)) (by decide +kernel) (by decide +kernel) (by decide +kernel), ?_⟩
  refine List.forall_mem_cons.mpr ⟨snd_aload_n (by decide +kernel : decode cX0_actBy 56 = .ok (.aload_n 0, 1)) rfl, ?_⟩
  refine List.forall_mem_cons.mpr ⟨snd_iload_n (by decide +kernel : decode cX0_actBy 57 = .ok (.iload_n 2, 1)) rfl, ?_⟩
  refine List.forall_mem_cons.mpr ⟨snd_iload_n (by decide +kernel : decode cX0_actBy 58 = .ok (.iload_n 3, 1)) rfl, ?_⟩
  refine List.forall_mem_cons.mpr ⟨snd_iload_n (by decide +kernel : decode cX0_actBy 59 = .ok (.iload_n 1, 1)) rfl, ?_⟩
  refine List.forall_mem_cons.mpr ⟨snd_sipush (by decide +kernel : decode cX0_actBy 60 = .ok (.sipush 512, 3)) (by decide +kernel), ?_⟩
  refine List.forall_mem_cons.mpr ⟨snd_idiv (by decide +kernel : decode cX0_actBy 63 = .ok (.idiv, 1)), ?_⟩
  refine List.forall_mem_cons.mpr ⟨snd_bipush (by decide +kernel : decode cX0_actBy 64 = .ok (.bipush 10, 2)) (by decide +kernel), ?_⟩
  refine List.forall_mem_cons.mpr ⟨snd_irem (by decide +kernel : decode cX0_actBy 66 = .ok (.irem, 1)), ?_⟩
  refine List.forall_mem_cons.mpr ⟨snd_callV mok_31 wd_81 wd_84 wd_85 rfl rfl (by decide +kernel : decode cX0_actBy 67 = .ok (.invokevirtual 84, 3)), ?_⟩
  refine List.forall_mem_cons.mpr ⟨snd_goto (by decide +kernel : decode cX0_actBy 70 = .ok (.goto 19, 3)) (by decide +kernel), ?_⟩
  refine List.forall_mem_cons.mpr ⟨snd_aload_n (by decide +kernel : decode cX0_actBy 73 = .ok (.aload_n 0, 1)) rfl, ?_⟩
  refine List.forall_mem_cons.mpr ⟨snd_iload_n (by decide +kernel : decode cX0_actBy 74 = .ok (.iload_n 2, 1)) rfl, ?_⟩
  refine List.forall_mem_cons.mpr ⟨snd_callV mok_44 wd_45 wd_48 wd_49 rfl rfl (by decide +kernel : decode cX0_actBy 75 = .ok (.invokevirtual 52, 3)), ?_⟩
  refine List.forall_mem_cons.mpr ⟨snd_goto (by decide +kernel : decode cX0_actBy 78 = .ok (.goto 11, 3)) (by decide +kernel), ?_⟩
  refine List.forall_mem_cons.mpr ⟨snd_aload_n (by decide +kernel : decode cX0_actBy 81 = .ok (.aload_n 0, 1)) rfl, ?_⟩
  refine List.forall_mem_cons.mpr ⟨snd_iload_n (by decide +kernel : decode cX0_actBy 82 = .ok (.iload_n 2, 1)) rfl, ?_⟩
  refine List.forall_mem_cons.mpr ⟨snd_callV mok_36 wd_86 wd_89 wd_90 rfl rfl (by decide +kernel : decode cX0_actBy 83 = .ok (.invokevirtual 88, 3)), ?_⟩
  refine List.forall_mem_cons.mpr ⟨snd_goto (by decide +kernel : decode cX0_actBy 86 = .ok (.goto 3, 3)) (by decide +kernel), ?_⟩
  refine List.forall_mem_cons.mpr ⟨snd_vret (by decide +kernel : decode cX0_actBy 89 = .ok (.return_, 1)), ?_⟩
  exact fun _ h => absurd h List.not_mem_nil
theorem m_X0_actBy : ∀ q ∈ k_X0_actBy, Mono q.2 := by
  unfold k_X0_actBy
  refine List.forall_mem_cons.mpr ⟨mo_iload _ _, ?_⟩
  refine List.forall_mem_cons.mpr ⟨mo_aload _ _, ?_⟩
  refine List.forall_mem_cons.mpr ⟨mo_call _ _ _, ?_⟩
  refine List.forall_mem_cons.mpr ⟨mo_call _ _ _, ?_⟩
  refine List.forall_mem_cons.mpr ⟨mo_istore _ _, ?_⟩
  refine List.forall_mem_cons.mpr ⟨mo_iload _ _, ?_⟩
  refine List.forall_mem_cons.mpr ⟨mo_push _ _, ?_⟩
  refine List.forall_mem_cons.mpr ⟨mo_div _, ?_⟩
  refine List.forall_mem_cons.mpr ⟨mo_aload _ _, ?_⟩
  refine List.forall_mem_cons.mpr ⟨mo_call _ _ _, ?_⟩
  refine List.forall_mem_cons.mpr ⟨mo_call _ _ _, ?_⟩
  refine List.forall_mem_cons.mpr ⟨mo_istore _ _, ?_⟩
  refine List.forall_mem_cons.mpr ⟨mo_iload _ _, ?_⟩
  refine List.forall_mem_cons.mpr ⟨mo_push _ _, ?_⟩
  refine List.forall_mem_cons.mpr ⟨mo_div _, ?_⟩
  refine List.forall_mem_cons.mpr ⟨mo_push _ _, ?_⟩
  refine List.forall_mem_cons.mpr ⟨mo_div _, ?_⟩
  refine List.forall_mem_cons.mpr ⟨mo_tsw _ _ _ _, ?_⟩
  refine List.forall_mem_cons.mpr ⟨mo_aload _ _, ?_⟩
  refine List.forall_mem_cons.mpr ⟨mo_iload _ _, ?_⟩
  refine List.forall_mem_cons.mpr ⟨mo_iload _ _, ?_⟩
  refine List.forall_mem_cons.mpr ⟨mo_iload _ _, ?_⟩
  refine List.forall_mem_cons.mpr ⟨mo_push _ _, ?_⟩
  refine List.forall_mem_cons.mpr ⟨mo_div _, ?_⟩
  refine List.forall_mem_cons.mpr ⟨mo_push _ _, ?_⟩
  refine List.forall_mem_cons.mpr ⟨mo_div _, ?_⟩
  refine List.forall_mem_cons.mpr ⟨mo_call _ _ _, ?_⟩
  refine List.forall_mem_cons.mpr ⟨mo_goto _, ?_⟩
  refine List.forall_mem_cons.mpr ⟨mo_aload _ _, ?_⟩
  refine List.forall_mem_cons.mpr ⟨mo_iload _ _, ?_⟩
  refine List.forall_mem_cons.mpr ⟨mo_call _ _ _, ?_⟩
  refine List.forall_mem_cons.mpr ⟨mo_goto _, ?_⟩
  refine List.forall_mem_cons.mpr ⟨mo_aload _ _, ?_⟩
  refine List.forall_mem_cons.mpr ⟨mo_iload _ _, ?_⟩
  refine List.forall_mem_cons.mpr ⟨mo_call _ _ _, ?_⟩
  refine List.forall_mem_cons.mpr ⟨mo_goto _, ?_⟩
  refine List.forall_mem_cons.mpr ⟨mo_vret, ?_⟩
  exact fun _ h => absurd h List.not_mem_nil
def k_X0_modulo : List (Nat × aI) := [
  (0, i_iload 1 1),
  (1, i_if (fun x => 0 < x) 4 10),
  (4, i_iload 0 1),
  (5, i_iload 1 1),
  (6, i_div (fun x y => x - x / y * y)),
  (7, i_goto 11),
  (10, i_push (.int 0) 1),
  (11, i_iret)]
theorem s_X0_modulo : ∀ q ∈ k_X0_modulo, Snd RX0 cX0_modulo (some .int) false q.1 q.2 := by
  unfold k_X0_modulo
  refine List.forall_mem_cons.mpr ⟨snd_iload_n (by decide +kernel : decode cX0_modulo 0 = .ok (.iload_n 1, 1)) rfl, ?_⟩
  refine List.forall_mem_cons.mpr ⟨snd_if_le (by decide +kernel : decode cX0_modulo 1 = .ok (.ifCond .le 9, 3)) (by decide +kernel), ?_⟩
  refine List.forall_mem_cons.mpr ⟨snd_iload_n (by decide +kernel : decode cX0_modulo 4 = .ok (.iload_n 0, 1)) rfl, ?_⟩
  refine List.forall_mem_cons.mpr ⟨snd_iload_n (by decide +kernel : decode cX0_modulo 5 = .ok (.iload_n 1, 1)) rfl, ?_⟩
  refine List.forall_mem_cons.mpr ⟨snd_irem (by decide +kernel : decode cX0_modulo 6 = .ok (.irem, 1)), ?_⟩
  refine List.forall_mem_cons.mpr ⟨snd_goto (by decide +kernel : decode cX0_modulo 7 = .ok (.goto 4, 3)) (by decide +kernel), ?_⟩
  refine List.forall_mem_cons.mpr ⟨snd_iconst (by decide +kernel : decode cX0_modulo 10 = .ok (.iconst 0, 1)) (by decide +kernel), ?_⟩
  refine List.forall_mem_cons.mpr ⟨snd_iret (by decide +kernel : decode cX0_modulo 11 = .ok (.ireturn, 1)), ?_⟩
  exact fun _ h => absurd h List.not_mem_nil
theorem m_X0_modulo : ∀ q ∈ k_X0_modulo, Mono q.2 := by
  unfold k_X0_modulo
  refine List.forall_mem_cons.mpr ⟨mo_iload _ _, ?_⟩
  refine List.forall_mem_cons.mpr ⟨mo_if _ _ _, ?_⟩
  refine List.forall_mem_cons.mpr ⟨mo_iload _ _, ?_⟩
  refine List.forall_mem_cons.mpr ⟨mo_iload _ _, ?_⟩
  refine List.forall_mem_cons.mpr ⟨mo_div _, ?_⟩
  refine List.forall_mem_cons.mpr ⟨mo_goto _, ?_⟩
  refine List.forall_mem_cons.mpr ⟨mo_push _ _, ?_⟩
  refine List.forall_mem_cons.mpr ⟨mo_iret, ?_⟩
  exact fun _ h => absurd h List.not_mem_nil
def k_J_bitCount : List (Nat × aI) := [
  (0, i_iload 0 1),
  (1, i_iload 0 1),
  (2, i_push (.int 1) 1),
  (3, i_bin (fun x y => (x.toUInt32 >>> (y.toUInt32 &&& Int32.toUInt32 31)).toInt32)),
  (4, i_push (.int 1431655765) 3),
  (7, i_bin (fun x y => x &&& y)),
  (8, i_bin (fun x y => x - y)),
  (9, i_istore 0 1),
  (10, i_iload 0 1),
  (11, i_push (.int 858993459) 3),
  (14, i_bin (fun x y => x &&& y)),
  (15, i_iload 0 1),
  (16, i_push (.int 2) 1),
  (17, i_bin (fun x y => (x.toUInt32 >>> (y.toUInt32 &&& Int32.toUInt32 31)).toInt32)),
  (18, i_push (.int 858993459) 3),
  (21, i_bin (fun x y => x &&& y)),
  (22, i_bin (fun x y => x + y)),
  (23, i_istore 0 1),
  (24, i_iload 0 1),
  (25, i_iload 0 1),
  (26, i_push (.int 4) 1),
  (27, i_bin (fun x y => (x.toUInt32 >>> (y.toUInt32 &&& Int32.toUInt32 31)).toInt32)),
  (28, i_bin (fun x y => x + y)),
  (29, i_push (.int 252645135) 3),
  (32, i_bin (fun x y => x &&& y)),
  (33, i_istore 0 1),
  (34, i_iload 0 1),
  (35, i_iload 0 1),
  (36, i_push (.int 8) 2),
  (38, i_bin (fun x y => (x.toUInt32 >>> (y.toUInt32 &&& Int32.toUInt32 31)).toInt32)),
  (39, i_bin (fun x y => x + y)),
  (40, i_istore 0 1),
  (41, i_iload 0 1),
  (42, i_iload 0 1),
  (43, i_push (.int 16) 2),
  (45, i_bin (fun x y => (x.toUInt32 >>> (y.toUInt32 &&& Int32.toUInt32 31)).toInt32)),
  (46, i_bin (fun x y => x + y)),
  (47, i_istore 0 1),
  (48, i_iload 0 1),
  (49, i_push (.int 63) 2),
  (51, i_bin (fun x y => x &&& y)),
  (52, i_iret)]
theorem s_J_bitCount : ∀ q ∈ k_J_bitCount, Snd RJ6 cJ6_bitCount_0f7a4 (some .int) false q.1 q.2 := by
  unfold k_J_bitCount
  refine List.forall_mem_cons.mpr ⟨snd_iload_n (by decide +kernel : decode cJ6_bitCount_0f7a4 0 = .ok (.iload_n 0, 1)) rfl, ?_⟩
  refine List.forall_mem_cons.mpr ⟨snd_iload_n (by decide +kernel : decode cJ6_bitCount_0f7a4 1 = .ok (.iload_n 0, 1)) rfl, ?_⟩
  refine List.forall_mem_cons.mpr ⟨snd_iconst (by decide +kernel : decode cJ6_bitCount_0f7a4 2 = .ok (.iconst 1, 1)) (by decide +kernel), ?_⟩
  refine List.forall_mem_cons.mpr ⟨snd_iushr (by decide +kernel : decode cJ6_bitCount_0f7a4 3 = .ok (.iushr, 1)), ?_⟩
  refine List.forall_mem_cons.mpr ⟨snd_ldcw (by decide +kernel : decode cJ6_bitCount_0f7a4 4 = .ok (.ldc_w 265, 3)) wd_724, ?_⟩
  refine List.forall_mem_cons.mpr ⟨snd_iand (by decide +kernel : decode cJ6_bitCount_0f7a4 7 = .ok (.iand, 1)), ?_⟩
  refine List.forall_mem_cons.mpr ⟨snd_isub (by decide +kernel : decode cJ6_bitCount_0f7a4 8 = .ok (.isub, 1)), ?_⟩
  refine List.forall_mem_cons.mpr ⟨snd_istore_n (by decide +kernel : decode cJ6_bitCount_0f7a4 9 = .ok (.istore_n 0, 1)) rfl, ?_⟩
  refine List.forall_mem_cons.mpr ⟨snd_iload_n (by decide +kernel : decode cJ6_bitCount_0f7a4 10 = .ok (.iload_n 0, 1)) rfl, ?_⟩
  refine List.forall_mem_cons.mpr ⟨snd_ldcw (by decide +kernel : decode cJ6_bitCount_0f7a4 11 = .ok (.ldc_w 266, 3)) wd_725, ?_⟩
  refine List.forall_mem_cons.mpr ⟨snd_iand (by decide +kernel : decode cJ6_bitCount_0f7a4 14 = .ok (.iand, 1)), ?_⟩
  refine List.forall_mem_cons.mpr ⟨snd_iload_n (by decide +kernel : decode cJ6_bitCount_0f7a4 15 = .ok (.iload_n 0, 1)) rfl, ?_⟩
  refine List.forall_mem_cons.mpr ⟨snd_iconst (by decide +kernel : decode cJ6_bitCount_0f7a4 16 = .ok (.iconst 2, 1)) (by decide +kernel), ?_⟩
  refine List.forall_mem_cons.mpr ⟨snd_iushr (by decide +kernel : decode cJ6_bitCount_0f7a4 17 = .ok (.iushr, 1)), ?_⟩
  refine List.forall_mem_cons.mpr ⟨snd_ldcw (by decide +kernel : decode cJ6_bitCount_0f7a4 18 = .ok (.ldc_w 266, 3)) wd_725, ?_⟩
  refine List.forall_mem_cons.mpr ⟨snd_iand (by decide +kernel : decode cJ6_bitCount_0f7a4 21 = .ok (.iand, 1)), ?_⟩
  refine List.forall_mem_cons.mpr ⟨snd_iadd (by decide +kernel : decode cJ6_bitCount_0f7a4 22 = .ok (.iadd, 1)), ?_⟩
  refine List.forall_mem_cons.mpr ⟨snd_istore_n (by decide +kernel : decode cJ6_bitCount_0f7a4 23 = .ok (.istore_n 0, 1)) rfl, ?_⟩
  refine List.forall_mem_cons.mpr ⟨snd_iload_n (by decide +kernel : decode cJ6_bitCount_0f7a4 24 = .ok (.iload_n 0, 1)) rfl, ?_⟩
  refine List.forall_mem_cons.mpr ⟨snd_iload_n (by decide +kernel : decode cJ6_bitCount_0f7a4 25 = .ok (.iload_n 0, 1)) rfl, ?_⟩
  refine List.forall_mem_cons.mpr ⟨snd_iconst (by decide +kernel : decode cJ6_bitCount_0f7a4 26 = .ok (.iconst 4, 1)) (by decide +kernel), ?_⟩
  refine List.forall_mem_cons.mpr ⟨snd_iushr (by decide +kernel : decode cJ6_bitCount_0f7a4 27 = .ok (.iushr, 1)), ?_⟩
  refine List.forall_mem_cons.mpr ⟨snd_iadd (by decide +kernel : decode cJ6_bitCount_0f7a4 28 = .ok (.iadd, 1)), ?_⟩
  refine List.forall_mem_cons.mpr ⟨snd_ldcw (by decide +kernel : decode cJ6_bitCount_0f7a4 29 = .ok (.ldc_w 267, 3)) wd_726, ?_⟩
  refine List.forall_mem_cons.mpr ⟨snd_iand (by decide +kernel : decode cJ6_bitCount_0f7a4 32 = .ok (.iand, 1)), ?_⟩
  refine List.forall_mem_cons.mpr ⟨snd_istore_n (by decide +kernel : decode cJ6_bitCount_0f7a4 33 = .ok (.istore_n 0, 1)) rfl, ?_⟩
  refine List.forall_mem_cons.mpr ⟨snd_iload_n (by decide +kernel : decode cJ6_bitCount_0f7a4 34 = .ok (.iload_n 0, 1)) rfl, ?_⟩
  refine List.forall_mem_cons.mpr ⟨snd_iload_n (by decide +kernel : decode cJ6_bitCount_0f7a4 35 = .ok (.iload_n 0, 1)) rfl, ?_⟩
  refine List.forall_mem_cons.mpr ⟨snd_bipush (by decide +kernel : decode cJ6_bitCount_0f7a4 36 = .ok (.bipush 8, 2)) (by decide +kernel), ?_⟩
  refine List.forall_mem_cons.mpr ⟨snd_iushr (by decide +kernel : decode cJ6_bitCount_0f7a4 38 = .ok (.iushr, 1)), ?_⟩
  refine List.forall_mem_cons.mpr ⟨snd_iadd (by decide +kernel : decode cJ6_bitCount_0f7a4 39 = .ok (.iadd, 1)), ?_⟩
  refine List.forall_mem_cons.mpr ⟨snd_istore_n (by decide +kernel : decode cJ6_bitCount_0f7a4 40 = .ok (.istore_n 0, 1)) rfl, ?_⟩
  refine List.forall_mem_cons.mpr ⟨snd_iload_n (by decide +kernel : decode cJ6_bitCount_0f7a4 41 = .ok (.iload_n 0, 1)) rfl, ?_⟩
  refine List.forall_mem_cons.mpr ⟨snd_iload_n (by decide +kernel : decode cJ6_bitCount_0f7a4 42 = .ok (.iload_n 0, 1)) rfl, ?_⟩
  refine List.forall_mem_cons.mpr ⟨snd_bipush (by decide +kernel : decode cJ6_bitCount_0f7a4 43 = .ok (.bipush 16, 2)) (by decide +kernel), ?_⟩
  refine List.forall_mem_cons.mpr ⟨snd_iushr (by decide +kernel : decode cJ6_bitCount_0f7a4 45 = .ok (.iushr, 1)), ?_⟩
  refine List.forall_mem_cons.mpr ⟨snd_iadd (by decide +kernel : decode cJ6_bitCount_0f7a4 46 = .ok (.iadd, 1)), ?_⟩
  refine List.forall_mem_cons.mpr ⟨snd_istore_n (by decide +kernel : decode cJ6_bitCount_0f7a4 47 = .ok (.istore_n 0, 1)) rfl, ?_⟩
  refine List.forall_mem_cons.mpr ⟨snd_iload_n (by decide +kernel : decode cJ6_bitCount_0f7a4 48 = .ok (.iload_n 0, 1)) rfl, ?_⟩
  refine List.forall_mem_cons.mpr ⟨snd_bipush (by decide +kernel : decode cJ6_bitCount_0f7a4 49 = .ok (.bipush 63, 2)) (by decide +kernel), ?_⟩
  refine List.forall_mem_cons.mpr ⟨snd_iand (by decide +kernel : decode cJ6_bitCount_0f7a4 51 = .ok (.iand, 1)), ?_⟩
  refine List.forall_mem_cons.mpr ⟨snd_iret (by decide +kernel : decode cJ6_bitCount_0f7a4 52 = .ok (.ireturn, 1)), ?_⟩
  exact fun _ h => absurd h List.not_mem_nil
theorem m_J_bitCount : ∀ q ∈ k_J_bitCount, Mono q.2 := by
  unfold k_J_bitCount
  refine List.forall_mem_cons.mpr ⟨mo_iload _ _, ?_⟩
  refine List.forall_mem_cons.mpr ⟨mo_iload _ _, ?_⟩
  refine List.forall_mem_cons.mpr ⟨mo_push _ _, ?_⟩
  refine List.forall_mem_cons.mpr ⟨mo_bin _, ?_⟩
  refine List.forall_mem_cons.mpr ⟨mo_push _ _, ?_⟩
  refine List.forall_mem_cons.mpr ⟨mo_bin _, ?_⟩
  refine List.forall_mem_cons.mpr ⟨mo_bin _, ?_⟩
  refine List.forall_mem_cons.mpr ⟨mo_istore _ _, ?_⟩
  refine List.forall_mem_cons.mpr ⟨mo_iload _ _, ?_⟩
  refine List.forall_mem_cons.mpr ⟨mo_push _ _, ?_⟩
  refine List.forall_mem_cons.mpr ⟨mo_bin _, ?_⟩
  refine List.forall_mem_cons.mpr ⟨mo_iload _ _, ?_⟩
  refine List.forall_mem_cons.mpr ⟨mo_push _ _, ?_⟩
  refine List.forall_mem_cons.mpr ⟨mo_bin _, ?_⟩
  refine List.forall_mem_cons.mpr ⟨mo_push _ _, ?_⟩
  refine List.forall_mem_cons.mpr ⟨mo_bin _, ?_⟩
  refine List.forall_mem_cons.mpr ⟨mo_bin _, ?_⟩
  refine List.forall_mem_cons.mpr ⟨mo_istore _ _, ?_⟩
  refine List.forall_mem_cons.mpr ⟨mo_iload _ _, ?_⟩
  refine List.forall_mem_cons.mpr ⟨mo_iload _ _, ?_⟩
  refine List.forall_mem_cons.mpr ⟨mo_push _ _, ?_⟩
  refine List.forall_mem_cons.mpr ⟨mo_bin _, ?_⟩
  refine List.forall_mem_cons.mpr ⟨mo_bin _, ?_⟩
  refine List.forall_mem_cons.mpr ⟨mo_push _ _, ?_⟩
  refine List.forall_mem_cons.mpr ⟨mo_bin _, ?_⟩
  refine List.forall_mem_cons.mpr ⟨mo_istore _ _, ?_⟩
  refine List.forall_mem_cons.mpr ⟨mo_iload _ _, ?_⟩
  refine List.forall_mem_cons.mpr ⟨mo_iload _ _, ?_⟩
  refine List.forall_mem_cons.mpr ⟨mo_push _ _, ?_⟩
  refine List.forall_mem_cons.mpr ⟨mo_bin _, ?_⟩
  refine List.forall_mem_cons.mpr ⟨mo_bin _, ?_⟩
  refine List.forall_mem_cons.mpr ⟨mo_istore _ _, ?_⟩
  refine List.forall_mem_cons.mpr ⟨mo_iload _ _, ?_⟩
  refine List.forall_mem_cons.mpr ⟨mo_iload _ _, ?_⟩
  refine List.forall_mem_cons.mpr ⟨mo_push _ _, ?_⟩
  refine List.forall_mem_cons.mpr ⟨mo_bin _, ?_⟩
  refine List.forall_mem_cons.mpr ⟨mo_bin _, ?_⟩
  refine List.forall_mem_cons.mpr ⟨mo_istore _ _, ?_⟩
  refine List.forall_mem_cons.mpr ⟨mo_iload _ _, ?_⟩
  refine List.forall_mem_cons.mpr ⟨mo_push _ _, ?_⟩
  refine List.forall_mem_cons.mpr ⟨mo_bin _, ?_⟩
  refine List.forall_mem_cons.mpr ⟨mo_iret, ?_⟩
  exact fun _ h => absurd h List.not_mem_nil
def k_J_fill : List (Nat × aI) := [
  (0, i_push (.int 0) 1),
  (1, i_istore 2 1),
  (2, i_aload 0 1),
  (3, i_alen),
  (4, i_istore 3 1),
  (5, i_iload 2 1),
  (6, i_iload 3 1),
  (7, i_icmp (fun x y => x < y) 10 20),
  (10, i_aload 0 1),
  (11, i_iload 2 1),
  (12, i_iload 1 1),
  (13, i_iast),
  (14, i_iinc 2 1),
  (17, i_goto 5),
  (20, i_vret)]
theorem s_J_fill : ∀ q ∈ k_J_fill, Snd RJ7 cJ7_fill_53178 none false q.1 q.2 := by
  unfold k_J_fill
  refine List.forall_mem_cons.mpr ⟨snd_iconst (by decide +kernel : decode cJ7_fill_53178 0 = .ok (.iconst 0, 1)) (by decide +kernel), ?_⟩
  refine List.forall_mem_cons.mpr ⟨snd_istore_n (by decide +kernel : decode cJ7_fill_53178 1 = .ok (.istore_n 2, 1)) rfl, ?_⟩
  refine List.forall_mem_cons.mpr ⟨snd_aload_n (by decide +kernel : decode cJ7_fill_53178 2 = .ok (.aload_n 0, 1)) rfl, ?_⟩
  refine List.forall_mem_cons.mpr ⟨snd_alen (by decide +kernel : decode cJ7_fill_53178 3 = .ok (.arraylength, 1)), ?_⟩
  refine List.forall_mem_cons.mpr ⟨snd_istore_n (by decide +kernel : decode cJ7_fill_53178 4 = .ok (.istore_n 3, 1)) rfl, ?_⟩
  refine List.forall_mem_cons.mpr ⟨snd_iload_n (by decide +kernel : decode cJ7_fill_53178 5 = .ok (.iload_n 2, 1)) rfl, ?_⟩
  refine List.forall_mem_cons.mpr ⟨snd_iload_n (by decide +kernel : decode cJ7_fill_53178 6 = .ok (.iload_n 3, 1)) rfl, ?_⟩
  refine List.forall_mem_cons.mpr ⟨snd_icmp_ge (by decide +kernel : decode cJ7_fill_53178 7 = .ok (.if_icmp .ge 13, 3)) (by decide +kernel), ?_⟩
  refine List.forall_mem_cons.mpr ⟨snd_aload_n (by decide +kernel : decode cJ7_fill_53178 10 = .ok (.aload_n 0, 1)) rfl, ?_⟩
  refine List.forall_mem_cons.mpr ⟨snd_iload_n (by decide +kernel : decode cJ7_fill_53178 11 = .ok (.iload_n 2, 1)) rfl, ?_⟩
  refine List.forall_mem_cons.mpr ⟨snd_iload_n (by decide +kernel : decode cJ7_fill_53178 12 = .ok (.iload_n 1, 1)) rfl, ?_⟩
  refine List.forall_mem_cons.mpr ⟨snd_iast (by decide +kernel : decode cJ7_fill_53178 13 = .ok (.iastore, 1)), ?_⟩
  refine List.forall_mem_cons.mpr ⟨snd_iinc (by decide +kernel : decode cJ7_fill_53178 14 = .ok (.iinc 2 1, 3)) (by decide +kernel), ?_⟩
  refine List.forall_mem_cons.mpr ⟨snd_goto (by decide +kernel : decode cJ7_fill_53178 17 = .ok (.goto (-12), 3)) (by decide +kernel), ?_⟩
  refine List.forall_mem_cons.mpr ⟨snd_vret (by decide +kernel : decode cJ7_fill_53178 20 = .ok (.return_, 1)), ?_⟩
  exact fun _ h => absurd h List.not_mem_nil
theorem m_J_fill : ∀ q ∈ k_J_fill, Mono q.2 := by
  unfold k_J_fill
  refine List.forall_mem_cons.mpr ⟨mo_push _ _, ?_⟩
  refine List.forall_mem_cons.mpr ⟨mo_istore _ _, ?_⟩
  refine List.forall_mem_cons.mpr ⟨mo_aload _ _, ?_⟩
  refine List.forall_mem_cons.mpr ⟨mo_alen, ?_⟩
  refine List.forall_mem_cons.mpr ⟨mo_istore _ _, ?_⟩
  refine List.forall_mem_cons.mpr ⟨mo_iload _ _, ?_⟩
  refine List.forall_mem_cons.mpr ⟨mo_iload _ _, ?_⟩
  refine List.forall_mem_cons.mpr ⟨mo_icmp _ _ _, ?_⟩
  refine List.forall_mem_cons.mpr ⟨mo_aload _ _, ?_⟩
  refine List.forall_mem_cons.mpr ⟨mo_iload _ _, ?_⟩
  refine List.forall_mem_cons.mpr ⟨mo_iload _ _, ?_⟩
  refine List.forall_mem_cons.mpr ⟨mo_iast, ?_⟩
  refine List.forall_mem_cons.mpr ⟨mo_iinc _ _, ?_⟩
  refine List.forall_mem_cons.mpr ⟨mo_goto _, ?_⟩
  refine List.forall_mem_cons.mpr ⟨mo_vret, ?_⟩
  exact fun _ h => absurd h List.not_mem_nil
