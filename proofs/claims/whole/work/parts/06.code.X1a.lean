def k_X1_init : List (Nat × aI) := [
  (0, i_aload 0 1),
  (1, i_obj),
  (4, i_aload 0 1),
  (5, i_push (.int 200) 3),
  (8, i_newI),
  (10, i_putR 1 0),
  (13, i_vret)]
theorem s_X1_init : ∀ q ∈ k_X1_init, Snd RX1 cX1_init none true q.1 q.2 := by
  unfold k_X1_init
  refine List.forall_mem_cons.mpr ⟨snd_aload_n (by decide +kernel : decode cX1_init 0 = .ok (.aload_n 0, 1)) rfl, ?_⟩
  refine List.forall_mem_cons.mpr ⟨snd_obj wd_91 wd_1 wd_2 (by decide +kernel : decode cX1_init 1 = .ok (.invokespecial 3, 3)), ?_⟩
  refine List.forall_mem_cons.mpr ⟨snd_aload_n (by decide +kernel : decode cX1_init 4 = .ok (.aload_n 0, 1)) rfl, ?_⟩
  refine List.forall_mem_cons.mpr ⟨snd_sipush (by decide +kernel : decode cX1_init 5 = .ok (.sipush 200, 3)) (by decide +kernel), ?_⟩
  refine List.forall_mem_cons.mpr ⟨snd_newI wd_92 (by decide +kernel : decode cX1_init 8 = .ok (.newarray .int, 2)), ?_⟩
  refine List.forall_mem_cons.mpr ⟨snd_putR fl_1_9 (Or.inr ⟨_, rfl⟩) (by decide +kernel : decode cX1_init 10 = .ok (.putfield 9, 3)), ?_⟩
  refine List.forall_mem_cons.mpr ⟨snd_vret (by decide +kernel : decode cX1_init 13 = .ok (.return_, 1)), ?_⟩
  exact fun _ h => absurd h List.not_mem_nil
theorem m_X1_init : ∀ q ∈ k_X1_init, Mono q.2 := by
  unfold k_X1_init
  refine List.forall_mem_cons.mpr ⟨mo_aload _ _, ?_⟩
  refine List.forall_mem_cons.mpr ⟨mo_obj, ?_⟩
  refine List.forall_mem_cons.mpr ⟨mo_aload _ _, ?_⟩
  refine List.forall_mem_cons.mpr ⟨mo_push _ _, ?_⟩
  refine List.forall_mem_cons.mpr ⟨mo_newI, ?_⟩
  refine List.forall_mem_cons.mpr ⟨mo_putR _ _, ?_⟩
  refine List.forall_mem_cons.mpr ⟨mo_vret, ?_⟩
  exact fun _ h => absurd h List.not_mem_nil
def k_X1_length : List (Nat × aI) := [
  (0, i_aload 0 1),
  (1, i_get 1 1),
  (4, i_iret)]
theorem s_X1_length : ∀ q ∈ k_X1_length, Snd RX1 cX1_length (some .int) false q.1 q.2 := by
  unfold k_X1_length
  refine List.forall_mem_cons.mpr ⟨snd_aload_n (by decide +kernel : decode cX1_length 0 = .ok (.aload_n 0, 1)) rfl, ?_⟩
  refine List.forall_mem_cons.mpr ⟨snd_get fl_1_15 (by decide +kernel : decode cX1_length 1 = .ok (.getfield 15, 3)), ?_⟩
  refine List.forall_mem_cons.mpr ⟨snd_iret (by decide +kernel : decode cX1_length 4 = .ok (.ireturn, 1)), ?_⟩
  exact fun _ h => absurd h List.not_mem_nil
theorem m_X1_length : ∀ q ∈ k_X1_length, Mono q.2 := by
  unfold k_X1_length
  refine List.forall_mem_cons.mpr ⟨mo_aload _ _, ?_⟩
  refine List.forall_mem_cons.mpr ⟨mo_get _ _, ?_⟩
  refine List.forall_mem_cons.mpr ⟨mo_iret, ?_⟩
  exact fun _ h => absurd h List.not_mem_nil
def k_X1_clear : List (Nat × aI) := [
  (0, i_aload 0 1),
  (1, i_push (.int 0) 1),
  (2, i_put 1 1),
  (5, i_vret)]
theorem s_X1_clear : ∀ q ∈ k_X1_clear, Snd RX1 cX1_clear none false q.1 q.2 := by
  unfold k_X1_clear
  refine List.forall_mem_cons.mpr ⟨snd_aload_n (by decide +kernel : decode cX1_clear 0 = .ok (.aload_n 0, 1)) rfl, ?_⟩
  refine List.forall_mem_cons.mpr ⟨snd_iconst (by decide +kernel : decode cX1_clear 1 = .ok (.iconst 0, 1)) (by decide +kernel), ?_⟩
  refine List.forall_mem_cons.mpr ⟨snd_put fl_1_15 (by decide +kernel : decode cX1_clear 2 = .ok (.putfield 15, 3)), ?_⟩
  refine List.forall_mem_cons.mpr ⟨snd_vret (by decide +kernel : decode cX1_clear 5 = .ok (.return_, 1)), ?_⟩
  exact fun _ h => absurd h List.not_mem_nil
theorem m_X1_clear : ∀ q ∈ k_X1_clear, Mono q.2 := by
  unfold k_X1_clear
  refine List.forall_mem_cons.mpr ⟨mo_aload _ _, ?_⟩
  refine List.forall_mem_cons.mpr ⟨mo_push _ _, ?_⟩
  refine List.forall_mem_cons.mpr ⟨mo_put _ _, ?_⟩
  refine List.forall_mem_cons.mpr ⟨mo_vret, ?_⟩
  exact fun _ h => absurd h List.not_mem_nil
def k_X1_append : List (Nat × aI) := [
  (0, i_aload 0 1),
  (1, i_get 1 1),
  (4, i_push (.int 200) 3),
  (7, i_icmp (fun x y => x < y) 12 10),
  (10, i_push (.int 0) 1),
  (11, i_zret),
  (12, i_aload 0 1),
  (13, i_get 1 0),
  (16, i_aload 0 1),
  (17, i_get 1 1),
  (20, i_iload 1 1),
  (21, i_iast),
  (22, i_aload 0 1),
  (23, i_dup),
  (24, i_get 1 1),
  (27, i_push (.int 1) 1),
  (28, i_bin (fun x y => x + y)),
  (29, i_put 1 1),
  (32, i_push (.int 1) 1),
  (33, i_zret)]
theorem s_X1_append : ∀ q ∈ k_X1_append, Snd RX1 cX1_append (some .boolean) false q.1 q.2 := by
  unfold k_X1_append
  refine List.forall_mem_cons.mpr ⟨snd_aload_n (by decide +kernel : decode cX1_append 0 = .ok (.aload_n 0, 1)) rfl, ?_⟩
  refine List.forall_mem_cons.mpr ⟨snd_get fl_1_15 (by decide +kernel : decode cX1_append 1 = .ok (.getfield 15, 3)), ?_⟩
  refine List.forall_mem_cons.mpr ⟨snd_sipush (by decide +kernel : decode cX1_append 4 = .ok (.sipush 200, 3)) (by decide +kernel), ?_⟩
  refine List.forall_mem_cons.mpr ⟨snd_icmp_lt (by decide +kernel : decode cX1_append 7 = .ok (.if_icmp .lt 5, 3)) (by decide +kernel), ?_⟩
  refine List.forall_mem_cons.mpr ⟨snd_iconst (by decide +kernel : decode cX1_append 10 = .ok (.iconst 0, 1)) (by decide +kernel), ?_⟩
  refine List.forall_mem_cons.mpr ⟨snd_zret (by decide +kernel : decode cX1_append 11 = .ok (.ireturn, 1)), ?_⟩
  refine List.forall_mem_cons.mpr ⟨snd_aload_n (by decide +kernel : decode cX1_append 12 = .ok (.aload_n 0, 1)) rfl, ?_⟩
  refine List.forall_mem_cons.mpr ⟨snd_get fl_1_9 (by decide +kernel : decode cX1_append 13 = .ok (.getfield 9, 3)), ?_⟩
  refine List.forall_mem_cons.mpr ⟨snd_aload_n (by decide +kernel : decode cX1_append 16 = .ok (.aload_n 0, 1)) rfl, ?_⟩
  refine List.forall_mem_cons.mpr ⟨snd_get fl_1_15 (by decide +kernel : decode cX1_append 17 = .ok (.getfield 15, 3)), ?_⟩
  refine List.forall_mem_cons.mpr ⟨snd_iload_n (by decide +kernel : decode cX1_append 20 = .ok (.iload_n 1, 1)) rfl, ?_⟩
  refine List.forall_mem_cons.mpr ⟨snd_iast (by decide +kernel : decode cX1_append 21 = .ok (.iastore, 1)), ?_⟩
  refine List.forall_mem_cons.mpr ⟨snd_aload_n (by decide +kernel : decode cX1_append 22 = .ok (.aload_n 0, 1)) rfl, ?_⟩
  refine List.forall_mem_cons.mpr ⟨snd_dup (by decide +kernel : decode cX1_append 23 = .ok (.dup, 1)), ?_⟩
  refine List.forall_mem_cons.mpr ⟨snd_get fl_1_15 (by decide +kernel : decode cX1_append 24 = .ok (.getfield 15, 3)), ?_⟩
  refine List.forall_mem_cons.mpr ⟨snd_iconst (by decide +kernel : decode cX1_append 27 = .ok (.iconst 1, 1)) (by decide +kernel), ?_⟩
  refine List.forall_mem_cons.mpr ⟨snd_iadd (by decide +kernel : decode cX1_append 28 = .ok (.iadd, 1)), ?_⟩
  refine List.forall_mem_cons.mpr ⟨snd_put fl_1_15 (by decide +kernel : decode cX1_append 29 = .ok (.putfield 15, 3)), ?_⟩
  refine List.forall_mem_cons.mpr ⟨snd_iconst (by decide +kernel : decode cX1_append 32 = .ok (.iconst 1, 1)) (by decide +kernel), ?_⟩
  refine List.forall_mem_cons.mpr ⟨snd_zret (by decide +kernel : decode cX1_append 33 = .ok (.ireturn, 1)), ?_⟩
  exact fun _ h => absurd h List.not_mem_nil
theorem m_X1_append : ∀ q ∈ k_X1_append, Mono q.2 := by
  unfold k_X1_append
  refine List.forall_mem_cons.mpr ⟨mo_aload _ _, ?_⟩
  refine List.forall_mem_cons.mpr ⟨mo_get _ _, ?_⟩
  refine List.forall_mem_cons.mpr ⟨mo_push _ _, ?_⟩
  refine List.forall_mem_cons.mpr ⟨mo_icmp _ _ _, ?_⟩
  refine List.forall_mem_cons.mpr ⟨mo_push _ _, ?_⟩
  refine List.forall_mem_cons.mpr ⟨mo_zret, ?_⟩
  refine List.forall_mem_cons.mpr ⟨mo_aload _ _, ?_⟩
  refine List.forall_mem_cons.mpr ⟨mo_get _ _, ?_⟩
  refine List.forall_mem_cons.mpr ⟨mo_aload _ _, ?_⟩
  refine List.forall_mem_cons.mpr ⟨mo_get _ _, ?_⟩
  refine List.forall_mem_cons.mpr ⟨mo_iload _ _, ?_⟩
  refine List.forall_mem_cons.mpr ⟨mo_iast, ?_⟩
  refine List.forall_mem_cons.mpr ⟨mo_aload _ _, ?_⟩
  refine List.forall_mem_cons.mpr ⟨mo_dup, ?_⟩
  refine List.forall_mem_cons.mpr ⟨mo_get _ _, ?_⟩
  refine List.forall_mem_cons.mpr ⟨mo_push _ _, ?_⟩
  refine List.forall_mem_cons.mpr ⟨mo_bin _, ?_⟩
  refine List.forall_mem_cons.mpr ⟨mo_put _ _, ?_⟩
  refine List.forall_mem_cons.mpr ⟨mo_push _ _, ?_⟩
  refine List.forall_mem_cons.mpr ⟨mo_zret, ?_⟩
  exact fun _ h => absurd h List.not_mem_nil
def k_X1_readInto : List (Nat × aI) := [
  (0, i_aload 1 1),
  (1, i_callV 21 1 2),
  (4, i_push (.int 0) 1),
  (5, i_istore 2 1),
  (6, i_push (.int 0) 1),
  (7, i_istore 3 1),
  (8, i_iload 3 1),
  (9, i_push (.int 200) 3),
  (12, i_icmp (fun x y => x < y) 15 48),
  (15, i_iload 2 1),
  (16, i_aload 0 1),
  (17, i_get 1 1),
  (20, i_icmp (fun x y => x < y) 23 48),
  (23, i_aload 0 1),
  (24, i_iload 2 1),
  (25, i_aload 1 1),
  (26, i_callV 13 3 1),
  (29, i_istore 4 2),
  (31, i_iload 4 2),
  (33, i_iload 2 1),
  (34, i_icmp (fun x y => y < x) 39 37),
  (37, i_iload 2 1),
  (38, i_iret),
  (39, i_iload 4 2),
  (41, i_istore 2 1),
  (42, i_iinc 3 1),
  (45, i_goto 8),
  (48, i_push (.int (-4)) 2),
  (50, i_iret)]
theorem s_X1_readInto : ∀ q ∈ k_X1_readInto, Snd RX1 cX1_readInto (some .int) false q.1 q.2 := by
  unfold k_X1_readInto
  refine List.forall_mem_cons.mpr ⟨snd_aload_n (by decide +kernel : decode cX1_readInto 0 = .ok (.aload_n 1, 1)) rfl, ?_⟩
  refine List.forall_mem_cons.mpr ⟨snd_callV mok_21 wd_95 wd_98 wd_99 rfl rfl (by decide +kernel : decode cX1_readInto 1 = .ok (.invokevirtual 19, 3)), ?_⟩
  refine List.forall_mem_cons.mpr ⟨snd_iconst (by decide +kernel : decode cX1_readInto 4 = .ok (.iconst 0, 1)) (by decide +kernel), ?_⟩
  refine List.forall_mem_cons.mpr ⟨snd_istore_n (by decide +kernel : decode cX1_readInto 5 = .ok (.istore_n 2, 1)) rfl, ?_⟩
  refine List.forall_mem_cons.mpr ⟨snd_iconst (by decide +kernel : decode cX1_readInto 6 = .ok (.iconst 0, 1)) (by decide +kernel), ?_⟩
  refine List.forall_mem_cons.mpr ⟨snd_istore_n (by decide +kernel : decode cX1_readInto 7 = .ok (.istore_n 3, 1)) rfl, ?_⟩
  refine List.forall_mem_cons.mpr ⟨snd_iload_n (by decide +kernel : decode cX1_readInto 8 = .ok (.iload_n 3, 1)) rfl, ?_⟩
  refine List.forall_mem_cons.mpr ⟨snd_sipush (by decide +kernel : decode cX1_readInto 9 = .ok (.sipush 200, 3)) (by decide +kernel), ?_⟩
  refine List.forall_mem_cons.mpr ⟨snd_icmp_ge (by decide +kernel : decode cX1_readInto 12 = .ok (.if_icmp .ge 36, 3)) (by decide +kernel), ?_⟩
  refine List.forall_mem_cons.mpr ⟨snd_iload_n (by decide +kernel : decode cX1_readInto 15 = .ok (.iload_n 2, 1)) rfl, ?_⟩
  refine List.forall_mem_cons.mpr ⟨snd_aload_n (by decide +kernel : decode cX1_readInto 16 = .ok (.aload_n 0, 1)) rfl, ?_⟩
  refine List.forall_mem_cons.mpr ⟨snd_get fl_1_15 (by decide +kernel : decode cX1_readInto 17 = .ok (.getfield 15, 3)), ?_⟩
  refine List.forall_mem_cons.mpr ⟨snd_icmp_ge (by decide +kernel : decode cX1_readInto 20 = .ok (.if_icmp .ge 28, 3)) (by decide +kernel), ?_⟩
  refine List.forall_mem_cons.mpr ⟨snd_aload_n (by decide +kernel : decode cX1_readInto 23 = .ok (.aload_n 0, 1)) rfl, ?_⟩
  refine List.forall_mem_cons.mpr ⟨snd_iload_n (by decide +kernel : decode cX1_readInto 24 = .ok (.iload_n 2, 1)) rfl, ?_⟩
  refine List.forall_mem_cons.mpr ⟨snd_aload_n (by decide +kernel : decode cX1_readInto 25 = .ok (.aload_n 1, 1)) rfl, ?_⟩
  refine List.forall_mem_cons.mpr ⟨snd_callV mok_13 wd_100 wd_103 wd_104 rfl rfl (by decide +kernel : decode cX1_readInto 26 = .ok (.invokevirtual 24, 3)), ?_⟩
  refine List.forall_mem_cons.mpr ⟨snd_istore (by decide +kernel : decode cX1_readInto 29 = .ok (.istore 4, 2)), ?_⟩
  refine List.forall_mem_cons.mpr ⟨snd_iload (by decide +kernel : decode cX1_readInto 31 = .ok (.iload 4, 2)), ?_⟩
  refine List.forall_mem_cons.mpr ⟨snd_iload_n (by decide +kernel : decode cX1_readInto 33 = .ok (.iload_n 2, 1)) rfl, ?_⟩
  refine List.forall_mem_cons.mpr ⟨snd_icmp_gt (by decide +kernel : decode cX1_readInto 34 = .ok (.if_icmp .gt 5, 3)) (by decide +kernel), ?_⟩
  refine List.forall_mem_cons.mpr ⟨snd_iload_n (by decide +kernel : decode cX1_readInto 37 = .ok (.iload_n 2, 1)) rfl, ?_⟩
  refine List.forall_mem_cons.mpr ⟨snd_iret (by decide +kernel : decode cX1_readInto 38 = .ok (.ireturn, 1)), ?_⟩
  refine List.forall_mem_cons.mpr ⟨snd_iload (by decide +kernel : decode cX1_readInto 39 = .ok (.iload 4, 2)), ?_⟩
  refine List.forall_mem_cons.mpr ⟨snd_istore_n (by decide +kernel : decode cX1_readInto 41 = .ok (.istore_n 2, 1)) rfl, ?_⟩
  refine List.forall_mem_cons.mpr ⟨snd_iinc (by decide +kernel : decode cX1_readInto 42 = .ok (.iinc 3 1, 3)) (by decide +kernel), ?_⟩
  refine List.forall_mem_cons.mpr ⟨snd_goto (by decide +kernel : decode cX1_readInto 45 = .ok (.goto (-37), 3)) (by decide +kernel), ?_⟩
  refine List.forall_mem_cons.mpr ⟨snd_bipush (by decide +kernel : decode cX1_readInto 48 = .ok (.bipush (-4), 2)) (by decide +kernel), ?_⟩
  refine List.forall_mem_cons.mpr ⟨snd_iret (by decide +kernel : decode cX1_readInto 50 = .ok (.ireturn, 1)), ?_⟩
  exact fun _ h => absurd h List.not_mem_nil
theorem m_X1_readInto : ∀ q ∈ k_X1_readInto, Mono q.2 := by
  unfold k_X1_readInto
  refine List.forall_mem_cons.mpr ⟨mo_aload _ _, ?_⟩
  refine List.forall_mem_cons.mpr ⟨mo_call _ _ _, ?_⟩
  refine List.forall_mem_cons.mpr ⟨mo_push _ _, ?_⟩
  refine List.forall_mem_cons.mpr ⟨mo_istore _ _, ?_⟩
  refine List.forall_mem_cons.mpr ⟨mo_push _ _, ?_⟩
  refine List.forall_mem_cons.mpr ⟨mo_istore _ _, ?_⟩
  refine List.forall_mem_cons.mpr ⟨mo_iload _ _, ?_⟩
  refine List.forall_mem_cons.mpr ⟨mo_push _ _, ?_⟩
  refine List.forall_mem_cons.mpr ⟨mo_icmp _ _ _, ?_⟩
  refine List.forall_mem_cons.mpr ⟨mo_iload _ _, ?_⟩
  refine List.forall_mem_cons.mpr ⟨mo_aload _ _, ?_⟩
  refine List.forall_mem_cons.mpr ⟨mo_get _ _, ?_⟩
  refine List.forall_mem_cons.mpr ⟨mo_icmp _ _ _, ?_⟩
  refine List.forall_mem_cons.mpr ⟨mo_aload _ _, ?_⟩
  refine List.forall_mem_cons.mpr ⟨mo_iload _ _, ?_⟩
  refine List.forall_mem_cons.mpr ⟨mo_aload _ _, ?_⟩
  refine List.forall_mem_cons.mpr ⟨mo_call _ _ _, ?_⟩
  refine List.forall_mem_cons.mpr ⟨mo_istore _ _, ?_⟩
  refine List.forall_mem_cons.mpr ⟨mo_iload _ _, ?_⟩
  refine List.forall_mem_cons.mpr ⟨mo_iload _ _, ?_⟩
  refine List.forall_mem_cons.mpr ⟨mo_icmp _ _ _, ?_⟩
  refine List.forall_mem_cons.mpr ⟨mo_iload _ _, ?_⟩
  refine List.forall_mem_cons.mpr ⟨mo_iret, ?_⟩
  refine List.forall_mem_cons.mpr ⟨mo_iload _ _, ?_⟩
  refine List.forall_mem_cons.mpr ⟨mo_istore _ _, ?_⟩
  refine List.forall_mem_cons.mpr ⟨mo_iinc _ _, ?_⟩
  refine List.forall_mem_cons.mpr ⟨mo_goto _, ?_⟩
  refine List.forall_mem_cons.mpr ⟨mo_push _ _, ?_⟩
  refine List.forall_mem_cons.mpr ⟨mo_iret, ?_⟩
  exact fun _ h => absurd h List.not_mem_nil
def k_X1_itemEnd : List (Nat × aI) := [
  (0, i_aload 0 1),
  (1, i_iload 1 1),
  (2, i_callV 19 2 1),
  (5, i_lsw [(104, 40), (109, 47), (113, 54)] 61),
  (40, i_aload 0 1),
  (41, i_iload 1 1),
  (42, i_aload 2 1),
  (43, i_callV 14 3 1),
  (46, i_iret),
  (47, i_aload 0 1),
  (48, i_iload 1 1),
  (49, i_aload 2 1),
  (50, i_callV 15 3 1),
  (53, i_iret),
  (54, i_aload 0 1),
  (55, i_iload 1 1),
  (56, i_aload 2 1),
  (57, i_callV 16 3 1),
  (60, i_iret),
  (61, i_push (.int (-4)) 2),
  (63, i_iret)]
theorem s_X1_itemEnd : ∀ q ∈ k_X1_itemEnd, Snd RX1 cX1_itemEnd (some .int) false q.1 q.2 := by
  unfold k_X1_itemEnd
  refine List.forall_mem_cons.mpr ⟨snd_aload_n (by decide +kernel : decode cX1_itemEnd 0 = .ok (.aload_n 0, 1)) rfl, ?_⟩
  refine List.forall_mem_cons.mpr ⟨snd_iload_n (by decide +kernel : decode cX1_itemEnd 1 = .ok (.iload_n 1, 1)) rfl, ?_⟩
  refine List.forall_mem_cons.mpr ⟨snd_callV mok_19 wd_105 wd_108 wd_109 rfl rfl (by decide +kernel : decode cX1_itemEnd 2 = .ok (.invokevirtual 28, 3)), ?_⟩
  refine List.forall_mem_cons.mpr ⟨snd_lsw (by decide +kernel : decode cX1_itemEnd 5 = .ok (.lookupswitch 56 #[(104, 35), (109, 42), (113, 49)], 35)) (by decide +kernel) (by decide +kernel) (by decide +kernel), ?_⟩
  refine List.forall_mem_cons.mpr ⟨snd_aload_n (by decide +kernel : decode cX1_itemEnd 40 = .ok (.aload_n 0, 1)) rfl, ?_⟩
  refine List.forall_mem_cons.mpr ⟨snd_iload_n (by decide +kernel : decode cX1_itemEnd 41 = .ok (.iload_n 1, 1)) rfl, ?_⟩
  refine List.forall_mem_cons.mpr ⟨snd_aload_n (by decide +kernel : decode cX1_itemEnd 42 = .ok (.aload_n 2, 1)) rfl, ?_⟩
  refine List.forall_mem_cons.mpr ⟨snd_callV mok_14 wd_110 wd_113 wd_114 rfl rfl (by decide +kernel : decode cX1_itemEnd 43 = .ok (.invokevirtual 32, 3)), ?_⟩
  refine List.forall_mem_cons.mpr ⟨snd_iret (by decide +kernel : decode cX1_itemEnd 46 = .ok (.ireturn, 1)), ?_⟩
  refine List.forall_mem_cons.mpr ⟨snd_aload_n (by decide +kernel : decode cX1_itemEnd 47 = .ok (.aload_n 0, 1)) rfl, ?_⟩
  refine List.forall_mem_cons.mpr ⟨snd_iload_n (by decide +kernel : decode cX1_itemEnd 48 = .ok (.iload_n 1, 1)) rfl, ?_⟩
  refine List.forall_mem_cons.mpr ⟨snd_aload_n (by decide +kernel : decode cX1_itemEnd 49 = .ok (.aload_n 2, 1)) rfl, ?_⟩
  refine List.forall_mem_cons.mpr ⟨snd_callV mok_15 wd_115 wd_118 wd_119 rfl rfl (by decide +kernel : decode cX1_itemEnd 50 = .ok (.invokevirtual 35, 3)), ?_⟩
  refine List.forall_mem_cons.mpr ⟨snd_iret (by decide +kernel : decode cX1_itemEnd 53 = .ok (.ireturn, 1)), ?_⟩
  refine List.forall_mem_cons.mpr ⟨snd_aload_n (by decide +kernel : decode cX1_itemEnd 54 = .ok (.aload_n 0, 1)) rfl, ?_⟩
  refine List.forall_mem_cons.mpr ⟨snd_iload_n (by decide +kernel : decode cX1_itemEnd 55 = .ok (.iload_n 1, 1)) rfl, ?_⟩
  refine List.forall_mem_cons.mpr ⟨snd_aload_n (by decide +kernel : decode cX1_itemEnd 56 = .ok (.aload_n 2, 1)) rfl, ?_⟩
  refine List.forall_mem_cons.mpr ⟨snd_callV mok_16 wd_120 wd_123 wd_124 rfl rfl (by decide +kernel : decode cX1_itemEnd 57 = .ok (.invokevirtual 38, 3)), ?_⟩
  refine List.forall_mem_cons.mpr ⟨snd_iret (by decide +kernel : decode cX1_itemEnd 60 = .ok (.ireturn, 1)), ?_⟩
  refine List.forall_mem_cons.mpr ⟨snd_bipush (by decide +kernel : decode cX1_itemEnd 61 = .ok (.bipush (-4), 2)) (by decide +kernel), ?_⟩
  refine List.forall_mem_cons.mpr ⟨snd_iret (by decide +kernel : decode cX1_itemEnd 63 = .ok (.ireturn, 1)), ?_⟩
  exact fun _ h => absurd h List.not_mem_nil
theorem m_X1_itemEnd : ∀ q ∈ k_X1_itemEnd, Mono q.2 := by
  unfold k_X1_itemEnd
  refine List.forall_mem_cons.mpr ⟨mo_aload _ _, ?_⟩
  refine List.forall_mem_cons.mpr ⟨mo_iload _ _, ?_⟩
  refine List.forall_mem_cons.mpr ⟨mo_call _ _ _, ?_⟩
  refine List.forall_mem_cons.mpr ⟨mo_lsw _ _, ?_⟩
  refine List.forall_mem_cons.mpr ⟨mo_aload _ _, ?_⟩
  refine List.forall_mem_cons.mpr ⟨mo_iload _ _, ?_⟩
  refine List.forall_mem_cons.mpr ⟨mo_aload _ _, ?_⟩
  refine List.forall_mem_cons.mpr ⟨mo_call _ _ _, ?_⟩
  refine List.forall_mem_cons.mpr ⟨mo_iret, ?_⟩
  refine List.forall_mem_cons.mpr ⟨mo_aload _ _, ?_⟩
  refine List.forall_mem_cons.mpr ⟨mo_iload _ _, ?_⟩
  refine List.forall_mem_cons.mpr ⟨mo_aload _ _, ?_⟩
  refine List.forall_mem_cons.mpr ⟨mo_call _ _ _, ?_⟩
  refine List.forall_mem_cons.mpr ⟨mo_iret, ?_⟩
  refine List.forall_mem_cons.mpr ⟨mo_aload _ _, ?_⟩
  refine List.forall_mem_cons.mpr ⟨mo_iload _ _, ?_⟩
  refine List.forall_mem_cons.mpr ⟨mo_aload _ _, ?_⟩
  refine List.forall_mem_cons.mpr ⟨mo_call _ _ _, ?_⟩
  refine List.forall_mem_cons.mpr ⟨mo_iret, ?_⟩
  refine List.forall_mem_cons.mpr ⟨mo_push _ _, ?_⟩
  refine List.forall_mem_cons.mpr ⟨mo_iret, ?_⟩
  exact fun _ h => absurd h List.not_mem_nil
def k_X1_houseEnd : List (Nat × aI) := [
  (0, i_aload 0 1),
  (1, i_iload 1 1),
  (2, i_push (.int 1) 1),
  (3, i_bin (fun x y => x + y)),
  (4, i_callV 18 2 1),
  (7, i_istore 3 1),
  (8, i_iload 1 1),
  (9, i_push (.int 3) 1),
  (10, i_bin (fun x y => x + y)),
  (11, i_istore 4 2),
  (13, i_aload 0 1),
  (14, i_iload 4 2),
  (16, i_callV 17 2 1),
  (19, i_istore 5 2),
  (21, i_iload 3 1),
  (22, i_push (.int 0) 1),
  (23, i_push (.int 3) 1),
  (24, i_callS 114 3),
  (27, i_if (fun x => x = 0) 65 30),
  (30, i_aload 0 1),
  (31, i_iload 1 1),
  (32, i_push (.int 2) 1),
  (33, i_bin (fun x y => x + y)),
  (34, i_callV 19 2 1),
  (37, i_push (.int 44) 2),
  (39, i_icmp (fun x y => x = y) 42 65),
  (42, i_aload 0 1),
  (43, i_iload 4 2),
  (45, i_iload 5 2),
  (47, i_bin (fun x y => x + y)),
  (48, i_callV 19 2 1),
  (51, i_push (.int 59) 2),
  (53, i_icmp (fun x y => x = y) 56 65),
  (56, i_aload 2 1),
  (57, i_iload 5 2),
  (59, i_callV 23 2 2),
  (62, i_if (fun x => x = 0) 65 68),
  (65, i_push (.int (-4)) 2),
  (67, i_iret),
  (68, i_aload 2 1),
  (69, i_iload 3 1),
  (70, i_iload 5 2),
  (72, i_callV 24 3 2),
  (75, i_push (.int 0) 1),
  (76, i_istore 6 2),
  (78, i_iload 6 2),
  (80, i_iload 5 2),
  (82, i_icmp (fun x y => x < y) 85 110),
  (85, i_aload 2 1),
  (86, i_aload 2 1),
  (87, i_callV 27 1 2),
  (90, i_iload 6 2),
  (92, i_aload 0 1),
  (93, i_iload 4 2),
  (95, i_iload 6 2),
  (97, i_bin (fun x y => x + y)),
  (98, i_callV 18 2 1),
  (101, i_callV 31 4 2),
  (104, i_iinc 6 1),
  (107, i_goto 78),
  (110, i_iload 4 2),
  (112, i_iload 5 2),
  (114, i_bin (fun x y => x + y)),
  (115, i_push (.int 1) 1),
  (116, i_bin (fun x y => x + y)),
  (117, i_iret)]
theorem s_X1_houseEnd : ∀ q ∈ k_X1_houseEnd, Snd RX1 cX1_houseEnd (some .int) false q.1 q.2 := by
  unfold k_X1_houseEnd
  refine List.forall_mem_cons.mpr ⟨snd_aload_n (by decide +kernel : decode cX1_houseEnd 0 = .ok (.aload_n 0, 1)) rfl, ?_⟩
  refine List.forall_mem_cons.mpr ⟨snd_iload_n (by decide +kernel : decode cX1_houseEnd 1 = .ok (.iload_n 1, 1)) rfl, ?_⟩
  refine List.forall_mem_cons.mpr ⟨snd_iconst (by decide +kernel : decode cX1_houseEnd 2 = .ok (.iconst 1, 1)) (by decide +kernel), ?_⟩
  refine List.forall_mem_cons.mpr ⟨snd_iadd (by decide +kernel : decode cX1_houseEnd 3 = .ok (.iadd, 1)), ?_⟩
  refine List.forall_mem_cons.mpr ⟨snd_callV mok_18 wd_125 wd_128 wd_129 rfl rfl (by decide +kernel : decode cX1_houseEnd 4 = .ok (.invokevirtual 41, 3)), ?_⟩
  refine List.forall_mem_cons.mpr ⟨snd_istore_n (by decide +kernel : decode cX1_houseEnd 7 = .ok (.istore_n 3, 1)) rfl, ?_⟩
  refine List.forall_mem_cons.mpr ⟨snd_iload_n (by decide +kernel : decode cX1_houseEnd 8 = .ok (.iload_n 1, 1)) rfl, ?_⟩
  refine List.forall_mem_cons.mpr ⟨snd_iconst (by decide +kernel : decode cX1_houseEnd 9 = .ok (.iconst 3, 1)) (by decide +kernel), ?_⟩
  refine List.forall_mem_cons.mpr ⟨snd_iadd (by decide +kernel : decode cX1_houseEnd 10 = .ok (.iadd, 1)), ?_⟩
  refine List.forall_mem_cons.mpr ⟨snd_istore (by decide +kernel : decode cX1_houseEnd 11 = .ok (.istore 4, 2)), ?_⟩
  refine List.forall_mem_cons.mpr ⟨snd_aload_n (by decide +kernel : decode cX1_houseEnd 13 = .ok (.aload_n 0, 1)) rfl, ?_⟩
  refine List.forall_mem_cons.mpr ⟨snd_iload (by decide +kernel : decode cX1_houseEnd 14 = .ok (.iload 4, 2)), ?_⟩
  refine List.forall_mem_cons.mpr ⟨snd_callV mok_17 wd_130 wd_133 wd_134 rfl rfl (by decide +kernel : decode cX1_houseEnd 16 = .ok (.invokevirtual 44, 3)), ?_⟩
  refine List.forall_mem_cons.mpr ⟨snd_istore (by decide +kernel : decode cX1_houseEnd 19 = .ok (.istore 5, 2)), ?_⟩
  refine List.forall_mem_cons.mpr ⟨snd_iload_n (by decide +kernel : decode cX1_houseEnd 21 = .ok (.iload_n 3, 1)) rfl, ?_⟩
  refine List.forall_mem_cons.mpr ⟨snd_iconst (by decide +kernel : decode cX1_houseEnd 22 = .ok (.iconst 0, 1)) (by decide +kernel), ?_⟩
  refine List.forall_mem_cons.mpr ⟨snd_iconst (by decide +kernel : decode cX1_houseEnd 23 = .ok (.iconst 3, 1)) (by decide +kernel), ?_⟩
  refine List.forall_mem_cons.mpr ⟨snd_callSN mok_114 (List.mem_of_getElem? (i := 8) rfl) wd_137 (by decide +kernel : decode cX1_houseEnd 24 = .ok (.invokestatic 47, 3)), ?_⟩
  refine List.forall_mem_cons.mpr ⟨snd_if_eq (by decide +kernel : decode cX1_houseEnd 27 = .ok (.ifCond .eq 38, 3)) (by decide +kernel), ?_⟩
  refine List.forall_mem_cons.mpr ⟨snd_aload_n (by decide +kernel : decode cX1_houseEnd 30 = .ok (.aload_n 0, 1)) rfl, ?_⟩
  refine List.forall_mem_cons.mpr ⟨snd_iload_n (by decide +kernel : decode cX1_houseEnd 31 = .ok (.iload_n 1, 1)) rfl, ?_⟩
  refine List.forall_mem_cons.mpr ⟨snd_iconst (by decide +kernel : decode cX1_houseEnd 32 = .ok (.iconst 2, 1)) (by decide +kernel), ?_⟩
  refine List.forall_mem_cons.mpr ⟨snd_iadd (by decide +kernel : decode cX1_houseEnd 33 = .ok (.iadd, 1)), ?_⟩
  refine List.forall_mem_cons.mpr ⟨snd_callV mok_19 wd_105 wd_108 wd_109 rfl rfl (by decide +kernel : decode cX1_houseEnd 34 = .ok (.invokevirtual 28, 3)), ?_⟩
  refine List.forall_mem_cons.mpr ⟨snd_bipush (by decide +kernel : decode cX1_houseEnd 37 = .ok (.bipush 44, 2)) (by decide +kernel), ?_⟩
  refine List.forall_mem_cons.mpr ⟨snd_icmp_ne (by decide +kernel : decode cX1_houseEnd 39 = .ok (.if_icmp .ne 26, 3)) (by decide +kernel), ?_⟩
  refine List.forall_mem_cons.mpr ⟨snd_aload_n (by decide +kernel : decode cX1_houseEnd 42 = .ok (.aload_n 0, 1)) rfl, ?_⟩
  refine List.forall_mem_cons.mpr ⟨snd_iload (by decide +kernel : decode cX1_houseEnd 43 = .ok (.iload 4, 2)), ?_⟩
  refine List.forall_mem_cons.mpr ⟨snd_iload (by decide +kernel : decode cX1_houseEnd 45 = .ok (.iload 5, 2)), ?_⟩
  refine List.forall_mem_cons.mpr ⟨snd_iadd (by decide +kernel : decode cX1_houseEnd 47 = .ok (.iadd, 1)), ?_⟩
  refine List.forall_mem_cons.mpr ⟨snd_callV mok_19 wd_105 wd_108 wd_109 rfl rfl (by decide +kernel : decode cX1_houseEnd 48 = .ok (.invokevirtual 28, 3)), ?_⟩
  refine List.forall_mem_cons.mpr ⟨snd_bipush (by decide +kernel : decode cX1_houseEnd 51 = .ok (.bipush 59, 2)) (by decide +kernel), ?_⟩
  refine List.forall_mem_cons.mpr ⟨snd_icmp_ne (by decide +kernel : decode cX1_houseEnd 53 = .ok (.if_icmp .ne 12, 3)) (by decide +kernel), ?_⟩
  refine List.forall_mem_cons.mpr ⟨snd_aload_n (by decide +kernel : decode cX1_houseEnd 56 = .ok (.aload_n 2, 1)) rfl, ?_⟩
  refine List.forall_mem_cons.mpr ⟨snd_iload (by decide +kernel : decode cX1_houseEnd 57 = .ok (.iload 5, 2)), ?_⟩
  refine List.forall_mem_cons.mpr ⟨snd_callV mok_23 wd_138 wd_141 wd_142 rfl rfl (by decide +kernel : decode cX1_houseEnd 59 = .ok (.invokevirtual 51, 3)), ?_⟩
  refine List.forall_mem_cons.mpr ⟨snd_if_ne (by decide +kernel : decode cX1_houseEnd 62 = .ok (.ifCond .ne 6, 3)) (by decide +kernel), ?_⟩
  refine List.forall_mem_cons.mpr ⟨snd_bipush (by decide +kernel : decode cX1_houseEnd 65 = .ok (.bipush (-4), 2)) (by decide +kernel), ?_⟩
  refine List.forall_mem_cons.mpr ⟨snd_iret (by decide +kernel : decode cX1_houseEnd 67 = .ok (.ireturn, 1)), ?_⟩
  refine List.forall_mem_cons.mpr ⟨snd_aload_n (by decide +kernel : decode cX1_houseEnd 68 = .ok (.aload_n 2, 1)) rfl, ?_⟩
  refine List.forall_mem_cons.mpr ⟨snd_iload_n (by decide +kernel : decode cX1_houseEnd 69 = .ok (.iload_n 3, 1)) rfl, ?_⟩
  refine List.forall_mem_cons.mpr ⟨snd_iload (by decide +kernel : decode cX1_houseEnd 70 = .ok (.iload 5, 2)), ?_⟩
  refine List.forall_mem_cons.mpr ⟨snd_callV mok_24 wd_143 wd_146 wd_147 rfl rfl (by decide +kernel : decode cX1_houseEnd 72 = .ok (.invokevirtual 55, 3)), ?_⟩
  refine List.forall_mem_cons.mpr ⟨snd_iconst (by decide +kernel : decode cX1_houseEnd 75 = .ok (.iconst 0, 1)) (by decide +kernel), ?_⟩
  refine List.forall_mem_cons.mpr ⟨snd_istore (by decide +kernel : decode cX1_houseEnd 76 = .ok (.istore 6, 2)), ?_⟩
  refine List.forall_mem_cons.mpr ⟨snd_iload (by decide +kernel : decode cX1_houseEnd 78 = .ok (.iload 6, 2)), ?_⟩
  refine List.forall_mem_cons.mpr ⟨snd_iload (by decide +kernel : decode cX1_houseEnd 80 = .ok (.iload 5, 2)), ?_⟩
  refine List.forall_mem_cons.mpr ⟨snd_icmp_ge (by decide +kernel : decode cX1_houseEnd 82 = .ok (.if_icmp .ge 28, 3)) (by decide +kernel), ?_⟩
  refine List.forall_mem_cons.mpr ⟨snd_aload_n (by decide +kernel : decode cX1_houseEnd 85 = .ok (.aload_n 2, 1)) rfl, ?_⟩
  refine List.forall_mem_cons.mpr ⟨snd_aload_n (by decide +kernel : decode cX1_houseEnd 86 = .ok (.aload_n 2, 1)) rfl, ?_⟩
  refine List.forall_mem_cons.mpr ⟨snd_callV mok_27 wd_148 wd_43 wd_44 rfl rfl (by decide +kernel : decode cX1_houseEnd 87 = .ok (.invokevirtual 59, 3)), ?_⟩
  refine List.forall_mem_cons.mpr ⟨snd_iload (by decide +kernel : decode cX1_houseEnd 90 = .ok (.iload 6, 2)), ?_⟩
  refine List.forall_mem_cons.mpr ⟨snd_aload_n (by decide +kernel : decode cX1_houseEnd 92 = .ok (.aload_n 0, 1)) rfl, ?_⟩
  refine List.forall_mem_cons.mpr ⟨snd_iload (by decide +kernel : decode cX1_houseEnd 93 = .ok (.iload 4, 2)), ?_⟩
  refine List.forall_mem_cons.mpr ⟨snd_iload (by decide +kernel : decode cX1_houseEnd 95 = .ok (.iload 6, 2)), ?_⟩
  refine List.forall_mem_cons.mpr ⟨snd_iadd (by decide +kernel : decode cX1_houseEnd 97 = .ok (.iadd, 1)), ?_⟩
  refine List.forall_mem_cons.mpr ⟨snd_callV mok_18 wd_125 wd_128 wd_129 rfl rfl (by decide +kernel : decode cX1_houseEnd 98 = .ok (.invokevirtual 41, 3)), ?_⟩
  refine List.forall_mem_cons.mpr ⟨snd_callV mok_31 wd_149 wd_84 wd_85 rfl rfl (by decide +kernel : decode cX1_houseEnd 101 = .ok (.invokevirtual 63, 3)), ?_⟩
  refine List.forall_mem_cons.mpr ⟨snd_iinc (by decide +kernel : decode cX1_houseEnd 104 = .ok (.iinc 6 1, 3)) (by decide +kernel), ?_⟩
  refine List.forall_mem_cons.mpr ⟨snd_goto (by decide +kernel : decode cX1_houseEnd 107 = .ok (.goto (-29), 3)) (by decide +kernel), ?_⟩
  refine List.forall_mem_cons.mpr ⟨snd_iload (by decide +kernel : decode cX1_houseEnd 110 = .ok (.iload 4, 2)), ?_⟩
  refine List.forall_mem_cons.mpr ⟨snd_iload (by decide +kernel : decode cX1_houseEnd 112 = .ok (.iload 5, 2)), ?_⟩
  refine List.forall_mem_cons.mpr ⟨snd_iadd (by decide +kernel : decode cX1_houseEnd 114 = .ok (.iadd, 1)), ?_⟩
  refine List.forall_mem_cons.mpr ⟨snd_iconst (by decide +kernel : decode cX1_houseEnd 115 = .ok (.iconst 1, 1)) (by decide +kernel), ?_⟩
  refine List.forall_mem_cons.mpr ⟨snd_iadd (by decide +kernel : decode cX1_houseEnd 116 = .ok (.iadd, 1)), ?_⟩
  refine List.forall_mem_cons.mpr ⟨snd_iret (by decide +kernel : decode cX1_houseEnd 117 = .ok (.ireturn, 1)), ?_⟩
  exact fun _ h => absurd h List.not_mem_nil
theorem m_X1_houseEnd : ∀ q ∈ k_X1_houseEnd, Mono q.2 := by
  unfold k_X1_houseEnd
  refine List.forall_mem_cons.mpr ⟨mo_aload _ _, ?_⟩
  refine List.forall_mem_cons.mpr ⟨mo_iload _ _, ?_⟩
  refine List.forall_mem_cons.mpr ⟨mo_push _ _, ?_⟩
  refine List.forall_mem_cons.mpr ⟨mo_bin _, ?_⟩
  refine List.forall_mem_cons.mpr ⟨mo_call _ _ _, ?_⟩
  refine List.forall_mem_cons.mpr ⟨mo_istore _ _, ?_⟩
  refine List.forall_mem_cons.mpr ⟨mo_iload _ _, ?_⟩
  refine List.forall_mem_cons.mpr ⟨mo_push _ _, ?_⟩
  refine List.forall_mem_cons.mpr ⟨mo_bin _, ?_⟩
  refine List.forall_mem_cons.mpr ⟨mo_istore _ _, ?_⟩
  refine List.forall_mem_cons.mpr ⟨mo_aload _ _, ?_⟩
  refine List.forall_mem_cons.mpr ⟨mo_iload _ _, ?_⟩
  refine List.forall_mem_cons.mpr ⟨mo_call _ _ _, ?_⟩
  refine List.forall_mem_cons.mpr ⟨mo_istore _ _, ?_⟩
  refine List.forall_mem_cons.mpr ⟨mo_iload _ _, ?_⟩
  refine List.forall_mem_cons.mpr ⟨mo_push _ _, ?_⟩
  refine List.forall_mem_cons.mpr ⟨mo_push _ _, ?_⟩
  refine List.forall_mem_cons.mpr ⟨mo_call _ _ _, ?_⟩
  refine List.forall_mem_cons.mpr ⟨mo_if _ _ _, ?_⟩
  refine List.forall_mem_cons.mpr ⟨mo_aload _ _, ?_⟩
  refine List.forall_mem_cons.mpr ⟨mo_iload _ _, ?_⟩
  refine List.forall_mem_cons.mpr ⟨mo_push _ _, ?_⟩
  refine List.forall_mem_cons.mpr ⟨mo_bin _, ?_⟩
  refine List.forall_mem_cons.mpr ⟨mo_call _ _ _, ?_⟩
  refine List.forall_mem_cons.mpr ⟨mo_push _ _, ?_⟩
  refine List.forall_mem_cons.mpr ⟨mo_icmp _ _ _, ?_⟩
  refine List.forall_mem_cons.mpr ⟨mo_aload _ _, ?_⟩
  refine List.forall_mem_cons.mpr ⟨mo_iload _ _, ?_⟩
  refine List.forall_mem_cons.mpr ⟨mo_iload _ _, ?_⟩
  refine List.forall_mem_cons.mpr ⟨mo_bin _, ?_⟩
  refine List.forall_mem_cons.mpr ⟨mo_call _ _ _, ?_⟩
  refine List.forall_mem_cons.mpr ⟨mo_push _ _, ?_⟩
  refine List.forall_mem_cons.mpr ⟨mo_icmp _ _ _, ?_⟩
  refine List.forall_mem_cons.mpr ⟨mo_aload _ _, ?_⟩
  refine List.forall_mem_cons.mpr ⟨mo_iload _ _, ?_⟩
  refine List.forall_mem_cons.mpr ⟨mo_call _ _ _, ?_⟩
  refine List.forall_mem_cons.mpr ⟨mo_if _ _ _, ?_⟩
  refine List.forall_mem_cons.mpr ⟨mo_push _ _, ?_⟩
  refine List.forall_mem_cons.mpr ⟨mo_iret, ?_⟩
  refine List.forall_mem_cons.mpr ⟨mo_aload _ _, ?_⟩
  refine List.forall_mem_cons.mpr ⟨mo_iload _ _, ?_⟩
  refine List.forall_mem_cons.mpr ⟨mo_iload _ _, ?_⟩
  refine List.forall_mem_cons.mpr ⟨mo_call _ _ _, ?_⟩
  refine List.forall_mem_cons.mpr ⟨mo_push _ _, ?_⟩
  refine List.forall_mem_cons.mpr ⟨mo_istore _ _, ?_⟩
  refine List.forall_mem_cons.mpr ⟨mo_iload _ _, ?_⟩
  refine List.forall_mem_cons.mpr ⟨mo_iload _ _, ?_⟩
  refine List.forall_mem_cons.mpr ⟨mo_icmp _ _ _, ?_⟩
  refine List.forall_mem_cons.mpr ⟨mo_aload _ _, ?_⟩
  refine List.forall_mem_cons.mpr ⟨mo_aload _ _, ?_⟩
  refine List.forall_mem_cons.mpr ⟨mo_call _ _ _, ?_⟩
  refine List.forall_mem_cons.mpr ⟨mo_iload _ _, ?_⟩
  refine List.forall_mem_cons.mpr ⟨mo_aload _ _, ?_⟩
  refine List.forall_mem_cons.mpr ⟨mo_iload _ _, ?_⟩
  refine List.forall_mem_cons.mpr ⟨mo_iload _ _, ?_⟩
  refine List.forall_mem_cons.mpr ⟨mo_bin _, ?_⟩
  refine List.forall_mem_cons.mpr ⟨mo_call _ _ _, ?_⟩
  refine List.forall_mem_cons.mpr ⟨mo_call _ _ _, ?_⟩
  refine List.forall_mem_cons.mpr ⟨mo_iinc _ _, ?_⟩
  refine List.forall_mem_cons.mpr ⟨mo_goto _, ?_⟩
  refine List.forall_mem_cons.mpr ⟨mo_iload _ _, ?_⟩
  refine List.forall_mem_cons.mpr ⟨mo_iload _ _, ?_⟩
  refine List.forall_mem_cons.mpr ⟨mo_bin _, ?_⟩
  refine List.forall_mem_cons.mpr ⟨mo_push _ _, ?_⟩
  refine List.forall_mem_cons.mpr ⟨mo_bin _, ?_⟩
  refine List.forall_mem_cons.mpr ⟨mo_iret, ?_⟩
  exact fun _ h => absurd h List.not_mem_nil
def k_X1_mouseEnd : List (Nat × aI) := [
  (0, i_aload 0 1),
  (1, i_iload 1 1),
  (2, i_push (.int 1) 1),
  (3, i_bin (fun x y => x + y)),
  (4, i_callV 18 2 1),
  (7, i_istore 3 1),
  (8, i_aload 2 1),
  (9, i_iload 3 1),
  (10, i_callV 28 2 2),
  (13, i_if (fun x => x = 0) 28 16),
  (16, i_aload 0 1),
  (17, i_iload 1 1),
  (18, i_push (.int 2) 1),
  (19, i_bin (fun x y => x + y)),
  (20, i_callV 19 2 1),
  (23, i_push (.int 59) 2),
  (25, i_icmp (fun x y => x = y) 31 28),
  (28, i_push (.int (-4)) 2),
  (30, i_iret),
  (31, i_aload 2 1),
  (32, i_iload 3 1),
  (33, i_callV 35 2 2),
  (36, i_if (fun x => x = 0) 39 44),
  (39, i_aload 2 1),
  (40, i_iload 3 1),
  (41, i_callV 36 2 2),
  (44, i_iload 1 1),
  (45, i_push (.int 3) 1),
  (46, i_bin (fun x y => x + y)),
  (47, i_iret)]
theorem s_X1_mouseEnd : ∀ q ∈ k_X1_mouseEnd, Snd RX1 cX1_mouseEnd (some .int) false q.1 q.2 := by
  unfold k_X1_mouseEnd
  refine List.forall_mem_cons.mpr ⟨snd_aload_n (by decide +kernel : decode cX1_mouseEnd 0 = .ok (.aload_n 0, 1)) rfl, ?_⟩
  refine List.forall_mem_cons.mpr ⟨snd_iload_n (by decide +kernel : decode cX1_mouseEnd 1 = .ok (.iload_n 1, 1)) rfl, ?_⟩
  refine List.forall_mem_cons.mpr ⟨snd_iconst (by decide +kernel : decode cX1_mouseEnd 2 = .ok (.iconst 1, 1)) (by decide +kernel), ?_⟩
  refine List.forall_mem_cons.mpr ⟨snd_iadd (by decide +kernel : decode cX1_mouseEnd 3 = .ok (.iadd, 1)), ?_⟩
  refine List.forall_mem_cons.mpr ⟨snd_callV mok_18 wd_125 wd_128 wd_129 rfl rfl (by decide +kernel : decode cX1_mouseEnd 4 = .ok (.invokevirtual 41, 3)), ?_⟩
  refine List.forall_mem_cons.mpr ⟨snd_istore_n (by decide +kernel : decode cX1_mouseEnd 7 = .ok (.istore_n 3, 1)) rfl, ?_⟩
  refine List.forall_mem_cons.mpr ⟨snd_aload_n (by decide +kernel : decode cX1_mouseEnd 8 = .ok (.aload_n 2, 1)) rfl, ?_⟩
  refine List.forall_mem_cons.mpr ⟨snd_iload_n (by decide +kernel : decode cX1_mouseEnd 9 = .ok (.iload_n 3, 1)) rfl, ?_⟩
  refine List.forall_mem_cons.mpr ⟨snd_callV mok_28 wd_150 wd_153 wd_154 rfl rfl (by decide +kernel : decode cX1_mouseEnd 10 = .ok (.invokevirtual 67, 3)), ?_⟩
  refine List.forall_mem_cons.mpr ⟨snd_if_eq (by decide +kernel : decode cX1_mouseEnd 13 = .ok (.ifCond .eq 15, 3)) (by decide +kernel), ?_⟩
  refine List.forall_mem_cons.mpr ⟨snd_aload_n (by decide +kernel : decode cX1_mouseEnd 16 = .ok (.aload_n 0, 1)) rfl, ?_⟩
  refine List.forall_mem_cons.mpr ⟨snd_iload_n (by decide +kernel : decode cX1_mouseEnd 17 = .ok (.iload_n 1, 1)) rfl, ?_⟩
  refine List.forall_mem_cons.mpr ⟨snd_iconst (by decide +kernel : decode cX1_mouseEnd 18 = .ok (.iconst 2, 1)) (by decide +kernel), ?_⟩
  refine List.forall_mem_cons.mpr ⟨snd_iadd (by decide +kernel : decode cX1_mouseEnd 19 = .ok (.iadd, 1)), ?_⟩
  refine List.forall_mem_cons.mpr ⟨snd_callV mok_19 wd_105 wd_108 wd_109 rfl rfl (by decide +kernel : decode cX1_mouseEnd 20 = .ok (.invokevirtual 28, 3)), ?_⟩
  refine List.forall_mem_cons.mpr ⟨snd_bipush (by decide +kernel : decode cX1_mouseEnd 23 = .ok (.bipush 59, 2)) (by decide +kernel), ?_⟩
  refine List.forall_mem_cons.mpr ⟨snd_icmp_eq (by decide +kernel : decode cX1_mouseEnd 25 = .ok (.if_icmp .eq 6, 3)) (by decide +kernel), ?_⟩
  refine List.forall_mem_cons.mpr ⟨snd_bipush (by decide +kernel : decode cX1_mouseEnd 28 = .ok (.bipush (-4), 2)) (by decide +kernel), ?_⟩
  refine List.forall_mem_cons.mpr ⟨snd_iret (by decide +kernel : decode cX1_mouseEnd 30 = .ok (.ireturn, 1)), ?_⟩
  refine List.forall_mem_cons.mpr ⟨snd_aload_n (by decide +kernel : decode cX1_mouseEnd 31 = .ok (.aload_n 2, 1)) rfl, ?_⟩
  refine List.forall_mem_cons.mpr ⟨snd_iload_n (by decide +kernel : decode cX1_mouseEnd 32 = .ok (.iload_n 3, 1)) rfl, ?_⟩
  refine List.forall_mem_cons.mpr ⟨snd_callV mok_35 wd_155 wd_158 wd_159 rfl rfl (by decide +kernel : decode cX1_mouseEnd 33 = .ok (.invokevirtual 70, 3)), ?_⟩
  refine List.forall_mem_cons.mpr ⟨snd_if_ne (by decide +kernel : decode cX1_mouseEnd 36 = .ok (.ifCond .ne 8, 3)) (by decide +kernel), ?_⟩
  refine List.forall_mem_cons.mpr ⟨snd_aload_n (by decide +kernel : decode cX1_mouseEnd 39 = .ok (.aload_n 2, 1)) rfl, ?_⟩
  refine List.forall_mem_cons.mpr ⟨snd_iload_n (by decide +kernel : decode cX1_mouseEnd 40 = .ok (.iload_n 3, 1)) rfl, ?_⟩
  refine List.forall_mem_cons.mpr ⟨snd_callV mok_36 wd_160 wd_89 wd_90 rfl rfl (by decide +kernel : decode cX1_mouseEnd 41 = .ok (.invokevirtual 73, 3)), ?_⟩
  refine List.forall_mem_cons.mpr ⟨snd_iload_n (by decide +kernel : decode cX1_mouseEnd 44 = .ok (.iload_n 1, 1)) rfl, ?_⟩
  refine List.forall_mem_cons.mpr ⟨snd_iconst (by decide +kernel : decode cX1_mouseEnd 45 = .ok (.iconst 3, 1)) (by decide +kernel), ?_⟩
  refine List.forall_mem_cons.mpr ⟨snd_iadd (by decide +kernel : decode cX1_mouseEnd 46 = .ok (.iadd, 1)), ?_⟩
  refine List.forall_mem_cons.mpr ⟨snd_iret (by decide +kernel : decode cX1_mouseEnd 47 = .ok (.ireturn, 1)), ?_⟩
  exact fun _ h => absurd h List.not_mem_nil
theorem m_X1_mouseEnd : ∀ q ∈ k_X1_mouseEnd, Mono q.2 := by
  unfold k_X1_mouseEnd
  refine List.forall_mem_cons.mpr ⟨mo_aload _ _, ?_⟩
  refine List.forall_mem_cons.mpr ⟨mo_iload _ _, ?_⟩
  refine List.forall_mem_cons.mpr ⟨mo_push _ _, ?_⟩
  refine List.forall_mem_cons.mpr ⟨mo_bin _, ?_⟩
  refine List.forall_mem_cons.mpr ⟨mo_call _ _ _, ?_⟩
  refine List.forall_mem_cons.mpr ⟨mo_istore _ _, ?_⟩
  refine List.forall_mem_cons.mpr ⟨mo_aload _ _, ?_⟩
  refine List.forall_mem_cons.mpr ⟨mo_iload _ _, ?_⟩
  refine List.forall_mem_cons.mpr ⟨mo_call _ _ _, ?_⟩
  refine List.forall_mem_cons.mpr ⟨mo_if _ _ _, ?_⟩
  refine List.forall_mem_cons.mpr ⟨mo_aload _ _, ?_⟩
  refine List.forall_mem_cons.mpr ⟨mo_iload _ _, ?_⟩
  refine List.forall_mem_cons.mpr ⟨mo_push _ _, ?_⟩
  refine List.forall_mem_cons.mpr ⟨mo_bin _, ?_⟩
  refine List.forall_mem_cons.mpr ⟨mo_call _ _ _, ?_⟩
  refine List.forall_mem_cons.mpr ⟨mo_push _ _, ?_⟩
  refine List.forall_mem_cons.mpr ⟨mo_icmp _ _ _, ?_⟩
  refine List.forall_mem_cons.mpr ⟨mo_push _ _, ?_⟩
  refine List.forall_mem_cons.mpr ⟨mo_iret, ?_⟩
  refine List.forall_mem_cons.mpr ⟨mo_aload _ _, ?_⟩
  refine List.forall_mem_cons.mpr ⟨mo_iload _ _, ?_⟩
  refine List.forall_mem_cons.mpr ⟨mo_call _ _ _, ?_⟩
  refine List.forall_mem_cons.mpr ⟨mo_if _ _ _, ?_⟩
  refine List.forall_mem_cons.mpr ⟨mo_aload _ _, ?_⟩
  refine List.forall_mem_cons.mpr ⟨mo_iload _ _, ?_⟩
  refine List.forall_mem_cons.mpr ⟨mo_call _ _ _, ?_⟩
  refine List.forall_mem_cons.mpr ⟨mo_iload _ _, ?_⟩
  refine List.forall_mem_cons.mpr ⟨mo_push _ _, ?_⟩
  refine List.forall_mem_cons.mpr ⟨mo_bin _, ?_⟩
  refine List.forall_mem_cons.mpr ⟨mo_iret, ?_⟩
  exact fun _ h => absurd h List.not_mem_nil
def k_X1_wishEnd : List (Nat × aI) := [
  (0, i_aload 0 1),
  (1, i_iload 1 1),
  (2, i_push (.int 1) 1),
  (3, i_bin (fun x y => x + y)),
  (4, i_callV 18 2 1),
  (7, i_istore 3 1),
  (8, i_aload 0 1),
  (9, i_iload 1 1),
  (10, i_push (.int 3) 1),
  (11, i_bin (fun x y => x + y)),
  (12, i_callV 18 2 1),
  (15, i_istore 4 2),
  (17, i_aload 2 1),
  (18, i_iload 3 1),
  (19, i_callV 29 2 2),
  (22, i_if (fun x => x = 0) 57 25),
  (25, i_aload 0 1),
  (26, i_iload 1 1),
  (27, i_push (.int 2) 1),
  (28, i_bin (fun x y => x + y)),
  (29, i_callV 19 2 1),
  (32, i_push (.int 44) 2),
  (34, i_icmp (fun x y => x = y) 37 57),
  (37, i_iload 4 2),
  (39, i_callS 113 1),
  (42, i_if (fun x => x = 0) 57 45),
  (45, i_aload 0 1),
  (46, i_iload 1 1),
  (47, i_push (.int 4) 1),
  (48, i_bin (fun x y => x + y)),
  (49, i_callV 19 2 1),
  (52, i_push (.int 59) 2),
  (54, i_icmp (fun x y => x = y) 60 57),
  (57, i_push (.int (-4)) 2),
  (59, i_iret),
  (60, i_aload 2 1),
  (61, i_iload 3 1),
  (62, i_iload 4 2),
  (64, i_callV 39 3 2),
  (67, i_iload 1 1),
  (68, i_push (.int 5) 1),
  (69, i_bin (fun x y => x + y)),
  (70, i_iret)]
theorem s_X1_wishEnd : ∀ q ∈ k_X1_wishEnd, Snd RX1 cX1_wishEnd (some .int) false q.1 q.2 := by
  unfold k_X1_wishEnd
  refine List.forall_mem_cons.mpr ⟨snd_aload_n (by decide +kernel : decode cX1_wishEnd 0 = .ok (.aload_n 0, 1)) rfl, ?_⟩
  refine List.forall_mem_cons.mpr ⟨snd_iload_n (by decide +kernel : decode cX1_wishEnd 1 = .ok (.iload_n 1, 1)) rfl, ?_⟩
  refine List.forall_mem_cons.mpr ⟨snd_iconst (by decide +kernel : decode cX1_wishEnd 2 = .ok (.iconst 1, 1)) (by decide +kernel), ?_⟩
  refine List.forall_mem_cons.mpr ⟨snd_iadd (by decide +kernel : decode cX1_wishEnd 3 = .ok (.iadd, 1)), ?_⟩
  refine List.forall_mem_cons.mpr ⟨snd_callV mok_18 wd_125 wd_128 wd_129 rfl rfl (by decide +kernel : decode cX1_wishEnd 4 = .ok (.invokevirtual 41, 3)), ?_⟩
  refine List.forall_mem_cons.mpr ⟨snd_istore_n (by decide +kernel : decode cX1_wishEnd 7 = .ok (.istore_n 3, 1)) rfl, ?_⟩
  refine List.forall_mem_cons.mpr ⟨snd_aload_n (by decide +kernel : decode cX1_wishEnd 8 = .ok (.aload_n 0, 1)) rfl, ?_⟩
  refine List.forall_mem_cons.mpr ⟨snd_iload_n (by decide +kernel : decode cX1_wishEnd 9 = .ok (.iload_n 1, 1)) rfl, ?_⟩
  refine List.forall_mem_cons.mpr ⟨snd_iconst (by decide +kernel : decode cX1_wishEnd 10 = .ok (.iconst 3, 1)) (by decide +kernel), ?_⟩
  refine List.forall_mem_cons.mpr ⟨snd_iadd (by decide +kernel : decode cX1_wishEnd 11 = .ok (.iadd, 1)), ?_⟩
  refine List.forall_mem_cons.mpr ⟨snd_callV mok_18 wd_125 wd_128 wd_129 rfl rfl (by decide +kernel : decode cX1_wishEnd 12 = .ok (.invokevirtual 41, 3)), ?_⟩
  refine List.forall_mem_cons.mpr ⟨snd_istore (by decide +kernel : decode cX1_wishEnd 15 = .ok (.istore 4, 2)), ?_⟩
  refine List.forall_mem_cons.mpr ⟨snd_aload_n (by decide +kernel : decode cX1_wishEnd 17 = .ok (.aload_n 2, 1)) rfl, ?_⟩
  refine List.forall_mem_cons.mpr ⟨snd_iload_n (by decide +kernel : decode cX1_wishEnd 18 = .ok (.iload_n 3, 1)) rfl, ?_⟩
  refine List.forall_mem_cons.mpr ⟨snd_callV mok_29 wd_161 wd_164 wd_165 rfl rfl (by decide +kernel : decode cX1_wishEnd 19 = .ok (.invokevirtual 77, 3)), ?_⟩
  refine List.forall_mem_cons.mpr ⟨snd_if_eq (by decide +kernel : decode cX1_wishEnd 22 = .ok (.ifCond .eq 35, 3)) (by decide +kernel), ?_⟩
  refine List.forall_mem_cons.mpr ⟨snd_aload_n (by decide +kernel : decode cX1_wishEnd 25 = .ok (.aload_n 0, 1)) rfl, ?_⟩
  refine List.forall_mem_cons.mpr ⟨snd_iload_n (by decide +kernel : decode cX1_wishEnd 26 = .ok (.iload_n 1, 1)) rfl, ?_⟩
  refine List.forall_mem_cons.mpr ⟨snd_iconst (by decide +kernel : decode cX1_wishEnd 27 = .ok (.iconst 2, 1)) (by decide +kernel), ?_⟩
  refine List.forall_mem_cons.mpr ⟨snd_iadd (by decide +kernel : decode cX1_wishEnd 28 = .ok (.iadd, 1)), ?_⟩
  refine List.forall_mem_cons.mpr ⟨snd_callV mok_19 wd_105 wd_108 wd_109 rfl rfl (by decide +kernel : decode cX1_wishEnd 29 = .ok (.invokevirtual 28, 3)), ?_⟩
  refine List.forall_mem_cons.mpr ⟨snd_bipush (by decide +kernel : decode cX1_wishEnd 32 = .ok (.bipush 44, 2)) (by decide +kernel), ?_⟩
  refine List.forall_mem_cons.mpr ⟨snd_icmp_ne (by decide +kernel : decode cX1_wishEnd 34 = .ok (.if_icmp .ne 23, 3)) (by decide +kernel), ?_⟩
  refine List.forall_mem_cons.mpr ⟨snd_iload (by decide +kernel : decode cX1_wishEnd 37 = .ok (.iload 4, 2)), ?_⟩
  refine List.forall_mem_cons.mpr ⟨snd_callSN mok_113 (List.mem_of_getElem? (i := 10) rfl) wd_168 (by decide +kernel : decode cX1_wishEnd 39 = .ok (.invokestatic 80, 3)), ?_⟩
  refine List.forall_mem_cons.mpr ⟨snd_if_eq (by decide +kernel : decode cX1_wishEnd 42 = .ok (.ifCond .eq 15, 3)) (by decide +kernel), ?_⟩
  refine List.forall_mem_cons.mpr ⟨snd_aload_n (by decide +kernel : decode cX1_wishEnd 45 = .ok (.aload_n 0, 1)) rfl, ?_⟩
  refine List.forall_mem_cons.mpr ⟨snd_iload_n (by decide +kernel : decode cX1_wishEnd 46 = .ok (.iload_n 1, 1)) rfl, ?_⟩
  refine List.forall_mem_cons.mpr ⟨snd_iconst (by decide +kernel : decode cX1_wishEnd 47 = .ok (.iconst 4, 1)) (by decide +kernel), ?_⟩
  refine List.forall_mem_cons.mpr ⟨snd_iadd (by decide +kernel : decode cX1_wishEnd 48 = .ok (.iadd, 1)), ?_⟩
  refine List.forall_mem_cons.mpr ⟨snd_callV mok_19 wd_105 wd_108 wd_109 rfl rfl (by decide +kernel : decode cX1_wishEnd 49 = .ok (.invokevirtual 28, 3)), ?_⟩
  refine List.forall_mem_cons.mpr ⟨snd_bipush (by decide +kernel : decode cX1_wishEnd 52 = .ok (.bipush 59, 2)) (by decide +kernel), ?_⟩
  refine List.forall_mem_cons.mpr ⟨snd_icmp_eq (by decide +kernel : decode cX1_wishEnd 54 = .ok (.if_icmp .eq 6, 3)) (by decide +kernel), ?_⟩
  refine List.forall_mem_cons.mpr ⟨snd_bipush (by decide +kernel : decode cX1_wishEnd 57 = .ok (.bipush (-4), 2)) (by decide +kernel), ?_⟩
  refine List.forall_mem_cons.mpr ⟨snd_iret (by decide +kernel : decode cX1_wishEnd 59 = .ok (.ireturn, 1)), ?_⟩
  refine List.forall_mem_cons.mpr ⟨snd_aload_n (by decide +kernel : decode cX1_wishEnd 60 = .ok (.aload_n 2, 1)) rfl, ?_⟩
  refine List.forall_mem_cons.mpr ⟨snd_iload_n (by decide +kernel : decode cX1_wishEnd 61 = .ok (.iload_n 3, 1)) rfl, ?_⟩
  refine List.forall_mem_cons.mpr ⟨snd_iload (by decide +kernel : decode cX1_wishEnd 62 = .ok (.iload 4, 2)), ?_⟩
  refine List.forall_mem_cons.mpr ⟨snd_callV mok_39 wd_169 wd_172 wd_173 rfl rfl (by decide +kernel : decode cX1_wishEnd 64 = .ok (.invokevirtual 83, 3)), ?_⟩
  refine List.forall_mem_cons.mpr ⟨snd_iload_n (by decide +kernel : decode cX1_wishEnd 67 = .ok (.iload_n 1, 1)) rfl, ?_⟩
  refine List.forall_mem_cons.mpr ⟨snd_iconst (by decide +kernel : decode cX1_wishEnd 68 = .ok (.iconst 5, 1)) (by decide +kernel), ?_⟩
  refine List.forall_mem_cons.mpr ⟨snd_iadd (by decide +kernel : decode cX1_wishEnd 69 = .ok (.iadd, 1)), ?_⟩
  refine List.forall_mem_cons.mpr ⟨snd_iret (by decide +kernel : decode cX1_wishEnd 70 = .ok (.ireturn, 1)), ?_⟩
  exact fun _ h => absurd h List.not_mem_nil
theorem m_X1_wishEnd : ∀ q ∈ k_X1_wishEnd, Mono q.2 := by
  unfold k_X1_wishEnd
  refine List.forall_mem_cons.mpr ⟨mo_aload _ _, ?_⟩
  refine List.forall_mem_cons.mpr ⟨mo_iload _ _, ?_⟩
  refine List.forall_mem_cons.mpr ⟨mo_push _ _, ?_⟩
  refine List.forall_mem_cons.mpr ⟨mo_bin _, ?_⟩
  refine List.forall_mem_cons.mpr ⟨mo_call _ _ _, ?_⟩
  refine List.forall_mem_cons.mpr ⟨mo_istore _ _, ?_⟩
  refine List.forall_mem_cons.mpr ⟨mo_aload _ _, ?_⟩
  refine List.forall_mem_cons.mpr ⟨mo_iload _ _, ?_⟩
  refine List.forall_mem_cons.mpr ⟨mo_push _ _, ?_⟩
  refine List.forall_mem_cons.mpr ⟨mo_bin _, ?_⟩
  refine List.forall_mem_cons.mpr ⟨mo_call _ _ _, ?_⟩
  refine List.forall_mem_cons.mpr ⟨mo_istore _ _, ?_⟩
  refine List.forall_mem_cons.mpr ⟨mo_aload _ _, ?_⟩
  refine List.forall_mem_cons.mpr ⟨mo_iload _ _, ?_⟩
  refine List.forall_mem_cons.mpr ⟨mo_call _ _ _, ?_⟩
  refine List.forall_mem_cons.mpr ⟨mo_if _ _ _, ?_⟩
  refine List.forall_mem_cons.mpr ⟨mo_aload _ _, ?_⟩
  refine List.forall_mem_cons.mpr ⟨mo_iload _ _, ?_⟩
  refine List.forall_mem_cons.mpr ⟨mo_push _ _, ?_⟩
  refine List.forall_mem_cons.mpr ⟨mo_bin _, ?_⟩
  refine List.forall_mem_cons.mpr ⟨mo_call _ _ _, ?_⟩
  refine List.forall_mem_cons.mpr ⟨mo_push _ _, ?_⟩
  refine List.forall_mem_cons.mpr ⟨mo_icmp _ _ _, ?_⟩
  refine List.forall_mem_cons.mpr ⟨mo_iload _ _, ?_⟩
  refine List.forall_mem_cons.mpr ⟨mo_call _ _ _, ?_⟩
  refine List.forall_mem_cons.mpr ⟨mo_if _ _ _, ?_⟩
  refine List.forall_mem_cons.mpr ⟨mo_aload _ _, ?_⟩
  refine List.forall_mem_cons.mpr ⟨mo_iload _ _, ?_⟩
  refine List.forall_mem_cons.mpr ⟨mo_push _ _, ?_⟩
  refine List.forall_mem_cons.mpr ⟨mo_bin _, ?_⟩
  refine List.forall_mem_cons.mpr ⟨mo_call _ _ _, ?_⟩
  refine List.forall_mem_cons.mpr ⟨mo_push _ _, ?_⟩
  refine List.forall_mem_cons.mpr ⟨mo_icmp _ _ _, ?_⟩
  refine List.forall_mem_cons.mpr ⟨mo_push _ _, ?_⟩
  refine List.forall_mem_cons.mpr ⟨mo_iret, ?_⟩
  refine List.forall_mem_cons.mpr ⟨mo_aload _ _, ?_⟩
  refine List.forall_mem_cons.mpr ⟨mo_iload _ _, ?_⟩
  refine List.forall_mem_cons.mpr ⟨mo_iload _ _, ?_⟩
  refine List.forall_mem_cons.mpr ⟨mo_call _ _ _, ?_⟩
  refine List.forall_mem_cons.mpr ⟨mo_iload _ _, ?_⟩
  refine List.forall_mem_cons.mpr ⟨mo_push _ _, ?_⟩
  refine List.forall_mem_cons.mpr ⟨mo_bin _, ?_⟩
  refine List.forall_mem_cons.mpr ⟨mo_iret, ?_⟩
  exact fun _ h => absurd h List.not_mem_nil
def k_X1_figuresFrom : List (Nat × aI) := [
  (0, i_push (.int 0) 1),
  (1, i_istore 2 1),
  (2, i_iload 2 1),
  (3, i_push (.int 5) 1),
  (4, i_icmp (fun x y => x < y) 7 25),
  (7, i_aload 0 1),
  (8, i_iload 1 1),
  (9, i_iload 2 1),
  (10, i_bin (fun x y => x + y)),
  (11, i_callV 18 2 1),
  (14, i_push (.int (-4)) 2),
  (16, i_icmp (fun x y => x = y) 25 19),
  (19, i_iinc 2 1),
  (22, i_goto 2),
  (25, i_iload 2 1),
  (26, i_iret)]
theorem s_X1_figuresFrom : ∀ q ∈ k_X1_figuresFrom, Snd RX1 cX1_figuresFrom (some .int) false q.1 q.2 := by
  unfold k_X1_figuresFrom
  refine List.forall_mem_cons.mpr ⟨snd_iconst (by decide +kernel : decode cX1_figuresFrom 0 = .ok (.iconst 0, 1)) (by decide +kernel), ?_⟩
  refine List.forall_mem_cons.mpr ⟨snd_istore_n (by decide +kernel : decode cX1_figuresFrom 1 = .ok (.istore_n 2, 1)) rfl, ?_⟩
  refine List.forall_mem_cons.mpr ⟨snd_iload_n (by decide +kernel : decode cX1_figuresFrom 2 = .ok (.iload_n 2, 1)) rfl, ?_⟩
  refine List.forall_mem_cons.mpr ⟨snd_iconst (by decide +kernel : decode cX1_figuresFrom 3 = .ok (.iconst 5, 1)) (by decide +kernel), ?_⟩
  refine List.forall_mem_cons.mpr ⟨snd_icmp_ge (by decide +kernel : decode cX1_figuresFrom 4 = .ok (.if_icmp .ge 21, 3)) (by decide +kernel), ?_⟩
  refine List.forall_mem_cons.mpr ⟨snd_aload_n (by decide +kernel : decode cX1_figuresFrom 7 = .ok (.aload_n 0, 1)) rfl, ?_⟩
  refine List.forall_mem_cons.mpr ⟨snd_iload_n (by decide +kernel : decode cX1_figuresFrom 8 = .ok (.iload_n 1, 1)) rfl, ?_⟩
  refine List.forall_mem_cons.mpr ⟨snd_iload_n (by decide +kernel : decode cX1_figuresFrom 9 = .ok (.iload_n 2, 1)) rfl, ?_⟩
  refine List.forall_mem_cons.mpr ⟨snd_iadd (by decide +kernel : decode cX1_figuresFrom 10 = .ok (.iadd, 1)), ?_⟩
  refine List.forall_mem_cons.mpr ⟨snd_callV mok_18 wd_125 wd_128 wd_129 rfl rfl (by decide +kernel : decode cX1_figuresFrom 11 = .ok (.invokevirtual 41, 3)), ?_⟩
  refine List.forall_mem_cons.mpr ⟨snd_bipush (by decide +kernel : decode cX1_figuresFrom 14 = .ok (.bipush (-4), 2)) (by decide +kernel), ?_⟩
  refine List.forall_mem_cons.mpr ⟨snd_icmp_eq (by decide +kernel : decode cX1_figuresFrom 16 = .ok (.if_icmp .eq 9, 3)) (by decide +kernel), ?_⟩
  refine List.forall_mem_cons.mpr ⟨snd_iinc (by decide +kernel : decode cX1_figuresFrom 19 = .ok (.iinc 2 1, 3)) (by decide +kernel), ?_⟩
  refine List.forall_mem_cons.mpr ⟨snd_goto (by decide +kernel : decode cX1_figuresFrom 22 = .ok (.goto (-20), 3)) (by decide +kernel), ?_⟩
  refine List.forall_mem_cons.mpr ⟨snd_iload_n (by decide +kernel : decode cX1_figuresFrom 25 = .ok (.iload_n 2, 1)) rfl, ?_⟩
  refine List.forall_mem_cons.mpr ⟨snd_iret (by decide +kernel : decode cX1_figuresFrom 26 = .ok (.ireturn, 1)), ?_⟩
  exact fun _ h => absurd h List.not_mem_nil
theorem m_X1_figuresFrom : ∀ q ∈ k_X1_figuresFrom, Mono q.2 := by
  unfold k_X1_figuresFrom
  refine List.forall_mem_cons.mpr ⟨mo_push _ _, ?_⟩
  refine List.forall_mem_cons.mpr ⟨mo_istore _ _, ?_⟩
  refine List.forall_mem_cons.mpr ⟨mo_iload _ _, ?_⟩
  refine List.forall_mem_cons.mpr ⟨mo_push _ _, ?_⟩
  refine List.forall_mem_cons.mpr ⟨mo_icmp _ _ _, ?_⟩
  refine List.forall_mem_cons.mpr ⟨mo_aload _ _, ?_⟩
  refine List.forall_mem_cons.mpr ⟨mo_iload _ _, ?_⟩
  refine List.forall_mem_cons.mpr ⟨mo_iload _ _, ?_⟩
  refine List.forall_mem_cons.mpr ⟨mo_bin _, ?_⟩
  refine List.forall_mem_cons.mpr ⟨mo_call _ _ _, ?_⟩
  refine List.forall_mem_cons.mpr ⟨mo_push _ _, ?_⟩
  refine List.forall_mem_cons.mpr ⟨mo_icmp _ _ _, ?_⟩
  refine List.forall_mem_cons.mpr ⟨mo_iinc _ _, ?_⟩
  refine List.forall_mem_cons.mpr ⟨mo_goto _, ?_⟩
  refine List.forall_mem_cons.mpr ⟨mo_iload _ _, ?_⟩
  refine List.forall_mem_cons.mpr ⟨mo_iret, ?_⟩
  exact fun _ h => absurd h List.not_mem_nil
def k_X1_figureAt : List (Nat × aI) := [
  (0, i_aload 0 1),
  (1, i_iload 1 1),
  (2, i_callV 19 2 1),
  (5, i_istore 2 1),
  (6, i_iload 2 1),
  (7, i_push (.int 48) 2),
  (9, i_push (.int 57) 2),
  (11, i_callS 114 3),
  (14, i_if (fun x => x = 0) 24 17),
  (17, i_iload 2 1),
  (18, i_push (.int 48) 2),
  (20, i_bin (fun x y => x - y)),
  (21, i_goto 26),
  (24, i_push (.int (-4)) 2),
  (26, i_iret)]
theorem s_X1_figureAt : ∀ q ∈ k_X1_figureAt, Snd RX1 cX1_figureAt (some .int) false q.1 q.2 := by
  unfold k_X1_figureAt
  refine List.forall_mem_cons.mpr ⟨snd_aload_n (by decide +kernel : decode cX1_figureAt 0 = .ok (.aload_n 0, 1)) rfl, ?_⟩
  refine List.forall_mem_cons.mpr ⟨snd_iload_n (by decide +kernel : decode cX1_figureAt 1 = .ok (.iload_n 1, 1)) rfl, ?_⟩
  refine List.forall_mem_cons.mpr ⟨snd_callV mok_19 wd_105 wd_108 wd_109 rfl rfl (by decide +kernel : decode cX1_figureAt 2 = .ok (.invokevirtual 28, 3)), ?_⟩
  refine List.forall_mem_cons.mpr ⟨snd_istore_n (by decide +kernel : decode cX1_figureAt 5 = .ok (.istore_n 2, 1)) rfl, ?_⟩
  refine List.forall_mem_cons.mpr ⟨snd_iload_n (by decide +kernel : decode cX1_figureAt 6 = .ok (.iload_n 2, 1)) rfl, ?_⟩
  refine List.forall_mem_cons.mpr ⟨snd_bipush (by decide +kernel : decode cX1_figureAt 7 = .ok (.bipush 48, 2)) (by decide +kernel), ?_⟩
  refine List.forall_mem_cons.mpr ⟨snd_bipush (by decide +kernel : decode cX1_figureAt 9 = .ok (.bipush 57, 2)) (by decide +kernel), ?_⟩
  refine List.forall_mem_cons.mpr ⟨snd_callSN mok_114 (List.mem_of_getElem? (i := 8) rfl) wd_137 (by decide +kernel : decode cX1_figureAt 11 = .ok (.invokestatic 47, 3)), ?_⟩
  refine List.forall_mem_cons.mpr ⟨snd_if_eq (by decide +kernel : decode cX1_figureAt 14 = .ok (.ifCond .eq 10, 3)) (by decide +kernel), ?_⟩
  refine List.forall_mem_cons.mpr ⟨snd_iload_n (by decide +kernel : decode cX1_figureAt 17 = .ok (.iload_n 2, 1)) rfl, ?_⟩
  refine List.forall_mem_cons.mpr ⟨snd_bipush (by decide +kernel : decode cX1_figureAt 18 = .ok (.bipush 48, 2)) (by decide +kernel), ?_⟩
  refine List.forall_mem_cons.mpr ⟨snd_isub (by decide +kernel : decode cX1_figureAt 20 = .ok (.isub, 1)), ?_⟩
  refine List.forall_mem_cons.mpr ⟨snd_goto (by decide +kernel : decode cX1_figureAt 21 = .ok (.goto 5, 3)) (by decide +kernel), ?_⟩
  refine List.forall_mem_cons.mpr ⟨snd_bipush (by decide +kernel : decode cX1_figureAt 24 = .ok (.bipush (-4), 2)) (by decide +kernel), ?_⟩
  refine List.forall_mem_cons.mpr ⟨snd_iret (by decide +kernel : decode cX1_figureAt 26 = .ok (.ireturn, 1)), ?_⟩
  exact fun _ h => absurd h List.not_mem_nil
theorem m_X1_figureAt : ∀ q ∈ k_X1_figureAt, Mono q.2 := by
  unfold k_X1_figureAt
  refine List.forall_mem_cons.mpr ⟨mo_aload _ _, ?_⟩
  refine List.forall_mem_cons.mpr ⟨mo_iload _ _, ?_⟩
  refine List.forall_mem_cons.mpr ⟨mo_call _ _ _, ?_⟩
  refine List.forall_mem_cons.mpr ⟨mo_istore _ _, ?_⟩
  refine List.forall_mem_cons.mpr ⟨mo_iload _ _, ?_⟩
  refine List.forall_mem_cons.mpr ⟨mo_push _ _, ?_⟩
  refine List.forall_mem_cons.mpr ⟨mo_push _ _, ?_⟩
  refine List.forall_mem_cons.mpr ⟨mo_call _ _ _, ?_⟩
  refine List.forall_mem_cons.mpr ⟨mo_if _ _ _, ?_⟩
  refine List.forall_mem_cons.mpr ⟨mo_iload _ _, ?_⟩
  refine List.forall_mem_cons.mpr ⟨mo_push _ _, ?_⟩
  refine List.forall_mem_cons.mpr ⟨mo_bin _, ?_⟩
  refine List.forall_mem_cons.mpr ⟨mo_goto _, ?_⟩
  refine List.forall_mem_cons.mpr ⟨mo_push _ _, ?_⟩
  refine List.forall_mem_cons.mpr ⟨mo_iret, ?_⟩
  exact fun _ h => absurd h List.not_mem_nil
def k_X1_letterAt : List (Nat × aI) := [
  (0, i_iload 1 1),
  (1, i_if (fun x => x < 0) 21 4),
  (4, i_iload 1 1),
  (5, i_aload 0 1),
  (6, i_get 1 1),
  (9, i_icmp (fun x y => x < y) 12 21),
  (12, i_aload 0 1),
  (13, i_get 1 0),
  (16, i_iload 1 1),
  (17, i_iald),
  (18, i_goto 23),
  (21, i_push (.int (-4)) 2),
  (23, i_iret)]
theorem s_X1_letterAt : ∀ q ∈ k_X1_letterAt, Snd RX1 cX1_letterAt (some .int) false q.1 q.2 := by
  unfold k_X1_letterAt
  refine List.forall_mem_cons.mpr ⟨snd_iload_n (by decide +kernel : decode cX1_letterAt 0 = .ok (.iload_n 1, 1)) rfl, ?_⟩
  refine List.forall_mem_cons.mpr ⟨snd_if_lt (by decide +kernel : decode cX1_letterAt 1 = .ok (.ifCond .lt 20, 3)) (by decide +kernel), ?_⟩
  refine List.forall_mem_cons.mpr ⟨snd_iload_n (by decide +kernel : decode cX1_letterAt 4 = .ok (.iload_n 1, 1)) rfl, ?_⟩
  refine List.forall_mem_cons.mpr ⟨snd_aload_n (by decide +kernel : decode cX1_letterAt 5 = .ok (.aload_n 0, 1)) rfl, ?_⟩
  refine List.forall_mem_cons.mpr ⟨snd_get fl_1_15 (by decide +kernel : decode cX1_letterAt 6 = .ok (.getfield 15, 3)), ?_⟩
  refine List.forall_mem_cons.mpr ⟨snd_icmp_ge (by decide +kernel : decode cX1_letterAt 9 = .ok (.if_icmp .ge 12, 3)) (by decide +kernel), ?_⟩
  refine List.forall_mem_cons.mpr ⟨snd_aload_n (by decide +kernel : decode cX1_letterAt 12 = .ok (.aload_n 0, 1)) rfl, ?_⟩
  refine List.forall_mem_cons.mpr ⟨snd_get fl_1_9 (by decide +kernel : decode cX1_letterAt 13 = .ok (.getfield 9, 3)), ?_⟩
  refine List.forall_mem_cons.mpr ⟨snd_iload_n (by decide +kernel : decode cX1_letterAt 16 = .ok (.iload_n 1, 1)) rfl, ?_⟩
  refine List.forall_mem_cons.mpr ⟨snd_iald (by decide +kernel : decode cX1_letterAt 17 = .ok (.iaload, 1)), ?_⟩
  refine List.forall_mem_cons.mpr ⟨snd_goto (by decide +kernel : decode cX1_letterAt 18 = .ok (.goto 5, 3)) (by decide +kernel), ?_⟩
  refine List.forall_mem_cons.mpr ⟨snd_bipush (by decide +kernel : decode cX1_letterAt 21 = .ok (.bipush (-4), 2)) (by decide +kernel), ?_⟩
  refine List.forall_mem_cons.mpr ⟨snd_iret (by decide +kernel : decode cX1_letterAt 23 = .ok (.ireturn, 1)), ?_⟩
  exact fun _ h => absurd h List.not_mem_nil
theorem m_X1_letterAt : ∀ q ∈ k_X1_letterAt, Mono q.2 := by
  unfold k_X1_letterAt
  refine List.forall_mem_cons.mpr ⟨mo_iload _ _, ?_⟩
  refine List.forall_mem_cons.mpr ⟨mo_if _ _ _, ?_⟩
  refine List.forall_mem_cons.mpr ⟨mo_iload _ _, ?_⟩
  refine List.forall_mem_cons.mpr ⟨mo_aload _ _, ?_⟩
  refine List.forall_mem_cons.mpr ⟨mo_get _ _, ?_⟩
  refine List.forall_mem_cons.mpr ⟨mo_icmp _ _ _, ?_⟩
  refine List.forall_mem_cons.mpr ⟨mo_aload _ _, ?_⟩
  refine List.forall_mem_cons.mpr ⟨mo_get _ _, ?_⟩
  refine List.forall_mem_cons.mpr ⟨mo_iload _ _, ?_⟩
  refine List.forall_mem_cons.mpr ⟨mo_iald, ?_⟩
  refine List.forall_mem_cons.mpr ⟨mo_goto _, ?_⟩
  refine List.forall_mem_cons.mpr ⟨mo_push _ _, ?_⟩
  refine List.forall_mem_cons.mpr ⟨mo_iret, ?_⟩
  exact fun _ h => absurd h List.not_mem_nil
