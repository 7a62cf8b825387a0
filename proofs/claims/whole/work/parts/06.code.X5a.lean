def k_X5_init : List (Nat × aI) := [
  (0, i_aload 0 1),
  (1, i_obj),
  (4, i_aload 0 1),
  (5, i_push (.int 6) 2),
  (7, i_newI),
  (9, i_putR 5 0),
  (12, i_aload 0 1),
  (13, i_push (.int 6) 2),
  (15, i_newI),
  (17, i_putR 5 1),
  (20, i_aload 0 1),
  (21, i_push (.int 6) 2),
  (23, i_newI),
  (25, i_putR 5 2),
  (28, i_aload 0 1),
  (29, i_push (.int 6) 2),
  (31, i_newI),
  (33, i_putR 5 3),
  (36, i_vret)]
theorem s_X5_init : ∀ q ∈ k_X5_init, Snd RX5 cX5_init none true q.1 q.2 := by
  unfold k_X5_init
  refine List.forall_mem_cons.mpr ⟨snd_aload_n (by decide +kernel : decode cX5_init 0 = .ok (.aload_n 0, 1)) rfl, ?_⟩
  refine List.forall_mem_cons.mpr ⟨snd_obj wd_303 wd_1 wd_2 (by decide +kernel : decode cX5_init 1 = .ok (.invokespecial 3, 3)), ?_⟩
  refine List.forall_mem_cons.mpr ⟨snd_aload_n (by decide +kernel : decode cX5_init 4 = .ok (.aload_n 0, 1)) rfl, ?_⟩
  refine List.forall_mem_cons.mpr ⟨snd_bipush (by decide +kernel : decode cX5_init 5 = .ok (.bipush 6, 2)) (by decide +kernel), ?_⟩
  refine List.forall_mem_cons.mpr ⟨snd_newI wd_92 (by decide +kernel : decode cX5_init 7 = .ok (.newarray .int, 2)), ?_⟩
  refine List.forall_mem_cons.mpr ⟨snd_putR fl_5_9 (Or.inr ⟨_, rfl⟩) (by decide +kernel : decode cX5_init 9 = .ok (.putfield 9, 3)), ?_⟩
  refine List.forall_mem_cons.mpr ⟨snd_aload_n (by decide +kernel : decode cX5_init 12 = .ok (.aload_n 0, 1)) rfl, ?_⟩
  refine List.forall_mem_cons.mpr ⟨snd_bipush (by decide +kernel : decode cX5_init 13 = .ok (.bipush 6, 2)) (by decide +kernel), ?_⟩
  refine List.forall_mem_cons.mpr ⟨snd_newI wd_92 (by decide +kernel : decode cX5_init 15 = .ok (.newarray .int, 2)), ?_⟩
  refine List.forall_mem_cons.mpr ⟨snd_putR fl_5_15 (Or.inr ⟨_, rfl⟩) (by decide +kernel : decode cX5_init 17 = .ok (.putfield 15, 3)), ?_⟩
  refine List.forall_mem_cons.mpr ⟨snd_aload_n (by decide +kernel : decode cX5_init 20 = .ok (.aload_n 0, 1)) rfl, ?_⟩
  refine List.forall_mem_cons.mpr ⟨snd_bipush (by decide +kernel : decode cX5_init 21 = .ok (.bipush 6, 2)) (by decide +kernel), ?_⟩
  refine List.forall_mem_cons.mpr ⟨snd_newI wd_92 (by decide +kernel : decode cX5_init 23 = .ok (.newarray .int, 2)), ?_⟩
  refine List.forall_mem_cons.mpr ⟨snd_putR fl_5_18 (Or.inr ⟨_, rfl⟩) (by decide +kernel : decode cX5_init 25 = .ok (.putfield 18, 3)), ?_⟩
  refine List.forall_mem_cons.mpr ⟨snd_aload_n (by decide +kernel : decode cX5_init 28 = .ok (.aload_n 0, 1)) rfl, ?_⟩
  refine List.forall_mem_cons.mpr ⟨snd_bipush (by decide +kernel : decode cX5_init 29 = .ok (.bipush 6, 2)) (by decide +kernel), ?_⟩
  refine List.forall_mem_cons.mpr ⟨snd_newI wd_92 (by decide +kernel : decode cX5_init 31 = .ok (.newarray .int, 2)), ?_⟩
  refine List.forall_mem_cons.mpr ⟨snd_putR fl_5_21 (Or.inr ⟨_, rfl⟩) (by decide +kernel : decode cX5_init 33 = .ok (.putfield 21, 3)), ?_⟩
  refine List.forall_mem_cons.mpr ⟨snd_vret (by decide +kernel : decode cX5_init 36 = .ok (.return_, 1)), ?_⟩
  exact fun _ h => absurd h List.not_mem_nil
theorem m_X5_init : ∀ q ∈ k_X5_init, Mono q.2 := by
  unfold k_X5_init
  refine List.forall_mem_cons.mpr ⟨mo_aload _ _, ?_⟩
  refine List.forall_mem_cons.mpr ⟨mo_obj, ?_⟩
  refine List.forall_mem_cons.mpr ⟨mo_aload _ _, ?_⟩
  refine List.forall_mem_cons.mpr ⟨mo_push _ _, ?_⟩
  refine List.forall_mem_cons.mpr ⟨mo_newI, ?_⟩
  refine List.forall_mem_cons.mpr ⟨mo_putR _ _, ?_⟩
  refine List.forall_mem_cons.mpr ⟨mo_aload _ _, ?_⟩
  refine List.forall_mem_cons.mpr ⟨mo_push _ _, ?_⟩
  refine List.forall_mem_cons.mpr ⟨mo_newI, ?_⟩
  refine List.forall_mem_cons.mpr ⟨mo_putR _ _, ?_⟩
  refine List.forall_mem_cons.mpr ⟨mo_aload _ _, ?_⟩
  refine List.forall_mem_cons.mpr ⟨mo_push _ _, ?_⟩
  refine List.forall_mem_cons.mpr ⟨mo_newI, ?_⟩
  refine List.forall_mem_cons.mpr ⟨mo_putR _ _, ?_⟩
  refine List.forall_mem_cons.mpr ⟨mo_aload _ _, ?_⟩
  refine List.forall_mem_cons.mpr ⟨mo_push _ _, ?_⟩
  refine List.forall_mem_cons.mpr ⟨mo_newI, ?_⟩
  refine List.forall_mem_cons.mpr ⟨mo_putR _ _, ?_⟩
  refine List.forall_mem_cons.mpr ⟨mo_vret, ?_⟩
  exact fun _ h => absurd h List.not_mem_nil
def k_X5_size : List (Nat × aI) := [
  (0, i_aload 0 1),
  (1, i_get 5 4),
  (4, i_iret)]
theorem s_X5_size : ∀ q ∈ k_X5_size, Snd RX5 cX5_size (some .int) false q.1 q.2 := by
  unfold k_X5_size
  refine List.forall_mem_cons.mpr ⟨snd_aload_n (by decide +kernel : decode cX5_size 0 = .ok (.aload_n 0, 1)) rfl, ?_⟩
  refine List.forall_mem_cons.mpr ⟨snd_get fl_5_24 (by decide +kernel : decode cX5_size 1 = .ok (.getfield 24, 3)), ?_⟩
  refine List.forall_mem_cons.mpr ⟨snd_iret (by decide +kernel : decode cX5_size 4 = .ok (.ireturn, 1)), ?_⟩
  exact fun _ h => absurd h List.not_mem_nil
theorem m_X5_size : ∀ q ∈ k_X5_size, Mono q.2 := by
  unfold k_X5_size
  refine List.forall_mem_cons.mpr ⟨mo_aload _ _, ?_⟩
  refine List.forall_mem_cons.mpr ⟨mo_get _ _, ?_⟩
  refine List.forall_mem_cons.mpr ⟨mo_iret, ?_⟩
  exact fun _ h => absurd h List.not_mem_nil
def k_X5_clear : List (Nat × aI) := [
  (0, i_aload 0 1),
  (1, i_push (.int 0) 1),
  (2, i_put 5 4),
  (5, i_vret)]
theorem s_X5_clear : ∀ q ∈ k_X5_clear, Snd RX5 cX5_clear none false q.1 q.2 := by
  unfold k_X5_clear
  refine List.forall_mem_cons.mpr ⟨snd_aload_n (by decide +kernel : decode cX5_clear 0 = .ok (.aload_n 0, 1)) rfl, ?_⟩
  refine List.forall_mem_cons.mpr ⟨snd_iconst (by decide +kernel : decode cX5_clear 1 = .ok (.iconst 0, 1)) (by decide +kernel), ?_⟩
  refine List.forall_mem_cons.mpr ⟨snd_put fl_5_24 (by decide +kernel : decode cX5_clear 2 = .ok (.putfield 24, 3)), ?_⟩
  refine List.forall_mem_cons.mpr ⟨snd_vret (by decide +kernel : decode cX5_clear 5 = .ok (.return_, 1)), ?_⟩
  exact fun _ h => absurd h List.not_mem_nil
theorem m_X5_clear : ∀ q ∈ k_X5_clear, Mono q.2 := by
  unfold k_X5_clear
  refine List.forall_mem_cons.mpr ⟨mo_aload _ _, ?_⟩
  refine List.forall_mem_cons.mpr ⟨mo_push _ _, ?_⟩
  refine List.forall_mem_cons.mpr ⟨mo_put _ _, ?_⟩
  refine List.forall_mem_cons.mpr ⟨mo_vret, ?_⟩
  exact fun _ h => absurd h List.not_mem_nil
def k_X5_add : List (Nat × aI) := [
  (0, i_aload 0 1),
  (1, i_get 5 4),
  (4, i_push (.int 6) 2),
  (6, i_icmp (fun x y => x < y) 11 9),
  (9, i_push (.int 0) 1),
  (10, i_zret),
  (11, i_aload 0 1),
  (12, i_get 5 0),
  (15, i_aload 0 1),
  (16, i_get 5 4),
  (19, i_iload 1 1),
  (20, i_iast),
  (21, i_aload 0 1),
  (22, i_get 5 1),
  (25, i_aload 0 1),
  (26, i_get 5 4),
  (29, i_iload 2 1),
  (30, i_iast),
  (31, i_aload 0 1),
  (32, i_get 5 2),
  (35, i_aload 0 1),
  (36, i_get 5 4),
  (39, i_iload 3 1),
  (40, i_iast),
  (41, i_aload 0 1),
  (42, i_get 5 3),
  (45, i_aload 0 1),
  (46, i_get 5 4),
  (49, i_iload 4 2),
  (51, i_iast),
  (52, i_aload 0 1),
  (53, i_dup),
  (54, i_get 5 4),
  (57, i_push (.int 1) 1),
  (58, i_bin (fun x y => x + y)),
  (59, i_put 5 4),
  (62, i_push (.int 1) 1),
  (63, i_zret)]
theorem s_X5_add : ∀ q ∈ k_X5_add, Snd RX5 cX5_add (some .boolean) false q.1 q.2 := by
  unfold k_X5_add
  refine List.forall_mem_cons.mpr ⟨snd_aload_n (by decide +kernel : decode cX5_add 0 = .ok (.aload_n 0, 1)) rfl, ?_⟩
  refine List.forall_mem_cons.mpr ⟨snd_get fl_5_24 (by decide +kernel : decode cX5_add 1 = .ok (.getfield 24, 3)), ?_⟩
  refine List.forall_mem_cons.mpr ⟨snd_bipush (by decide +kernel : decode cX5_add 4 = .ok (.bipush 6, 2)) (by decide +kernel), ?_⟩
  refine List.forall_mem_cons.mpr ⟨snd_icmp_lt (by decide +kernel : decode cX5_add 6 = .ok (.if_icmp .lt 5, 3)) (by decide +kernel), ?_⟩
  refine List.forall_mem_cons.mpr ⟨snd_iconst (by decide +kernel : decode cX5_add 9 = .ok (.iconst 0, 1)) (by decide +kernel), ?_⟩
  refine List.forall_mem_cons.mpr ⟨snd_zret (by decide +kernel : decode cX5_add 10 = .ok (.ireturn, 1)), ?_⟩
  refine List.forall_mem_cons.mpr ⟨snd_aload_n (by decide +kernel : decode cX5_add 11 = .ok (.aload_n 0, 1)) rfl, ?_⟩
  refine List.forall_mem_cons.mpr ⟨snd_get fl_5_9 (by decide +kernel : decode cX5_add 12 = .ok (.getfield 9, 3)), ?_⟩
  refine List.forall_mem_cons.mpr ⟨snd_aload_n (by decide +kernel : decode cX5_add 15 = .ok (.aload_n 0, 1)) rfl, ?_⟩
  refine List.forall_mem_cons.mpr ⟨snd_get fl_5_24 (by decide +kernel : decode cX5_add 16 = .ok (.getfield 24, 3)), ?_⟩
  refine List.forall_mem_cons.mpr ⟨snd_iload_n (by decide +kernel : decode cX5_add 19 = .ok (.iload_n 1, 1)) rfl, ?_⟩
  refine List.forall_mem_cons.mpr ⟨snd_iast (by decide +kernel : decode cX5_add 20 = .ok (.iastore, 1)), ?_⟩
  refine List.forall_mem_cons.mpr ⟨snd_aload_n (by decide +kernel : decode cX5_add 21 = .ok (.aload_n 0, 1)) rfl, ?_⟩
  refine List.forall_mem_cons.mpr ⟨snd_get fl_5_15 (by decide +kernel : decode cX5_add 22 = .ok (.getfield 15, 3)), ?_⟩
  refine List.forall_mem_cons.mpr ⟨snd_aload_n (by decide +kernel : decode cX5_add 25 = .ok (.aload_n 0, 1)) rfl, ?_⟩
  refine List.forall_mem_cons.mpr ⟨snd_get fl_5_24 (by decide +kernel : decode cX5_add 26 = .ok (.getfield 24, 3)), ?_⟩
  refine List.forall_mem_cons.mpr ⟨snd_iload_n (by decide +kernel : decode cX5_add 29 = .ok (.iload_n 2, 1)) rfl, ?_⟩
  refine List.forall_mem_cons.mpr ⟨snd_iast (by decide +kernel : decode cX5_add 30 = .ok (.iastore, 1)), ?_⟩
  refine List.forall_mem_cons.mpr ⟨snd_aload_n (by decide +kernel : decode cX5_add 31 = .ok (.aload_n 0, 1)) rfl, ?_⟩
  refine List.forall_mem_cons.mpr ⟨snd_get fl_5_18 (by decide +kernel : decode cX5_add 32 = .ok (.getfield 18, 3)), ?_⟩
  refine List.forall_mem_cons.mpr ⟨snd_aload_n (by decide +kernel : decode cX5_add 35 = .ok (.aload_n 0, 1)) rfl, ?_⟩
  refine List.forall_mem_cons.mpr ⟨snd_get fl_5_24 (by decide +kernel : decode cX5_add 36 = .ok (.getfield 24, 3)), ?_⟩
  refine List.forall_mem_cons.mpr ⟨snd_iload_n (by decide +kernel : decode cX5_add 39 = .ok (.iload_n 3, 1)) rfl, ?_⟩
  refine List.forall_mem_cons.mpr ⟨snd_iast (by decide +kernel : decode cX5_add 40 = .ok (.iastore, 1)), ?_⟩
  refine List.forall_mem_cons.mpr ⟨snd_aload_n (by decide +kernel : decode cX5_add 41 = .ok (.aload_n 0, 1)) rfl, ?_⟩
  refine List.forall_mem_cons.mpr ⟨snd_get fl_5_21 (by decide +kernel : decode cX5_add 42 = .ok (.getfield 21, 3)), ?_⟩
  refine List.forall_mem_cons.mpr ⟨snd_aload_n (by decide +kernel : decode cX5_add 45 = .ok (.aload_n 0, 1)) rfl, ?_⟩
  refine List.forall_mem_cons.mpr ⟨snd_get fl_5_24 (by decide +kernel : decode cX5_add 46 = .ok (.getfield 24, 3)), ?_⟩
  refine List.forall_mem_cons.mpr ⟨snd_iload (by decide +kernel : decode cX5_add 49 = .ok (.iload 4, 2)), ?_⟩
  refine List.forall_mem_cons.mpr ⟨snd_iast (by decide +kernel : decode cX5_add 51 = .ok (.iastore, 1)), ?_⟩
  refine List.forall_mem_cons.mpr ⟨snd_aload_n (by decide +kernel : decode cX5_add 52 = .ok (.aload_n 0, 1)) rfl, ?_⟩
  refine List.forall_mem_cons.mpr ⟨snd_dup (by decide +kernel : decode cX5_add 53 = .ok (.dup, 1)), ?_⟩
  refine List.forall_mem_cons.mpr ⟨snd_get fl_5_24 (by decide +kernel : decode cX5_add 54 = .ok (.getfield 24, 3)), ?_⟩
  refine List.forall_mem_cons.mpr ⟨snd_iconst (by decide +kernel : decode cX5_add 57 = .ok (.iconst 1, 1)) (by decide +kernel), ?_⟩
  refine List.forall_mem_cons.mpr ⟨snd_iadd (by decide +kernel : decode cX5_add 58 = .ok (.iadd, 1)), ?_⟩
  refine List.forall_mem_cons.mpr ⟨snd_put fl_5_24 (by decide +kernel : decode cX5_add 59 = .ok (.putfield 24, 3)), ?_⟩
  refine List.forall_mem_cons.mpr ⟨snd_iconst (by decide +kernel : decode cX5_add 62 = .ok (.iconst 1, 1)) (by decide +kernel), ?_⟩
  refine List.forall_mem_cons.mpr ⟨snd_zret (by decide +kernel : decode cX5_add 63 = .ok (.ireturn, 1)), ?_⟩
  exact fun _ h => absurd h List.not_mem_nil
theorem m_X5_add : ∀ q ∈ k_X5_add, Mono q.2 := by
  unfold k_X5_add
  refine List.forall_mem_cons.mpr ⟨mo_aload _ _, ?_⟩
  refine List.forall_mem_cons.mpr ⟨mo_get _ _, ?_⟩
  refine List.forall_mem_cons.mpr ⟨mo_push _ _, ?_⟩
  refine List.forall_mem_cons.mpr ⟨mo_icmp _ _ _, ?_⟩
  refine List.forall_mem_cons.mpr ⟨mo_push _ _, ?_⟩
  refine List.forall_mem_cons.mpr ⟨mo_zret, ?_⟩
  refine List.forall_mem_cons.mpr ⟨mo_aload _ _, ?_⟩
  refine List.forall_mem_cons.mpr ⟨mo_get _ _, ?_⟩
  refine List.forall_mem_cons.mpr ⟨mo_aload _ _, ?_⟩
  refine List.forall_mem_cons.mpr ⟨mo_get _ _, ?_⟩
  refine List.forall_mem_cons.mpr ⟨mo_iload _ _, ?_⟩
  refine List.forall_mem_cons.mpr ⟨mo_iast, ?_⟩
  refine List.forall_mem_cons.mpr ⟨mo_aload _ _, ?_⟩
  refine List.forall_mem_cons.mpr ⟨mo_get _ _, ?_⟩
  refine List.forall_mem_cons.mpr ⟨mo_aload _ _, ?_⟩
  refine List.forall_mem_cons.mpr ⟨mo_get _ _, ?_⟩
  refine List.forall_mem_cons.mpr ⟨mo_iload _ _, ?_⟩
  refine List.forall_mem_cons.mpr ⟨mo_iast, ?_⟩
  refine List.forall_mem_cons.mpr ⟨mo_aload _ _, ?_⟩
  refine List.forall_mem_cons.mpr ⟨mo_get _ _, ?_⟩
  refine List.forall_mem_cons.mpr ⟨mo_aload _ _, ?_⟩
  refine List.forall_mem_cons.mpr ⟨mo_get _ _, ?_⟩
  refine List.forall_mem_cons.mpr ⟨mo_iload _ _, ?_⟩
  refine List.forall_mem_cons.mpr ⟨mo_iast, ?_⟩
  refine List.forall_mem_cons.mpr ⟨mo_aload _ _, ?_⟩
  refine List.forall_mem_cons.mpr ⟨mo_get _ _, ?_⟩
  refine List.forall_mem_cons.mpr ⟨mo_aload _ _, ?_⟩
  refine List.forall_mem_cons.mpr ⟨mo_get _ _, ?_⟩
  refine List.forall_mem_cons.mpr ⟨mo_iload _ _, ?_⟩
  refine List.forall_mem_cons.mpr ⟨mo_iast, ?_⟩
  refine List.forall_mem_cons.mpr ⟨mo_aload _ _, ?_⟩
  refine List.forall_mem_cons.mpr ⟨mo_dup, ?_⟩
  refine List.forall_mem_cons.mpr ⟨mo_get _ _, ?_⟩
  refine List.forall_mem_cons.mpr ⟨mo_push _ _, ?_⟩
  refine List.forall_mem_cons.mpr ⟨mo_bin _, ?_⟩
  refine List.forall_mem_cons.mpr ⟨mo_put _ _, ?_⟩
  refine List.forall_mem_cons.mpr ⟨mo_push _ _, ?_⟩
  refine List.forall_mem_cons.mpr ⟨mo_zret, ?_⟩
  exact fun _ h => absurd h List.not_mem_nil
def k_X5_comeTrueIn : List (Nat × aI) := [
  (0, i_aload 0 1),
  (1, i_callV 77 1 5),
  (4, i_istore 2 1),
  (5, i_push (.int 0) 1),
  (6, i_istore 3 1),
  (7, i_iload 3 1),
  (8, i_iload 2 1),
  (9, i_icmp (fun x y => y < x) 34 12),
  (12, i_aload 0 1),
  (13, i_iload 3 1),
  (14, i_aload 1 1),
  (15, i_callV 78 3 5),
  (18, i_if (fun x => x = 0) 21 23),
  (21, i_push (.int 0) 1),
  (22, i_zret),
  (23, i_aload 1 1),
  (24, i_callV 45 1 2),
  (27, i_pop),
  (28, i_iinc 3 1),
  (31, i_goto 7),
  (34, i_push (.int 1) 1),
  (35, i_zret)]
theorem s_X5_comeTrueIn : ∀ q ∈ k_X5_comeTrueIn, Snd RX5 cX5_comeTrueIn (some .boolean) false q.1 q.2 := by
  unfold k_X5_comeTrueIn
  refine List.forall_mem_cons.mpr ⟨snd_aload_n (by decide +kernel : decode cX5_comeTrueIn 0 = .ok (.aload_n 0, 1)) rfl, ?_⟩
  refine List.forall_mem_cons.mpr ⟨snd_callV mok_77 wd_309 wd_312 wd_313 rfl rfl (by decide +kernel : decode cX5_comeTrueIn 1 = .ok (.invokevirtual 28, 3)), ?_⟩
  refine List.forall_mem_cons.mpr ⟨snd_istore_n (by decide +kernel : decode cX5_comeTrueIn 4 = .ok (.istore_n 2, 1)) rfl, ?_⟩
  refine List.forall_mem_cons.mpr ⟨snd_iconst (by decide +kernel : decode cX5_comeTrueIn 5 = .ok (.iconst 0, 1)) (by decide +kernel), ?_⟩
  refine List.forall_mem_cons.mpr ⟨snd_istore_n (by decide +kernel : decode cX5_comeTrueIn 6 = .ok (.istore_n 3, 1)) rfl, ?_⟩
  refine List.forall_mem_cons.mpr ⟨snd_iload_n (by decide +kernel : decode cX5_comeTrueIn 7 = .ok (.iload_n 3, 1)) rfl, ?_⟩
  refine List.forall_mem_cons.mpr ⟨snd_iload_n (by decide +kernel : decode cX5_comeTrueIn 8 = .ok (.iload_n 2, 1)) rfl, ?_⟩
  refine List.forall_mem_cons.mpr ⟨snd_icmp_gt (by decide +kernel : decode cX5_comeTrueIn 9 = .ok (.if_icmp .gt 25, 3)) (by decide +kernel), ?_⟩
  refine List.forall_mem_cons.mpr ⟨snd_aload_n (by decide +kernel : decode cX5_comeTrueIn 12 = .ok (.aload_n 0, 1)) rfl, ?_⟩
  refine List.forall_mem_cons.mpr ⟨snd_iload_n (by decide +kernel : decode cX5_comeTrueIn 13 = .ok (.iload_n 3, 1)) rfl, ?_⟩
  refine List.forall_mem_cons.mpr ⟨snd_aload_n (by decide +kernel : decode cX5_comeTrueIn 14 = .ok (.aload_n 1, 1)) rfl, ?_⟩
  refine List.forall_mem_cons.mpr ⟨snd_callV mok_78 wd_314 wd_317 wd_318 rfl rfl (by decide +kernel : decode cX5_comeTrueIn 15 = .ok (.invokevirtual 32, 3)), ?_⟩
  refine List.forall_mem_cons.mpr ⟨snd_if_ne (by decide +kernel : decode cX5_comeTrueIn 18 = .ok (.ifCond .ne 5, 3)) (by decide +kernel), ?_⟩
  refine List.forall_mem_cons.mpr ⟨snd_iconst (by decide +kernel : decode cX5_comeTrueIn 21 = .ok (.iconst 0, 1)) (by decide +kernel), ?_⟩
  refine List.forall_mem_cons.mpr ⟨snd_zret (by decide +kernel : decode cX5_comeTrueIn 22 = .ok (.ireturn, 1)), ?_⟩
  refine List.forall_mem_cons.mpr ⟨snd_aload_n (by decide +kernel : decode cX5_comeTrueIn 23 = .ok (.aload_n 1, 1)) rfl, ?_⟩
  refine List.forall_mem_cons.mpr ⟨snd_callV mok_45 wd_319 wd_53 wd_54 rfl rfl (by decide +kernel : decode cX5_comeTrueIn 24 = .ok (.invokevirtual 36, 3)), ?_⟩
  refine List.forall_mem_cons.mpr ⟨snd_pop (by decide +kernel : decode cX5_comeTrueIn 27 = .ok (.pop, 1)), ?_⟩
  refine List.forall_mem_cons.mpr ⟨snd_iinc (by decide +kernel : decode cX5_comeTrueIn 28 = .ok (.iinc 3 1, 3)) (by decide +kernel), ?_⟩
  refine List.forall_mem_cons.mpr ⟨snd_goto (by decide +kernel : decode cX5_comeTrueIn 31 = .ok (.goto (-24), 3)) (by decide +kernel), ?_⟩
  refine List.forall_mem_cons.mpr ⟨snd_iconst (by decide +kernel : decode cX5_comeTrueIn 34 = .ok (.iconst 1, 1)) (by decide +kernel), ?_⟩
  refine List.forall_mem_cons.mpr ⟨snd_zret (by decide +kernel : decode cX5_comeTrueIn 35 = .ok (.ireturn, 1)), ?_⟩
  exact fun _ h => absurd h List.not_mem_nil
theorem m_X5_comeTrueIn : ∀ q ∈ k_X5_comeTrueIn, Mono q.2 := by
  unfold k_X5_comeTrueIn
  refine List.forall_mem_cons.mpr ⟨mo_aload _ _, ?_⟩
  refine List.forall_mem_cons.mpr ⟨mo_call _ _ _, ?_⟩
  refine List.forall_mem_cons.mpr ⟨mo_istore _ _, ?_⟩
  refine List.forall_mem_cons.mpr ⟨mo_push _ _, ?_⟩
  refine List.forall_mem_cons.mpr ⟨mo_istore _ _, ?_⟩
  refine List.forall_mem_cons.mpr ⟨mo_iload _ _, ?_⟩
  refine List.forall_mem_cons.mpr ⟨mo_iload _ _, ?_⟩
  refine List.forall_mem_cons.mpr ⟨mo_icmp _ _ _, ?_⟩
  refine List.forall_mem_cons.mpr ⟨mo_aload _ _, ?_⟩
  refine List.forall_mem_cons.mpr ⟨mo_iload _ _, ?_⟩
  refine List.forall_mem_cons.mpr ⟨mo_aload _ _, ?_⟩
  refine List.forall_mem_cons.mpr ⟨mo_call _ _ _, ?_⟩
  refine List.forall_mem_cons.mpr ⟨mo_if _ _ _, ?_⟩
  refine List.forall_mem_cons.mpr ⟨mo_push _ _, ?_⟩
  refine List.forall_mem_cons.mpr ⟨mo_zret, ?_⟩
  refine List.forall_mem_cons.mpr ⟨mo_aload _ _, ?_⟩
  refine List.forall_mem_cons.mpr ⟨mo_call _ _ _, ?_⟩
  refine List.forall_mem_cons.mpr ⟨mo_pop, ?_⟩
  refine List.forall_mem_cons.mpr ⟨mo_iinc _ _, ?_⟩
  refine List.forall_mem_cons.mpr ⟨mo_goto _, ?_⟩
  refine List.forall_mem_cons.mpr ⟨mo_push _ _, ?_⟩
  refine List.forall_mem_cons.mpr ⟨mo_zret, ?_⟩
  exact fun _ h => absurd h List.not_mem_nil
def k_X5_furthestDay : List (Nat × aI) := [
  (0, i_push (.int 0) 1),
  (1, i_istore 1 1),
  (2, i_push (.int 0) 1),
  (3, i_istore 2 1),
  (4, i_iload 2 1),
  (5, i_aload 0 1),
  (6, i_get 5 4),
  (9, i_icmp (fun x y => x < y) 12 29),
  (12, i_iload 1 1),
  (13, i_aload 0 1),
  (14, i_get 5 0),
  (17, i_iload 2 1),
  (18, i_iald),
  (19, i_max),
  (22, i_istore 1 1),
  (23, i_iinc 2 1),
  (26, i_goto 4),
  (29, i_iload 1 1),
  (30, i_iret)]
theorem s_X5_furthestDay : ∀ q ∈ k_X5_furthestDay, Snd RX5 cX5_furthestDay (some .int) false q.1 q.2 := by
  unfold k_X5_furthestDay
  refine List.forall_mem_cons.mpr ⟨snd_iconst (by decide +kernel : decode cX5_furthestDay 0 = .ok (.iconst 0, 1)) (by decide +kernel), ?_⟩
  refine List.forall_mem_cons.mpr ⟨snd_istore_n (by decide +kernel : decode cX5_furthestDay 1 = .ok (.istore_n 1, 1)) rfl, ?_⟩
  refine List.forall_mem_cons.mpr ⟨snd_iconst (by decide +kernel : decode cX5_furthestDay 2 = .ok (.iconst 0, 1)) (by decide +kernel), ?_⟩
  refine List.forall_mem_cons.mpr ⟨snd_istore_n (by decide +kernel : decode cX5_furthestDay 3 = .ok (.istore_n 2, 1)) rfl, ?_⟩
  refine List.forall_mem_cons.mpr ⟨snd_iload_n (by decide +kernel : decode cX5_furthestDay 4 = .ok (.iload_n 2, 1)) rfl, ?_⟩
  refine List.forall_mem_cons.mpr ⟨snd_aload_n (by decide +kernel : decode cX5_furthestDay 5 = .ok (.aload_n 0, 1)) rfl, ?_⟩
  refine List.forall_mem_cons.mpr ⟨snd_get fl_5_24 (by decide +kernel : decode cX5_furthestDay 6 = .ok (.getfield 24, 3)), ?_⟩
  refine List.forall_mem_cons.mpr ⟨snd_icmp_ge (by decide +kernel : decode cX5_furthestDay 9 = .ok (.if_icmp .ge 20, 3)) (by decide +kernel), ?_⟩
  refine List.forall_mem_cons.mpr ⟨snd_iload_n (by decide +kernel : decode cX5_furthestDay 12 = .ok (.iload_n 1, 1)) rfl, ?_⟩
  refine List.forall_mem_cons.mpr ⟨snd_aload_n (by decide +kernel : decode cX5_furthestDay 13 = .ok (.aload_n 0, 1)) rfl, ?_⟩
  refine List.forall_mem_cons.mpr ⟨snd_get fl_5_9 (by decide +kernel : decode cX5_furthestDay 14 = .ok (.getfield 9, 3)), ?_⟩
  refine List.forall_mem_cons.mpr ⟨snd_iload_n (by decide +kernel : decode cX5_furthestDay 17 = .ok (.iload_n 2, 1)) rfl, ?_⟩
  refine List.forall_mem_cons.mpr ⟨snd_iald (by decide +kernel : decode cX5_furthestDay 18 = .ok (.iaload, 1)), ?_⟩
  refine List.forall_mem_cons.mpr ⟨snd_max wd_320 wd_16 wd_17 wd_18 (by decide +kernel : decode cX5_furthestDay 19 = .ok (.invokestatic 42, 3)), ?_⟩
  refine List.forall_mem_cons.mpr ⟨snd_istore_n (by decide +kernel : decode cX5_furthestDay 22 = .ok (.istore_n 1, 1)) rfl, ?_⟩
  refine List.forall_mem_cons.mpr ⟨snd_iinc (by decide +kernel : decode cX5_furthestDay 23 = .ok (.iinc 2 1, 3)) (by decide +kernel), ?_⟩
  refine List.forall_mem_cons.mpr ⟨snd_goto (by decide +kernel : decode cX5_furthestDay 26 = .ok (.goto (-22), 3)) (by decide +kernel), ?_⟩
  refine List.forall_mem_cons.mpr ⟨snd_iload_n (by decide +kernel : decode cX5_furthestDay 29 = .ok (.iload_n 1, 1)) rfl, ?_⟩
  refine List.forall_mem_cons.mpr ⟨snd_iret (by decide +kernel : decode cX5_furthestDay 30 = .ok (.ireturn, 1)), ?_⟩
  exact fun _ h => absurd h List.not_mem_nil
theorem m_X5_furthestDay : ∀ q ∈ k_X5_furthestDay, Mono q.2 := by
  unfold k_X5_furthestDay
  refine List.forall_mem_cons.mpr ⟨mo_push _ _, ?_⟩
  refine List.forall_mem_cons.mpr ⟨mo_istore _ _, ?_⟩
  refine List.forall_mem_cons.mpr ⟨mo_push _ _, ?_⟩
  refine List.forall_mem_cons.mpr ⟨mo_istore _ _, ?_⟩
  refine List.forall_mem_cons.mpr ⟨mo_iload _ _, ?_⟩
  refine List.forall_mem_cons.mpr ⟨mo_aload _ _, ?_⟩
  refine List.forall_mem_cons.mpr ⟨mo_get _ _, ?_⟩
  refine List.forall_mem_cons.mpr ⟨mo_icmp _ _ _, ?_⟩
  refine List.forall_mem_cons.mpr ⟨mo_iload _ _, ?_⟩
  refine List.forall_mem_cons.mpr ⟨mo_aload _ _, ?_⟩
  refine List.forall_mem_cons.mpr ⟨mo_get _ _, ?_⟩
  refine List.forall_mem_cons.mpr ⟨mo_iload _ _, ?_⟩
  refine List.forall_mem_cons.mpr ⟨mo_iald, ?_⟩
  refine List.forall_mem_cons.mpr ⟨mo_max, ?_⟩
  refine List.forall_mem_cons.mpr ⟨mo_istore _ _, ?_⟩
  refine List.forall_mem_cons.mpr ⟨mo_iinc _ _, ?_⟩
  refine List.forall_mem_cons.mpr ⟨mo_goto _, ?_⟩
  refine List.forall_mem_cons.mpr ⟨mo_iload _ _, ?_⟩
  refine List.forall_mem_cons.mpr ⟨mo_iret, ?_⟩
  exact fun _ h => absurd h List.not_mem_nil
def k_X5_areSo : List (Nat × aI) := [
  (0, i_push (.int 0) 1),
  (1, i_istore 3 1),
  (2, i_iload 3 1),
  (3, i_aload 0 1),
  (4, i_get 5 4),
  (7, i_icmp (fun x y => x < y) 10 53),
  (10, i_aload 0 1),
  (11, i_get 5 0),
  (14, i_iload 3 1),
  (15, i_iald),
  (16, i_iload 1 1),
  (17, i_icmp (fun x y => x = y) 20 47),
  (20, i_aload 2 1),
  (21, i_aload 0 1),
  (22, i_get 5 1),
  (25, i_iload 3 1),
  (26, i_iald),
  (27, i_aload 0 1),
  (28, i_get 5 2),
  (31, i_iload 3 1),
  (32, i_iald),
  (33, i_callV 30 3 2),
  (36, i_aload 0 1),
  (37, i_get 5 3),
  (40, i_iload 3 1),
  (41, i_iald),
  (42, i_icmp (fun x y => x = y) 47 45),
  (45, i_push (.int 0) 1),
  (46, i_zret),
  (47, i_iinc 3 1),
  (50, i_goto 2),
  (53, i_push (.int 1) 1),
  (54, i_zret)]
theorem s_X5_areSo : ∀ q ∈ k_X5_areSo, Snd RX5 cX5_areSo (some .boolean) false q.1 q.2 := by
  unfold k_X5_areSo
  refine List.forall_mem_cons.mpr ⟨snd_iconst (by decide +kernel : decode cX5_areSo 0 = .ok (.iconst 0, 1)) (by decide +kernel), ?_⟩
  refine List.forall_mem_cons.mpr ⟨snd_istore_n (by decide +kernel : decode cX5_areSo 1 = .ok (.istore_n 3, 1)) rfl, ?_⟩
  refine List.forall_mem_cons.mpr ⟨snd_iload_n (by decide +kernel : decode cX5_areSo 2 = .ok (.iload_n 3, 1)) rfl, ?_⟩
  refine List.forall_mem_cons.mpr ⟨snd_aload_n (by decide +kernel : decode cX5_areSo 3 = .ok (.aload_n 0, 1)) rfl, ?_⟩
  refine List.forall_mem_cons.mpr ⟨snd_get fl_5_24 (by decide +kernel : decode cX5_areSo 4 = .ok (.getfield 24, 3)), ?_⟩
  refine List.forall_mem_cons.mpr ⟨snd_icmp_ge (by decide +kernel : decode cX5_areSo 7 = .ok (.if_icmp .ge 46, 3)) (by decide +kernel), ?_⟩
  refine List.forall_mem_cons.mpr ⟨snd_aload_n (by decide +kernel : decode cX5_areSo 10 = .ok (.aload_n 0, 1)) rfl, ?_⟩
  refine List.forall_mem_cons.mpr ⟨snd_get fl_5_9 (by decide +kernel : decode cX5_areSo 11 = .ok (.getfield 9, 3)), ?_⟩
  refine List.forall_mem_cons.mpr ⟨snd_iload_n (by decide +kernel : decode cX5_areSo 14 = .ok (.iload_n 3, 1)) rfl, ?_⟩
  refine List.forall_mem_cons.mpr ⟨snd_iald (by decide +kernel : decode cX5_areSo 15 = .ok (.iaload, 1)), ?_⟩
  refine List.forall_mem_cons.mpr ⟨snd_iload_n (by decide +kernel : decode cX5_areSo 16 = .ok (.iload_n 1, 1)) rfl, ?_⟩
  refine List.forall_mem_cons.mpr ⟨snd_icmp_ne (by decide +kernel : decode cX5_areSo 17 = .ok (.if_icmp .ne 30, 3)) (by decide +kernel), ?_⟩
  refine List.forall_mem_cons.mpr ⟨snd_aload_n (by decide +kernel : decode cX5_areSo 20 = .ok (.aload_n 2, 1)) rfl, ?_⟩
  refine List.forall_mem_cons.mpr ⟨snd_aload_n (by decide +kernel : decode cX5_areSo 21 = .ok (.aload_n 0, 1)) rfl, ?_⟩
  refine List.forall_mem_cons.mpr ⟨snd_get fl_5_15 (by decide +kernel : decode cX5_areSo 22 = .ok (.getfield 15, 3)), ?_⟩
  refine List.forall_mem_cons.mpr ⟨snd_iload_n (by decide +kernel : decode cX5_areSo 25 = .ok (.iload_n 3, 1)) rfl, ?_⟩
  refine List.forall_mem_cons.mpr ⟨snd_iald (by decide +kernel : decode cX5_areSo 26 = .ok (.iaload, 1)), ?_⟩
  refine List.forall_mem_cons.mpr ⟨snd_aload_n (by decide +kernel : decode cX5_areSo 27 = .ok (.aload_n 0, 1)) rfl, ?_⟩
  refine List.forall_mem_cons.mpr ⟨snd_get fl_5_18 (by decide +kernel : decode cX5_areSo 28 = .ok (.getfield 18, 3)), ?_⟩
  refine List.forall_mem_cons.mpr ⟨snd_iload_n (by decide +kernel : decode cX5_areSo 31 = .ok (.iload_n 3, 1)) rfl, ?_⟩
  refine List.forall_mem_cons.mpr ⟨snd_iald (by decide +kernel : decode cX5_areSo 32 = .ok (.iaload, 1)), ?_⟩
  refine List.forall_mem_cons.mpr ⟨snd_callV mok_30 wd_321 wd_58 wd_59 rfl rfl (by decide +kernel : decode cX5_areSo 33 = .ok (.invokevirtual 48, 3)), ?_⟩
  refine List.forall_mem_cons.mpr ⟨snd_aload_n (by decide +kernel : decode cX5_areSo 36 = .ok (.aload_n 0, 1)) rfl, ?_⟩
  refine List.forall_mem_cons.mpr ⟨snd_get fl_5_21 (by decide +kernel : decode cX5_areSo 37 = .ok (.getfield 21, 3)), ?_⟩
  refine List.forall_mem_cons.mpr ⟨snd_iload_n (by decide +kernel : decode cX5_areSo 40 = .ok (.iload_n 3, 1)) rfl, ?_⟩
  refine List.forall_mem_cons.mpr ⟨snd_iald (by decide +kernel : decode cX5_areSo 41 = .ok (.iaload, 1)), ?_⟩
  refine List.forall_mem_cons.mpr ⟨snd_icmp_eq (by decide +kernel : decode cX5_areSo 42 = .ok (.if_icmp .eq 5, 3)) (by decide +kernel), ?_⟩
  refine List.forall_mem_cons.mpr ⟨snd_iconst (by decide +kernel : decode cX5_areSo 45 = .ok (.iconst 0, 1)) (by decide +kernel), ?_⟩
  refine List.forall_mem_cons.mpr ⟨snd_zret (by decide +kernel : decode cX5_areSo 46 = .ok (.ireturn, 1)), ?_⟩
  refine List.forall_mem_cons.mpr ⟨snd_iinc (by decide +kernel : decode cX5_areSo 47 = .ok (.iinc 3 1, 3)) (by decide +kernel), ?_⟩
  refine List.forall_mem_cons.mpr ⟨snd_goto (by decide +kernel : decode cX5_areSo 50 = .ok (.goto (-48), 3)) (by decide +kernel), ?_⟩
  refine List.forall_mem_cons.mpr ⟨snd_iconst (by decide +kernel : decode cX5_areSo 53 = .ok (.iconst 1, 1)) (by decide +kernel), ?_⟩
  refine List.forall_mem_cons.mpr ⟨snd_zret (by decide +kernel : decode cX5_areSo 54 = .ok (.ireturn, 1)), ?_⟩
  exact fun _ h => absurd h List.not_mem_nil
theorem m_X5_areSo : ∀ q ∈ k_X5_areSo, Mono q.2 := by
  unfold k_X5_areSo
  refine List.forall_mem_cons.mpr ⟨mo_push _ _, ?_⟩
  refine List.forall_mem_cons.mpr ⟨mo_istore _ _, ?_⟩
  refine List.forall_mem_cons.mpr ⟨mo_iload _ _, ?_⟩
  refine List.forall_mem_cons.mpr ⟨mo_aload _ _, ?_⟩
  refine List.forall_mem_cons.mpr ⟨mo_get _ _, ?_⟩
  refine List.forall_mem_cons.mpr ⟨mo_icmp _ _ _, ?_⟩
  refine List.forall_mem_cons.mpr ⟨mo_aload _ _, ?_⟩
  refine List.forall_mem_cons.mpr ⟨mo_get _ _, ?_⟩
  refine List.forall_mem_cons.mpr ⟨mo_iload _ _, ?_⟩
  refine List.forall_mem_cons.mpr ⟨mo_iald, ?_⟩
  refine List.forall_mem_cons.mpr ⟨mo_iload _ _, ?_⟩
  refine List.forall_mem_cons.mpr ⟨mo_icmp _ _ _, ?_⟩
  refine List.forall_mem_cons.mpr ⟨mo_aload _ _, ?_⟩
  refine List.forall_mem_cons.mpr ⟨mo_aload _ _, ?_⟩
  refine List.forall_mem_cons.mpr ⟨mo_get _ _, ?_⟩
  refine List.forall_mem_cons.mpr ⟨mo_iload _ _, ?_⟩
  refine List.forall_mem_cons.mpr ⟨mo_iald, ?_⟩
  refine List.forall_mem_cons.mpr ⟨mo_aload _ _, ?_⟩
  refine List.forall_mem_cons.mpr ⟨mo_get _ _, ?_⟩
  refine List.forall_mem_cons.mpr ⟨mo_iload _ _, ?_⟩
  refine List.forall_mem_cons.mpr ⟨mo_iald, ?_⟩
  refine List.forall_mem_cons.mpr ⟨mo_call _ _ _, ?_⟩
  refine List.forall_mem_cons.mpr ⟨mo_aload _ _, ?_⟩
  refine List.forall_mem_cons.mpr ⟨mo_get _ _, ?_⟩
  refine List.forall_mem_cons.mpr ⟨mo_iload _ _, ?_⟩
  refine List.forall_mem_cons.mpr ⟨mo_iald, ?_⟩
  refine List.forall_mem_cons.mpr ⟨mo_icmp _ _ _, ?_⟩
  refine List.forall_mem_cons.mpr ⟨mo_push _ _, ?_⟩
  refine List.forall_mem_cons.mpr ⟨mo_zret, ?_⟩
  refine List.forall_mem_cons.mpr ⟨mo_iinc _ _, ?_⟩
  refine List.forall_mem_cons.mpr ⟨mo_goto _, ?_⟩
  refine List.forall_mem_cons.mpr ⟨mo_push _ _, ?_⟩
  refine List.forall_mem_cons.mpr ⟨mo_zret, ?_⟩
  exact fun _ h => absurd h List.not_mem_nil
