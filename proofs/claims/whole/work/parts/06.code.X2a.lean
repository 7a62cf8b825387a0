def k_X2_init : List (Nat × aI) := [
  (0, i_aload 0 1),
  (1, i_obj),
  (4, i_aload 0 1),
  (5, i_push (.int 6) 2),
  (7, i_newI),
  (9, i_putR 2 0),
  (12, i_aload 0 1),
  (13, i_push (.int 30) 2),
  (15, i_newI),
  (17, i_putR 2 1),
  (20, i_aload 0 1),
  (21, i_push (.int 5) 1),
  (22, i_newI),
  (24, i_putR 2 2),
  (27, i_vret)]
theorem s_X2_init : ∀ q ∈ k_X2_init, Snd RX2 cX2_init none true q.1 q.2 := by
  unfold k_X2_init
  refine List.forall_mem_cons.mpr ⟨snd_aload_n (by decide +kernel : decode cX2_init 0 = .ok (.aload_n 0, 1)) rfl, ?_⟩
  refine List.forall_mem_cons.mpr ⟨snd_obj wd_174 wd_1 wd_2 (by decide +kernel : decode cX2_init 1 = .ok (.invokespecial 3, 3)), ?_⟩
  refine List.forall_mem_cons.mpr ⟨snd_aload_n (by decide +kernel : decode cX2_init 4 = .ok (.aload_n 0, 1)) rfl, ?_⟩
  refine List.forall_mem_cons.mpr ⟨snd_bipush (by decide +kernel : decode cX2_init 5 = .ok (.bipush 6, 2)) (by decide +kernel), ?_⟩
  refine List.forall_mem_cons.mpr ⟨snd_newI wd_92 (by decide +kernel : decode cX2_init 7 = .ok (.newarray .int, 2)), ?_⟩
  refine List.forall_mem_cons.mpr ⟨snd_putR fl_2_9 (Or.inr ⟨_, rfl⟩) (by decide +kernel : decode cX2_init 9 = .ok (.putfield 9, 3)), ?_⟩
  refine List.forall_mem_cons.mpr ⟨snd_aload_n (by decide +kernel : decode cX2_init 12 = .ok (.aload_n 0, 1)) rfl, ?_⟩
  refine List.forall_mem_cons.mpr ⟨snd_bipush (by decide +kernel : decode cX2_init 13 = .ok (.bipush 30, 2)) (by decide +kernel), ?_⟩
  refine List.forall_mem_cons.mpr ⟨snd_newI wd_92 (by decide +kernel : decode cX2_init 15 = .ok (.newarray .int, 2)), ?_⟩
  refine List.forall_mem_cons.mpr ⟨snd_putR fl_2_15 (Or.inr ⟨_, rfl⟩) (by decide +kernel : decode cX2_init 17 = .ok (.putfield 15, 3)), ?_⟩
  refine List.forall_mem_cons.mpr ⟨snd_aload_n (by decide +kernel : decode cX2_init 20 = .ok (.aload_n 0, 1)) rfl, ?_⟩
  refine List.forall_mem_cons.mpr ⟨snd_iconst (by decide +kernel : decode cX2_init 21 = .ok (.iconst 5, 1)) (by decide +kernel), ?_⟩
  refine List.forall_mem_cons.mpr ⟨snd_newI wd_92 (by decide +kernel : decode cX2_init 22 = .ok (.newarray .int, 2)), ?_⟩
  refine List.forall_mem_cons.mpr ⟨snd_putR fl_2_18 (Or.inr ⟨_, rfl⟩) (by decide +kernel : decode cX2_init 24 = .ok (.putfield 18, 3)), ?_⟩
  refine List.forall_mem_cons.mpr ⟨snd_vret (by decide +kernel : decode cX2_init 27 = .ok (.return_, 1)), ?_⟩
  exact fun _ h => absurd h List.not_mem_nil
theorem m_X2_init : ∀ q ∈ k_X2_init, Mono q.2 := by
  unfold k_X2_init
  refine List.forall_mem_cons.mpr ⟨mo_aload _ _, ?_⟩
  refine List.forall_mem_cons.mpr ⟨mo_obj, ?_⟩
  refine List.forall_mem_cons.mpr ⟨mo_aload _ _, ?_⟩
  refine List.forall_mem_cons.mpr ⟨mo_push _ _, ?_⟩
  refine List.forall_mem_cons.mpr ⟨mo_newI, ?_⟩
  refine List.forall_mem_cons.mpr ⟨mo_putR _ _, ?_⟩
  refine List.forall_mem_cons.mpr ⟨mo_aload _ _, ?_⟩
  refine List.forall_mem_cons.mpr ⟨mo_push _ _, ?_⟩
  refine List.forall_mem_cons.mpr ⟨mo_newI, ?_⟩
  refine List.forall_mem_cons.mpr ⟨mo_putR _ _, ?_⟩
  refine List.forall_mem_cons.mpr ⟨mo_aload _ _, ?_⟩
  refine List.forall_mem_cons.mpr ⟨mo_push _ _, ?_⟩
  refine List.forall_mem_cons.mpr ⟨mo_newI, ?_⟩
  refine List.forall_mem_cons.mpr ⟨mo_putR _ _, ?_⟩
  refine List.forall_mem_cons.mpr ⟨mo_vret, ?_⟩
  exact fun _ h => absurd h List.not_mem_nil
def k_X2_clear : List (Nat × aI) := [
  (0, i_aload 0 1),
  (1, i_push (.int 0) 1),
  (2, i_put 2 3),
  (5, i_aload 0 1),
  (6, i_push (.int 0) 1),
  (7, i_put 2 4),
  (10, i_aload 0 1),
  (11, i_push (.int 0) 1),
  (12, i_put 2 5),
  (15, i_aload 0 1),
  (16, i_push (.int 0) 1),
  (17, i_put 2 6),
  (20, i_aload 0 1),
  (21, i_get 2 2),
  (24, i_push (.int 10) 2),
  (26, i_callS 182 2),
  (29, i_vret)]
theorem s_X2_clear : ∀ q ∈ k_X2_clear, Snd RX2 cX2_clear none false q.1 q.2 := by
  unfold k_X2_clear
  refine List.forall_mem_cons.mpr ⟨snd_aload_n (by decide +kernel : decode cX2_clear 0 = .ok (.aload_n 0, 1)) rfl, ?_⟩
  refine List.forall_mem_cons.mpr ⟨snd_iconst (by decide +kernel : decode cX2_clear 1 = .ok (.iconst 0, 1)) (by decide +kernel), ?_⟩
  refine List.forall_mem_cons.mpr ⟨snd_put fl_2_21 (by decide +kernel : decode cX2_clear 2 = .ok (.putfield 21, 3)), ?_⟩
  refine List.forall_mem_cons.mpr ⟨snd_aload_n (by decide +kernel : decode cX2_clear 5 = .ok (.aload_n 0, 1)) rfl, ?_⟩
  refine List.forall_mem_cons.mpr ⟨snd_iconst (by decide +kernel : decode cX2_clear 6 = .ok (.iconst 0, 1)) (by decide +kernel), ?_⟩
  refine List.forall_mem_cons.mpr ⟨snd_put fl_2_25 (by decide +kernel : decode cX2_clear 7 = .ok (.putfield 25, 3)), ?_⟩
  refine List.forall_mem_cons.mpr ⟨snd_aload_n (by decide +kernel : decode cX2_clear 10 = .ok (.aload_n 0, 1)) rfl, ?_⟩
  refine List.forall_mem_cons.mpr ⟨snd_iconst (by decide +kernel : decode cX2_clear 11 = .ok (.iconst 0, 1)) (by decide +kernel), ?_⟩
  refine List.forall_mem_cons.mpr ⟨snd_put fl_2_28 (by decide +kernel : decode cX2_clear 12 = .ok (.putfield 28, 3)), ?_⟩
  refine List.forall_mem_cons.mpr ⟨snd_aload_n (by decide +kernel : decode cX2_clear 15 = .ok (.aload_n 0, 1)) rfl, ?_⟩
  refine List.forall_mem_cons.mpr ⟨snd_iconst (by decide +kernel : decode cX2_clear 16 = .ok (.iconst 0, 1)) (by decide +kernel), ?_⟩
  refine List.forall_mem_cons.mpr ⟨snd_put fl_2_31 (by decide +kernel : decode cX2_clear 17 = .ok (.putfield 31, 3)), ?_⟩
  refine List.forall_mem_cons.mpr ⟨snd_aload_n (by decide +kernel : decode cX2_clear 20 = .ok (.aload_n 0, 1)) rfl, ?_⟩
  refine List.forall_mem_cons.mpr ⟨snd_get fl_2_18 (by decide +kernel : decode cX2_clear 21 = .ok (.getfield 18, 3)), ?_⟩
  refine List.forall_mem_cons.mpr ⟨snd_bipush (by decide +kernel : decode cX2_clear 24 = .ok (.bipush 10, 2)) (by decide +kernel), ?_⟩
  refine List.forall_mem_cons.mpr ⟨snd_callS mok_182 wd_182 wd_185 (by decide +kernel : decode cX2_clear 26 = .ok (.invokestatic 34, 3)), ?_⟩
  refine List.forall_mem_cons.mpr ⟨snd_vret (by decide +kernel : decode cX2_clear 29 = .ok (.return_, 1)), ?_⟩
  exact fun _ h => absurd h List.not_mem_nil
theorem m_X2_clear : ∀ q ∈ k_X2_clear, Mono q.2 := by
  unfold k_X2_clear
  refine List.forall_mem_cons.mpr ⟨mo_aload _ _, ?_⟩
  refine List.forall_mem_cons.mpr ⟨mo_push _ _, ?_⟩
  refine List.forall_mem_cons.mpr ⟨mo_put _ _, ?_⟩
  refine List.forall_mem_cons.mpr ⟨mo_aload _ _, ?_⟩
  refine List.forall_mem_cons.mpr ⟨mo_push _ _, ?_⟩
  refine List.forall_mem_cons.mpr ⟨mo_put _ _, ?_⟩
  refine List.forall_mem_cons.mpr ⟨mo_aload _ _, ?_⟩
  refine List.forall_mem_cons.mpr ⟨mo_push _ _, ?_⟩
  refine List.forall_mem_cons.mpr ⟨mo_put _ _, ?_⟩
  refine List.forall_mem_cons.mpr ⟨mo_aload _ _, ?_⟩
  refine List.forall_mem_cons.mpr ⟨mo_push _ _, ?_⟩
  refine List.forall_mem_cons.mpr ⟨mo_put _ _, ?_⟩
  refine List.forall_mem_cons.mpr ⟨mo_aload _ _, ?_⟩
  refine List.forall_mem_cons.mpr ⟨mo_get _ _, ?_⟩
  refine List.forall_mem_cons.mpr ⟨mo_push _ _, ?_⟩
  refine List.forall_mem_cons.mpr ⟨mo_call _ _ _, ?_⟩
  refine List.forall_mem_cons.mpr ⟨mo_vret, ?_⟩
  exact fun _ h => absurd h List.not_mem_nil
def k_X2_become : List (Nat × aI) := [
  (0, i_aload 0 1),
  (1, i_aload 1 1),
  (2, i_get 2 3),
  (5, i_put 2 3),
  (8, i_aload 0 1),
  (9, i_aload 1 1),
  (10, i_get 2 4),
  (13, i_put 2 4),
  (16, i_aload 0 1),
  (17, i_aload 1 1),
  (18, i_get 2 5),
  (21, i_put 2 5),
  (24, i_aload 0 1),
  (25, i_aload 1 1),
  (26, i_get 2 6),
  (29, i_put 2 6),
  (32, i_aload 1 1),
  (33, i_get 2 0),
  (36, i_push (.int 0) 1),
  (37, i_aload 0 1),
  (38, i_get 2 0),
  (41, i_push (.int 0) 1),
  (42, i_push (.int 6) 2),
  (44, i_copy),
  (47, i_aload 1 1),
  (48, i_get 2 1),
  (51, i_push (.int 0) 1),
  (52, i_aload 0 1),
  (53, i_get 2 1),
  (56, i_push (.int 0) 1),
  (57, i_push (.int 30) 2),
  (59, i_copy),
  (62, i_aload 1 1),
  (63, i_get 2 2),
  (66, i_push (.int 0) 1),
  (67, i_aload 0 1),
  (68, i_get 2 2),
  (71, i_push (.int 0) 1),
  (72, i_push (.int 5) 1),
  (73, i_copy),
  (76, i_vret)]
theorem s_X2_become : ∀ q ∈ k_X2_become, Snd RX2 cX2_become none false q.1 q.2 := by
  unfold k_X2_become
  refine List.forall_mem_cons.mpr ⟨snd_aload_n (by decide +kernel : decode cX2_become 0 = .ok (.aload_n 0, 1)) rfl, ?_⟩
  refine List.forall_mem_cons.mpr ⟨snd_aload_n (by decide +kernel : decode cX2_become 1 = .ok (.aload_n 1, 1)) rfl, ?_⟩
  refine List.forall_mem_cons.mpr ⟨snd_get fl_2_21 (by decide +kernel : decode cX2_become 2 = .ok (.getfield 21, 3)), ?_⟩
  refine List.forall_mem_cons.mpr ⟨snd_put fl_2_21 (by decide +kernel : decode cX2_become 5 = .ok (.putfield 21, 3)), ?_⟩
  refine List.forall_mem_cons.mpr ⟨snd_aload_n (by decide +kernel : decode cX2_become 8 = .ok (.aload_n 0, 1)) rfl, ?_⟩
  refine List.forall_mem_cons.mpr ⟨snd_aload_n (by decide +kernel : decode cX2_become 9 = .ok (.aload_n 1, 1)) rfl, ?_⟩
  refine List.forall_mem_cons.mpr ⟨snd_get fl_2_25 (by decide +kernel : decode cX2_become 10 = .ok (.getfield 25, 3)), ?_⟩
  refine List.forall_mem_cons.mpr ⟨snd_put fl_2_25 (by decide +kernel : decode cX2_become 13 = .ok (.putfield 25, 3)), ?_⟩
  refine List.forall_mem_cons.mpr ⟨snd_aload_n (by decide +kernel : decode cX2_become 16 = .ok (.aload_n 0, 1)) rfl, ?_⟩
  refine List.forall_mem_cons.mpr ⟨snd_aload_n (by decide +kernel : decode cX2_become 17 = .ok (.aload_n 1, 1)) rfl, ?_⟩
  refine List.forall_mem_cons.mpr ⟨snd_get fl_2_28 (by decide +kernel : decode cX2_become 18 = .ok (.getfield 28, 3)), ?_⟩
  refine List.forall_mem_cons.mpr ⟨snd_put fl_2_28 (by decide +kernel : decode cX2_become 21 = .ok (.putfield 28, 3)), ?_⟩
  refine List.forall_mem_cons.mpr ⟨snd_aload_n (by decide +kernel : decode cX2_become 24 = .ok (.aload_n 0, 1)) rfl, ?_⟩
  refine List.forall_mem_cons.mpr ⟨snd_aload_n (by decide +kernel : decode cX2_become 25 = .ok (.aload_n 1, 1)) rfl, ?_⟩
  refine List.forall_mem_cons.mpr ⟨snd_get fl_2_31 (by decide +kernel : decode cX2_become 26 = .ok (.getfield 31, 3)), ?_⟩
  refine List.forall_mem_cons.mpr ⟨snd_put fl_2_31 (by decide +kernel : decode cX2_become 29 = .ok (.putfield 31, 3)), ?_⟩
  refine List.forall_mem_cons.mpr ⟨snd_aload_n (by decide +kernel : decode cX2_become 32 = .ok (.aload_n 1, 1)) rfl, ?_⟩
  refine List.forall_mem_cons.mpr ⟨snd_get fl_2_9 (by decide +kernel : decode cX2_become 33 = .ok (.getfield 9, 3)), ?_⟩
  refine List.forall_mem_cons.mpr ⟨snd_iconst (by decide +kernel : decode cX2_become 36 = .ok (.iconst 0, 1)) (by decide +kernel), ?_⟩
  refine List.forall_mem_cons.mpr ⟨snd_aload_n (by decide +kernel : decode cX2_become 37 = .ok (.aload_n 0, 1)) rfl, ?_⟩
  refine List.forall_mem_cons.mpr ⟨snd_get fl_2_9 (by decide +kernel : decode cX2_become 38 = .ok (.getfield 9, 3)), ?_⟩
  refine List.forall_mem_cons.mpr ⟨snd_iconst (by decide +kernel : decode cX2_become 41 = .ok (.iconst 0, 1)) (by decide +kernel), ?_⟩
  refine List.forall_mem_cons.mpr ⟨snd_bipush (by decide +kernel : decode cX2_become 42 = .ok (.bipush 6, 2)) (by decide +kernel), ?_⟩
  refine List.forall_mem_cons.mpr ⟨snd_copy wd_186 wd_187 wd_188 wd_189 (by decide +kernel : decode cX2_become 44 = .ok (.invokestatic 40, 3)), ?_⟩
  refine List.forall_mem_cons.mpr ⟨snd_aload_n (by decide +kernel : decode cX2_become 47 = .ok (.aload_n 1, 1)) rfl, ?_⟩
  refine List.forall_mem_cons.mpr ⟨snd_get fl_2_15 (by decide +kernel : decode cX2_become 48 = .ok (.getfield 15, 3)), ?_⟩
  refine List.forall_mem_cons.mpr ⟨snd_iconst (by decide +kernel : decode cX2_become 51 = .ok (.iconst 0, 1)) (by decide +kernel), ?_⟩
  refine List.forall_mem_cons.mpr ⟨snd_aload_n (by decide +kernel : decode cX2_become 52 = .ok (.aload_n 0, 1)) rfl, ?_⟩
  refine List.forall_mem_cons.mpr ⟨snd_get fl_2_15 (by decide +kernel : decode cX2_become 53 = .ok (.getfield 15, 3)), ?_⟩
  refine List.forall_mem_cons.mpr ⟨snd_iconst (by decide +kernel : decode cX2_become 56 = .ok (.iconst 0, 1)) (by decide +kernel), ?_⟩
  refine List.forall_mem_cons.mpr ⟨snd_bipush (by decide +kernel : decode cX2_become 57 = .ok (.bipush 30, 2)) (by decide +kernel), ?_⟩
  refine List.forall_mem_cons.mpr ⟨snd_copy wd_186 wd_187 wd_188 wd_189 (by decide +kernel : decode cX2_become 59 = .ok (.invokestatic 40, 3)), ?_⟩
  refine List.forall_mem_cons.mpr ⟨snd_aload_n (by decide +kernel : decode cX2_become 62 = .ok (.aload_n 1, 1)) rfl, ?_⟩
  refine List.forall_mem_cons.mpr ⟨snd_get fl_2_18 (by decide +kernel : decode cX2_become 63 = .ok (.getfield 18, 3)), ?_⟩
  refine List.forall_mem_cons.mpr ⟨snd_iconst (by decide +kernel : decode cX2_become 66 = .ok (.iconst 0, 1)) (by decide +kernel), ?_⟩
  refine List.forall_mem_cons.mpr ⟨snd_aload_n (by decide +kernel : decode cX2_become 67 = .ok (.aload_n 0, 1)) rfl, ?_⟩
  refine List.forall_mem_cons.mpr ⟨snd_get fl_2_18 (by decide +kernel : decode cX2_become 68 = .ok (.getfield 18, 3)), ?_⟩
  refine List.forall_mem_cons.mpr ⟨snd_iconst (by decide +kernel : decode cX2_become 71 = .ok (.iconst 0, 1)) (by decide +kernel), ?_⟩
  refine List.forall_mem_cons.mpr ⟨snd_iconst (by decide +kernel : decode cX2_become 72 = .ok (.iconst 5, 1)) (by decide +kernel), ?_⟩
  refine List.forall_mem_cons.mpr ⟨snd_copy wd_186 wd_187 wd_188 wd_189 (by decide +kernel : decode cX2_become 73 = .ok (.invokestatic 40, 3)), ?_⟩
  refine List.forall_mem_cons.mpr ⟨snd_vret (by decide +kernel : decode cX2_become 76 = .ok (.return_, 1)), ?_⟩
  exact fun _ h => absurd h List.not_mem_nil
theorem m_X2_become : ∀ q ∈ k_X2_become, Mono q.2 := by
  unfold k_X2_become
  refine List.forall_mem_cons.mpr ⟨mo_aload _ _, ?_⟩
  refine List.forall_mem_cons.mpr ⟨mo_aload _ _, ?_⟩
  refine List.forall_mem_cons.mpr ⟨mo_get _ _, ?_⟩
  refine List.forall_mem_cons.mpr ⟨mo_put _ _, ?_⟩
  refine List.forall_mem_cons.mpr ⟨mo_aload _ _, ?_⟩
  refine List.forall_mem_cons.mpr ⟨mo_aload _ _, ?_⟩
  refine List.forall_mem_cons.mpr ⟨mo_get _ _, ?_⟩
  refine List.forall_mem_cons.mpr ⟨mo_put _ _, ?_⟩
  refine List.forall_mem_cons.mpr ⟨mo_aload _ _, ?_⟩
  refine List.forall_mem_cons.mpr ⟨mo_aload _ _, ?_⟩
  refine List.forall_mem_cons.mpr ⟨mo_get _ _, ?_⟩
  refine List.forall_mem_cons.mpr ⟨mo_put _ _, ?_⟩
  refine List.forall_mem_cons.mpr ⟨mo_aload _ _, ?_⟩
  refine List.forall_mem_cons.mpr ⟨mo_aload _ _, ?_⟩
  refine List.forall_mem_cons.mpr ⟨mo_get _ _, ?_⟩
  refine List.forall_mem_cons.mpr ⟨mo_put _ _, ?_⟩
  refine List.forall_mem_cons.mpr ⟨mo_aload _ _, ?_⟩
  refine List.forall_mem_cons.mpr ⟨mo_get _ _, ?_⟩
  refine List.forall_mem_cons.mpr ⟨mo_push _ _, ?_⟩
  refine List.forall_mem_cons.mpr ⟨mo_aload _ _, ?_⟩
  refine List.forall_mem_cons.mpr ⟨mo_get _ _, ?_⟩
  refine List.forall_mem_cons.mpr ⟨mo_push _ _, ?_⟩
  refine List.forall_mem_cons.mpr ⟨mo_push _ _, ?_⟩
  refine List.forall_mem_cons.mpr ⟨mo_copy, ?_⟩
  refine List.forall_mem_cons.mpr ⟨mo_aload _ _, ?_⟩
  refine List.forall_mem_cons.mpr ⟨mo_get _ _, ?_⟩
  refine List.forall_mem_cons.mpr ⟨mo_push _ _, ?_⟩
  refine List.forall_mem_cons.mpr ⟨mo_aload _ _, ?_⟩
  refine List.forall_mem_cons.mpr ⟨mo_get _ _, ?_⟩
  refine List.forall_mem_cons.mpr ⟨mo_push _ _, ?_⟩
  refine List.forall_mem_cons.mpr ⟨mo_push _ _, ?_⟩
  refine List.forall_mem_cons.mpr ⟨mo_copy, ?_⟩
  refine List.forall_mem_cons.mpr ⟨mo_aload _ _, ?_⟩
  refine List.forall_mem_cons.mpr ⟨mo_get _ _, ?_⟩
  refine List.forall_mem_cons.mpr ⟨mo_push _ _, ?_⟩
  refine List.forall_mem_cons.mpr ⟨mo_aload _ _, ?_⟩
  refine List.forall_mem_cons.mpr ⟨mo_get _ _, ?_⟩
  refine List.forall_mem_cons.mpr ⟨mo_push _ _, ?_⟩
  refine List.forall_mem_cons.mpr ⟨mo_push _ _, ?_⟩
  refine List.forall_mem_cons.mpr ⟨mo_copy, ?_⟩
  refine List.forall_mem_cons.mpr ⟨mo_vret, ?_⟩
  exact fun _ h => absurd h List.not_mem_nil
def k_X2_fits : List (Nat × aI) := [
  (0, i_aload 0 1),
  (1, i_get 2 3),
  (4, i_push (.int 6) 2),
  (6, i_icmp (fun x y => x < y) 9 37),
  (9, i_iload 1 1),
  (10, i_push (.int 2) 1),
  (11, i_push (.int 5) 1),
  (12, i_callS 114 3),
  (15, i_if (fun x => x = 0) 37 18),
  (18, i_aload 0 1),
  (19, i_get 2 3),
  (22, i_if (fun x => x = 0) 33 25),
  (25, i_iload 1 1),
  (26, i_aload 0 1),
  (27, i_get 2 4),
  (30, i_icmp (fun x y => x = y) 33 37),
  (33, i_push (.int 1) 1),
  (34, i_goto 38),
  (37, i_push (.int 0) 1),
  (38, i_zret)]
theorem s_X2_fits : ∀ q ∈ k_X2_fits, Snd RX2 cX2_fits (some .boolean) false q.1 q.2 := by
  unfold k_X2_fits
  refine List.forall_mem_cons.mpr ⟨snd_aload_n (by decide +kernel : decode cX2_fits 0 = .ok (.aload_n 0, 1)) rfl, ?_⟩
  refine List.forall_mem_cons.mpr ⟨snd_get fl_2_21 (by decide +kernel : decode cX2_fits 1 = .ok (.getfield 21, 3)), ?_⟩
  refine List.forall_mem_cons.mpr ⟨snd_bipush (by decide +kernel : decode cX2_fits 4 = .ok (.bipush 6, 2)) (by decide +kernel), ?_⟩
  refine List.forall_mem_cons.mpr ⟨snd_icmp_ge (by decide +kernel : decode cX2_fits 6 = .ok (.if_icmp .ge 31, 3)) (by decide +kernel), ?_⟩
  refine List.forall_mem_cons.mpr ⟨snd_iload_n (by decide +kernel : decode cX2_fits 9 = .ok (.iload_n 1, 1)) rfl, ?_⟩
  refine List.forall_mem_cons.mpr ⟨snd_iconst (by decide +kernel : decode cX2_fits 10 = .ok (.iconst 2, 1)) (by decide +kernel), ?_⟩
  refine List.forall_mem_cons.mpr ⟨snd_iconst (by decide +kernel : decode cX2_fits 11 = .ok (.iconst 5, 1)) (by decide +kernel), ?_⟩
  refine List.forall_mem_cons.mpr ⟨snd_callSN mok_114 (List.mem_of_getElem? (i := 9) rfl) wd_137 (by decide +kernel : decode cX2_fits 12 = .ok (.invokestatic 46, 3)), ?_⟩
  refine List.forall_mem_cons.mpr ⟨snd_if_eq (by decide +kernel : decode cX2_fits 15 = .ok (.ifCond .eq 22, 3)) (by decide +kernel), ?_⟩
  refine List.forall_mem_cons.mpr ⟨snd_aload_n (by decide +kernel : decode cX2_fits 18 = .ok (.aload_n 0, 1)) rfl, ?_⟩
  refine List.forall_mem_cons.mpr ⟨snd_get fl_2_21 (by decide +kernel : decode cX2_fits 19 = .ok (.getfield 21, 3)), ?_⟩
  refine List.forall_mem_cons.mpr ⟨snd_if_eq (by decide +kernel : decode cX2_fits 22 = .ok (.ifCond .eq 11, 3)) (by decide +kernel), ?_⟩
  refine List.forall_mem_cons.mpr ⟨snd_iload_n (by decide +kernel : decode cX2_fits 25 = .ok (.iload_n 1, 1)) rfl, ?_⟩
  refine List.forall_mem_cons.mpr ⟨snd_aload_n (by decide +kernel : decode cX2_fits 26 = .ok (.aload_n 0, 1)) rfl, ?_⟩
  refine List.forall_mem_cons.mpr ⟨snd_get fl_2_25 (by decide +kernel : decode cX2_fits 27 = .ok (.getfield 25, 3)), ?_⟩
  refine List.forall_mem_cons.mpr ⟨snd_icmp_ne (by decide +kernel : decode cX2_fits 30 = .ok (.if_icmp .ne 7, 3)) (by decide +kernel), ?_⟩
  refine List.forall_mem_cons.mpr ⟨snd_iconst (by decide +kernel : decode cX2_fits 33 = .ok (.iconst 1, 1)) (by decide +kernel), ?_⟩
  refine List.forall_mem_cons.mpr ⟨snd_goto (by decide +kernel : decode cX2_fits 34 = .ok (.goto 4, 3)) (by decide +kernel), ?_⟩
  refine List.forall_mem_cons.mpr ⟨snd_iconst (by decide +kernel : decode cX2_fits 37 = .ok (.iconst 0, 1)) (by decide +kernel), ?_⟩
  refine List.forall_mem_cons.mpr ⟨snd_zret (by decide +kernel : decode cX2_fits 38 = .ok (.ireturn, 1)), ?_⟩
  exact fun _ h => absurd h List.not_mem_nil
theorem m_X2_fits : ∀ q ∈ k_X2_fits, Mono q.2 := by
  unfold k_X2_fits
  refine List.forall_mem_cons.mpr ⟨mo_aload _ _, ?_⟩
  refine List.forall_mem_cons.mpr ⟨mo_get _ _, ?_⟩
  refine List.forall_mem_cons.mpr ⟨mo_push _ _, ?_⟩
  refine List.forall_mem_cons.mpr ⟨mo_icmp _ _ _, ?_⟩
  refine List.forall_mem_cons.mpr ⟨mo_iload _ _, ?_⟩
  refine List.forall_mem_cons.mpr ⟨mo_push _ _, ?_⟩
  refine List.forall_mem_cons.mpr ⟨mo_push _ _, ?_⟩
  refine List.forall_mem_cons.mpr ⟨mo_call _ _ _, ?_⟩
  refine List.forall_mem_cons.mpr ⟨mo_if _ _ _, ?_⟩
  refine List.forall_mem_cons.mpr ⟨mo_aload _ _, ?_⟩
  refine List.forall_mem_cons.mpr ⟨mo_get _ _, ?_⟩
  refine List.forall_mem_cons.mpr ⟨mo_if _ _ _, ?_⟩
  refine List.forall_mem_cons.mpr ⟨mo_iload _ _, ?_⟩
  refine List.forall_mem_cons.mpr ⟨mo_aload _ _, ?_⟩
  refine List.forall_mem_cons.mpr ⟨mo_get _ _, ?_⟩
  refine List.forall_mem_cons.mpr ⟨mo_icmp _ _ _, ?_⟩
  refine List.forall_mem_cons.mpr ⟨mo_push _ _, ?_⟩
  refine List.forall_mem_cons.mpr ⟨mo_goto _, ?_⟩
  refine List.forall_mem_cons.mpr ⟨mo_push _ _, ?_⟩
  refine List.forall_mem_cons.mpr ⟨mo_zret, ?_⟩
  exact fun _ h => absurd h List.not_mem_nil
def k_X2_addHouse : List (Nat × aI) := [
  (0, i_aload 0 1),
  (1, i_iload 2 1),
  (2, i_callV 23 2 2),
  (5, i_if (fun x => x = 0) 33 8),
  (8, i_aload 0 1),
  (9, i_get 2 0),
  (12, i_aload 0 1),
  (13, i_get 2 3),
  (16, i_iload 1 1),
  (17, i_iast),
  (18, i_aload 0 1),
  (19, i_iload 2 1),
  (20, i_put 2 4),
  (23, i_aload 0 1),
  (24, i_dup),
  (25, i_get 2 3),
  (28, i_push (.int 1) 1),
  (29, i_bin (fun x y => x + y)),
  (30, i_put 2 3),
  (33, i_vret)]
theorem s_X2_addHouse : ∀ q ∈ k_X2_addHouse, Snd RX2 cX2_addHouse none false q.1 q.2 := by
  unfold k_X2_addHouse
  refine List.forall_mem_cons.mpr ⟨snd_aload_n (by decide +kernel : decode cX2_addHouse 0 = .ok (.aload_n 0, 1)) rfl, ?_⟩
  refine List.forall_mem_cons.mpr ⟨snd_iload_n (by decide +kernel : decode cX2_addHouse 1 = .ok (.iload_n 2, 1)) rfl, ?_⟩
  refine List.forall_mem_cons.mpr ⟨snd_callV mok_23 wd_190 wd_141 wd_142 rfl rfl (by decide +kernel : decode cX2_addHouse 2 = .ok (.invokevirtual 50, 3)), ?_⟩
  refine List.forall_mem_cons.mpr ⟨snd_if_eq (by decide +kernel : decode cX2_addHouse 5 = .ok (.ifCond .eq 28, 3)) (by decide +kernel), ?_⟩
  refine List.forall_mem_cons.mpr ⟨snd_aload_n (by decide +kernel : decode cX2_addHouse 8 = .ok (.aload_n 0, 1)) rfl, ?_⟩
  refine List.forall_mem_cons.mpr ⟨snd_get fl_2_9 (by decide +kernel : decode cX2_addHouse 9 = .ok (.getfield 9, 3)), ?_⟩
  refine List.forall_mem_cons.mpr ⟨snd_aload_n (by decide +kernel : decode cX2_addHouse 12 = .ok (.aload_n 0, 1)) rfl, ?_⟩
  refine List.forall_mem_cons.mpr ⟨snd_get fl_2_21 (by decide +kernel : decode cX2_addHouse 13 = .ok (.getfield 21, 3)), ?_⟩
  refine List.forall_mem_cons.mpr ⟨snd_iload_n (by decide +kernel : decode cX2_addHouse 16 = .ok (.iload_n 1, 1)) rfl, ?_⟩
  refine List.forall_mem_cons.mpr ⟨snd_iast (by decide +kernel : decode cX2_addHouse 17 = .ok (.iastore, 1)), ?_⟩
  refine List.forall_mem_cons.mpr ⟨snd_aload_n (by decide +kernel : decode cX2_addHouse 18 = .ok (.aload_n 0, 1)) rfl, ?_⟩
  refine List.forall_mem_cons.mpr ⟨snd_iload_n (by decide +kernel : decode cX2_addHouse 19 = .ok (.iload_n 2, 1)) rfl, ?_⟩
  refine List.forall_mem_cons.mpr ⟨snd_put fl_2_25 (by decide +kernel : decode cX2_addHouse 20 = .ok (.putfield 25, 3)), ?_⟩
  refine List.forall_mem_cons.mpr ⟨snd_aload_n (by decide +kernel : decode cX2_addHouse 23 = .ok (.aload_n 0, 1)) rfl, ?_⟩
  refine List.forall_mem_cons.mpr ⟨snd_dup (by decide +kernel : decode cX2_addHouse 24 = .ok (.dup, 1)), ?_⟩
  refine List.forall_mem_cons.mpr ⟨snd_get fl_2_21 (by decide +kernel : decode cX2_addHouse 25 = .ok (.getfield 21, 3)), ?_⟩
  refine List.forall_mem_cons.mpr ⟨snd_iconst (by decide +kernel : decode cX2_addHouse 28 = .ok (.iconst 1, 1)) (by decide +kernel), ?_⟩
  refine List.forall_mem_cons.mpr ⟨snd_iadd (by decide +kernel : decode cX2_addHouse 29 = .ok (.iadd, 1)), ?_⟩
  refine List.forall_mem_cons.mpr ⟨snd_put fl_2_21 (by decide +kernel : decode cX2_addHouse 30 = .ok (.putfield 21, 3)), ?_⟩
  refine List.forall_mem_cons.mpr ⟨snd_vret (by decide +kernel : decode cX2_addHouse 33 = .ok (.return_, 1)), ?_⟩
  exact fun _ h => absurd h List.not_mem_nil
theorem m_X2_addHouse : ∀ q ∈ k_X2_addHouse, Mono q.2 := by
  unfold k_X2_addHouse
  refine List.forall_mem_cons.mpr ⟨mo_aload _ _, ?_⟩
  refine List.forall_mem_cons.mpr ⟨mo_iload _ _, ?_⟩
  refine List.forall_mem_cons.mpr ⟨mo_call _ _ _, ?_⟩
  refine List.forall_mem_cons.mpr ⟨mo_if _ _ _, ?_⟩
  refine List.forall_mem_cons.mpr ⟨mo_aload _ _, ?_⟩
  refine List.forall_mem_cons.mpr ⟨mo_get _ _, ?_⟩
  refine List.forall_mem_cons.mpr ⟨mo_aload _ _, ?_⟩
  refine List.forall_mem_cons.mpr ⟨mo_get _ _, ?_⟩
  refine List.forall_mem_cons.mpr ⟨mo_iload _ _, ?_⟩
  refine List.forall_mem_cons.mpr ⟨mo_iast, ?_⟩
  refine List.forall_mem_cons.mpr ⟨mo_aload _ _, ?_⟩
  refine List.forall_mem_cons.mpr ⟨mo_iload _ _, ?_⟩
  refine List.forall_mem_cons.mpr ⟨mo_put _ _, ?_⟩
  refine List.forall_mem_cons.mpr ⟨mo_aload _ _, ?_⟩
  refine List.forall_mem_cons.mpr ⟨mo_dup, ?_⟩
  refine List.forall_mem_cons.mpr ⟨mo_get _ _, ?_⟩
  refine List.forall_mem_cons.mpr ⟨mo_push _ _, ?_⟩
  refine List.forall_mem_cons.mpr ⟨mo_bin _, ?_⟩
  refine List.forall_mem_cons.mpr ⟨mo_put _ _, ?_⟩
  refine List.forall_mem_cons.mpr ⟨mo_vret, ?_⟩
  exact fun _ h => absurd h List.not_mem_nil
def k_X2_houses : List (Nat × aI) := [
  (0, i_aload 0 1),
  (1, i_get 2 3),
  (4, i_iret)]
theorem s_X2_houses : ∀ q ∈ k_X2_houses, Snd RX2 cX2_houses (some .int) false q.1 q.2 := by
  unfold k_X2_houses
  refine List.forall_mem_cons.mpr ⟨snd_aload_n (by decide +kernel : decode cX2_houses 0 = .ok (.aload_n 0, 1)) rfl, ?_⟩
  refine List.forall_mem_cons.mpr ⟨snd_get fl_2_21 (by decide +kernel : decode cX2_houses 1 = .ok (.getfield 21, 3)), ?_⟩
  refine List.forall_mem_cons.mpr ⟨snd_iret (by decide +kernel : decode cX2_houses 4 = .ok (.ireturn, 1)), ?_⟩
  exact fun _ h => absurd h List.not_mem_nil
theorem m_X2_houses : ∀ q ∈ k_X2_houses, Mono q.2 := by
  unfold k_X2_houses
  refine List.forall_mem_cons.mpr ⟨mo_aload _ _, ?_⟩
  refine List.forall_mem_cons.mpr ⟨mo_get _ _, ?_⟩
  refine List.forall_mem_cons.mpr ⟨mo_iret, ?_⟩
  exact fun _ h => absurd h List.not_mem_nil
def k_X2_rooms : List (Nat × aI) := [
  (0, i_aload 0 1),
  (1, i_get 2 4),
  (4, i_iret)]
theorem s_X2_rooms : ∀ q ∈ k_X2_rooms, Snd RX2 cX2_rooms (some .int) false q.1 q.2 := by
  unfold k_X2_rooms
  refine List.forall_mem_cons.mpr ⟨snd_aload_n (by decide +kernel : decode cX2_rooms 0 = .ok (.aload_n 0, 1)) rfl, ?_⟩
  refine List.forall_mem_cons.mpr ⟨snd_get fl_2_25 (by decide +kernel : decode cX2_rooms 1 = .ok (.getfield 25, 3)), ?_⟩
  refine List.forall_mem_cons.mpr ⟨snd_iret (by decide +kernel : decode cX2_rooms 4 = .ok (.ireturn, 1)), ?_⟩
  exact fun _ h => absurd h List.not_mem_nil
theorem m_X2_rooms : ∀ q ∈ k_X2_rooms, Mono q.2 := by
  unfold k_X2_rooms
  refine List.forall_mem_cons.mpr ⟨mo_aload _ _, ?_⟩
  refine List.forall_mem_cons.mpr ⟨mo_get _ _, ?_⟩
  refine List.forall_mem_cons.mpr ⟨mo_iret, ?_⟩
  exact fun _ h => absurd h List.not_mem_nil
def k_X2_bottom : List (Nat × aI) := [
  (0, i_aload 0 1),
  (1, i_get 2 3),
  (4, i_push (.int 1) 1),
  (5, i_bin (fun x y => x - y)),
  (6, i_iret)]
theorem s_X2_bottom : ∀ q ∈ k_X2_bottom, Snd RX2 cX2_bottom (some .int) false q.1 q.2 := by
  unfold k_X2_bottom
  refine List.forall_mem_cons.mpr ⟨snd_aload_n (by decide +kernel : decode cX2_bottom 0 = .ok (.aload_n 0, 1)) rfl, ?_⟩
  refine List.forall_mem_cons.mpr ⟨snd_get fl_2_21 (by decide +kernel : decode cX2_bottom 1 = .ok (.getfield 21, 3)), ?_⟩
  refine List.forall_mem_cons.mpr ⟨snd_iconst (by decide +kernel : decode cX2_bottom 4 = .ok (.iconst 1, 1)) (by decide +kernel), ?_⟩
  refine List.forall_mem_cons.mpr ⟨snd_isub (by decide +kernel : decode cX2_bottom 5 = .ok (.isub, 1)), ?_⟩
  refine List.forall_mem_cons.mpr ⟨snd_iret (by decide +kernel : decode cX2_bottom 6 = .ok (.ireturn, 1)), ?_⟩
  exact fun _ h => absurd h List.not_mem_nil
theorem m_X2_bottom : ∀ q ∈ k_X2_bottom, Mono q.2 := by
  unfold k_X2_bottom
  refine List.forall_mem_cons.mpr ⟨mo_aload _ _, ?_⟩
  refine List.forall_mem_cons.mpr ⟨mo_get _ _, ?_⟩
  refine List.forall_mem_cons.mpr ⟨mo_push _ _, ?_⟩
  refine List.forall_mem_cons.mpr ⟨mo_bin _, ?_⟩
  refine List.forall_mem_cons.mpr ⟨mo_iret, ?_⟩
  exact fun _ h => absurd h List.not_mem_nil
def k_X2_hasHouse : List (Nat × aI) := [
  (0, i_iload 1 1),
  (1, i_if (fun x => x < 0) 16 4),
  (4, i_iload 1 1),
  (5, i_aload 0 1),
  (6, i_get 2 3),
  (9, i_icmp (fun x y => x < y) 12 16),
  (12, i_push (.int 1) 1),
  (13, i_goto 17),
  (16, i_push (.int 0) 1),
  (17, i_zret)]
theorem s_X2_hasHouse : ∀ q ∈ k_X2_hasHouse, Snd RX2 cX2_hasHouse (some .boolean) false q.1 q.2 := by
  unfold k_X2_hasHouse
  refine List.forall_mem_cons.mpr ⟨snd_iload_n (by decide +kernel : decode cX2_hasHouse 0 = .ok (.iload_n 1, 1)) rfl, ?_⟩
  refine List.forall_mem_cons.mpr ⟨snd_if_lt (by decide +kernel : decode cX2_hasHouse 1 = .ok (.ifCond .lt 15, 3)) (by decide +kernel), ?_⟩
  refine List.forall_mem_cons.mpr ⟨snd_iload_n (by decide +kernel : decode cX2_hasHouse 4 = .ok (.iload_n 1, 1)) rfl, ?_⟩
  refine List.forall_mem_cons.mpr ⟨snd_aload_n (by decide +kernel : decode cX2_hasHouse 5 = .ok (.aload_n 0, 1)) rfl, ?_⟩
  refine List.forall_mem_cons.mpr ⟨snd_get fl_2_21 (by decide +kernel : decode cX2_hasHouse 6 = .ok (.getfield 21, 3)), ?_⟩
  refine List.forall_mem_cons.mpr ⟨snd_icmp_ge (by decide +kernel : decode cX2_hasHouse 9 = .ok (.if_icmp .ge 7, 3)) (by decide +kernel), ?_⟩
  refine List.forall_mem_cons.mpr ⟨snd_iconst (by decide +kernel : decode cX2_hasHouse 12 = .ok (.iconst 1, 1)) (by decide +kernel), ?_⟩
  refine List.forall_mem_cons.mpr ⟨snd_goto (by decide +kernel : decode cX2_hasHouse 13 = .ok (.goto 4, 3)) (by decide +kernel), ?_⟩
  refine List.forall_mem_cons.mpr ⟨snd_iconst (by decide +kernel : decode cX2_hasHouse 16 = .ok (.iconst 0, 1)) (by decide +kernel), ?_⟩
  refine List.forall_mem_cons.mpr ⟨snd_zret (by decide +kernel : decode cX2_hasHouse 17 = .ok (.ireturn, 1)), ?_⟩
  exact fun _ h => absurd h List.not_mem_nil
theorem m_X2_hasHouse : ∀ q ∈ k_X2_hasHouse, Mono q.2 := by
  unfold k_X2_hasHouse
  refine List.forall_mem_cons.mpr ⟨mo_iload _ _, ?_⟩
  refine List.forall_mem_cons.mpr ⟨mo_if _ _ _, ?_⟩
  refine List.forall_mem_cons.mpr ⟨mo_iload _ _, ?_⟩
  refine List.forall_mem_cons.mpr ⟨mo_aload _ _, ?_⟩
  refine List.forall_mem_cons.mpr ⟨mo_get _ _, ?_⟩
  refine List.forall_mem_cons.mpr ⟨mo_icmp _ _ _, ?_⟩
  refine List.forall_mem_cons.mpr ⟨mo_push _ _, ?_⟩
  refine List.forall_mem_cons.mpr ⟨mo_goto _, ?_⟩
  refine List.forall_mem_cons.mpr ⟨mo_push _ _, ?_⟩
  refine List.forall_mem_cons.mpr ⟨mo_zret, ?_⟩
  exact fun _ h => absurd h List.not_mem_nil
def k_X2_hasRoom : List (Nat × aI) := [
  (0, i_iload 1 1),
  (1, i_if (fun x => x < 0) 16 4),
  (4, i_iload 1 1),
  (5, i_aload 0 1),
  (6, i_get 2 4),
  (9, i_icmp (fun x y => x < y) 12 16),
  (12, i_push (.int 1) 1),
  (13, i_goto 17),
  (16, i_push (.int 0) 1),
  (17, i_zret)]
theorem s_X2_hasRoom : ∀ q ∈ k_X2_hasRoom, Snd RX2 cX2_hasRoom (some .boolean) false q.1 q.2 := by
  unfold k_X2_hasRoom
  refine List.forall_mem_cons.mpr ⟨snd_iload_n (by decide +kernel : decode cX2_hasRoom 0 = .ok (.iload_n 1, 1)) rfl, ?_⟩
  refine List.forall_mem_cons.mpr ⟨snd_if_lt (by decide +kernel : decode cX2_hasRoom 1 = .ok (.ifCond .lt 15, 3)) (by decide +kernel), ?_⟩
  refine List.forall_mem_cons.mpr ⟨snd_iload_n (by decide +kernel : decode cX2_hasRoom 4 = .ok (.iload_n 1, 1)) rfl, ?_⟩
  refine List.forall_mem_cons.mpr ⟨snd_aload_n (by decide +kernel : decode cX2_hasRoom 5 = .ok (.aload_n 0, 1)) rfl, ?_⟩
  refine List.forall_mem_cons.mpr ⟨snd_get fl_2_25 (by decide +kernel : decode cX2_hasRoom 6 = .ok (.getfield 25, 3)), ?_⟩
  refine List.forall_mem_cons.mpr ⟨snd_icmp_ge (by decide +kernel : decode cX2_hasRoom 9 = .ok (.if_icmp .ge 7, 3)) (by decide +kernel), ?_⟩
  refine List.forall_mem_cons.mpr ⟨snd_iconst (by decide +kernel : decode cX2_hasRoom 12 = .ok (.iconst 1, 1)) (by decide +kernel), ?_⟩
  refine List.forall_mem_cons.mpr ⟨snd_goto (by decide +kernel : decode cX2_hasRoom 13 = .ok (.goto 4, 3)) (by decide +kernel), ?_⟩
  refine List.forall_mem_cons.mpr ⟨snd_iconst (by decide +kernel : decode cX2_hasRoom 16 = .ok (.iconst 0, 1)) (by decide +kernel), ?_⟩
  refine List.forall_mem_cons.mpr ⟨snd_zret (by decide +kernel : decode cX2_hasRoom 17 = .ok (.ireturn, 1)), ?_⟩
  exact fun _ h => absurd h List.not_mem_nil
theorem m_X2_hasRoom : ∀ q ∈ k_X2_hasRoom, Mono q.2 := by
  unfold k_X2_hasRoom
  refine List.forall_mem_cons.mpr ⟨mo_iload _ _, ?_⟩
  refine List.forall_mem_cons.mpr ⟨mo_if _ _ _, ?_⟩
  refine List.forall_mem_cons.mpr ⟨mo_iload _ _, ?_⟩
  refine List.forall_mem_cons.mpr ⟨mo_aload _ _, ?_⟩
  refine List.forall_mem_cons.mpr ⟨mo_get _ _, ?_⟩
  refine List.forall_mem_cons.mpr ⟨mo_icmp _ _ _, ?_⟩
  refine List.forall_mem_cons.mpr ⟨mo_push _ _, ?_⟩
  refine List.forall_mem_cons.mpr ⟨mo_goto _, ?_⟩
  refine List.forall_mem_cons.mpr ⟨mo_push _ _, ?_⟩
  refine List.forall_mem_cons.mpr ⟨mo_zret, ?_⟩
  exact fun _ h => absurd h List.not_mem_nil
def k_X2_thing : List (Nat × aI) := [
  (0, i_iload 1 1),
  (1, i_push (.int 5) 1),
  (2, i_bin (fun x y => x * y)),
  (3, i_iload 2 1),
  (4, i_bin (fun x y => x + y)),
  (5, i_istore 3 1),
  (6, i_iload 3 1),
  (7, i_if (fun x => x < 0) 28 10),
  (10, i_iload 3 1),
  (11, i_aload 0 1),
  (12, i_get 2 1),
  (15, i_alen),
  (16, i_icmp (fun x y => x < y) 19 28),
  (19, i_aload 0 1),
  (20, i_get 2 1),
  (23, i_iload 3 1),
  (24, i_iald),
  (25, i_goto 30),
  (28, i_push (.int (-4)) 2),
  (30, i_iret)]
theorem s_X2_thing : ∀ q ∈ k_X2_thing, Snd RX2 cX2_thing (some .int) false q.1 q.2 := by
  unfold k_X2_thing
  refine List.forall_mem_cons.mpr ⟨snd_iload_n (by decide +kernel : decode cX2_thing 0 = .ok (.iload_n 1, 1)) rfl, ?_⟩
  refine List.forall_mem_cons.mpr ⟨snd_iconst (by decide +kernel : decode cX2_thing 1 = .ok (.iconst 5, 1)) (by decide +kernel), ?_⟩
  refine List.forall_mem_cons.mpr ⟨snd_imul (by decide +kernel : decode cX2_thing 2 = .ok (.imul, 1)), ?_⟩
  refine List.forall_mem_cons.mpr ⟨snd_iload_n (by decide +kernel : decode cX2_thing 3 = .ok (.iload_n 2, 1)) rfl, ?_⟩
  refine List.forall_mem_cons.mpr ⟨snd_iadd (by decide +kernel : decode cX2_thing 4 = .ok (.iadd, 1)), ?_⟩
  refine List.forall_mem_cons.mpr ⟨snd_istore_n (by decide +kernel : decode cX2_thing 5 = .ok (.istore_n 3, 1)) rfl, ?_⟩
  refine List.forall_mem_cons.mpr ⟨snd_iload_n (by decide +kernel : decode cX2_thing 6 = .ok (.iload_n 3, 1)) rfl, ?_⟩
  refine List.forall_mem_cons.mpr ⟨snd_if_lt (by decide +kernel : decode cX2_thing 7 = .ok (.ifCond .lt 21, 3)) (by decide +kernel), ?_⟩
  refine List.forall_mem_cons.mpr ⟨snd_iload_n (by decide +kernel : decode cX2_thing 10 = .ok (.iload_n 3, 1)) rfl, ?_⟩
  refine List.forall_mem_cons.mpr ⟨snd_aload_n (by decide +kernel : decode cX2_thing 11 = .ok (.aload_n 0, 1)) rfl, ?_⟩
  refine List.forall_mem_cons.mpr ⟨snd_get fl_2_15 (by decide +kernel : decode cX2_thing 12 = .ok (.getfield 15, 3)), ?_⟩
  refine List.forall_mem_cons.mpr ⟨snd_alen (by decide +kernel : decode cX2_thing 15 = .ok (.arraylength, 1)), ?_⟩
  refine List.forall_mem_cons.mpr ⟨snd_icmp_ge (by decide +kernel : decode cX2_thing 16 = .ok (.if_icmp .ge 12, 3)) (by decide +kernel), ?_⟩
  refine List.forall_mem_cons.mpr ⟨snd_aload_n (by decide +kernel : decode cX2_thing 19 = .ok (.aload_n 0, 1)) rfl, ?_⟩
  refine List.forall_mem_cons.mpr ⟨snd_get fl_2_15 (by decide +kernel : decode cX2_thing 20 = .ok (.getfield 15, 3)), ?_⟩
  refine List.forall_mem_cons.mpr ⟨snd_iload_n (by decide +kernel : decode cX2_thing 23 = .ok (.iload_n 3, 1)) rfl, ?_⟩
  refine List.forall_mem_cons.mpr ⟨snd_iald (by decide +kernel : decode cX2_thing 24 = .ok (.iaload, 1)), ?_⟩
  refine List.forall_mem_cons.mpr ⟨snd_goto (by decide +kernel : decode cX2_thing 25 = .ok (.goto 5, 3)) (by decide +kernel), ?_⟩
  refine List.forall_mem_cons.mpr ⟨snd_bipush (by decide +kernel : decode cX2_thing 28 = .ok (.bipush (-4), 2)) (by decide +kernel), ?_⟩
  refine List.forall_mem_cons.mpr ⟨snd_iret (by decide +kernel : decode cX2_thing 30 = .ok (.ireturn, 1)), ?_⟩
  exact fun _ h => absurd h List.not_mem_nil
theorem m_X2_thing : ∀ q ∈ k_X2_thing, Mono q.2 := by
  unfold k_X2_thing
  refine List.forall_mem_cons.mpr ⟨mo_iload _ _, ?_⟩
  refine List.forall_mem_cons.mpr ⟨mo_push _ _, ?_⟩
  refine List.forall_mem_cons.mpr ⟨mo_bin _, ?_⟩
  refine List.forall_mem_cons.mpr ⟨mo_iload _ _, ?_⟩
  refine List.forall_mem_cons.mpr ⟨mo_bin _, ?_⟩
  refine List.forall_mem_cons.mpr ⟨mo_istore _ _, ?_⟩
  refine List.forall_mem_cons.mpr ⟨mo_iload _ _, ?_⟩
  refine List.forall_mem_cons.mpr ⟨mo_if _ _ _, ?_⟩
  refine List.forall_mem_cons.mpr ⟨mo_iload _ _, ?_⟩
  refine List.forall_mem_cons.mpr ⟨mo_aload _ _, ?_⟩
  refine List.forall_mem_cons.mpr ⟨mo_get _ _, ?_⟩
  refine List.forall_mem_cons.mpr ⟨mo_alen, ?_⟩
  refine List.forall_mem_cons.mpr ⟨mo_icmp _ _ _, ?_⟩
  refine List.forall_mem_cons.mpr ⟨mo_aload _ _, ?_⟩
  refine List.forall_mem_cons.mpr ⟨mo_get _ _, ?_⟩
  refine List.forall_mem_cons.mpr ⟨mo_iload _ _, ?_⟩
  refine List.forall_mem_cons.mpr ⟨mo_iald, ?_⟩
  refine List.forall_mem_cons.mpr ⟨mo_goto _, ?_⟩
  refine List.forall_mem_cons.mpr ⟨mo_push _ _, ?_⟩
  refine List.forall_mem_cons.mpr ⟨mo_iret, ?_⟩
  exact fun _ h => absurd h List.not_mem_nil
def k_X2_place : List (Nat × aI) := [
  (0, i_iload 1 1),
  (1, i_push (.int 5) 1),
  (2, i_bin (fun x y => x * y)),
  (3, i_iload 2 1),
  (4, i_bin (fun x y => x + y)),
  (5, i_istore 4 2),
  (7, i_iload 4 2),
  (9, i_if (fun x => x < 0) 30 12),
  (12, i_iload 4 2),
  (14, i_aload 0 1),
  (15, i_get 2 1),
  (18, i_alen),
  (19, i_icmp (fun x y => x < y) 22 30),
  (22, i_aload 0 1),
  (23, i_get 2 1),
  (26, i_iload 4 2),
  (28, i_iload 3 1),
  (29, i_iast),
  (30, i_vret)]
theorem s_X2_place : ∀ q ∈ k_X2_place, Snd RX2 cX2_place none false q.1 q.2 := by
  unfold k_X2_place
  refine List.forall_mem_cons.mpr ⟨snd_iload_n (by decide +kernel : decode cX2_place 0 = .ok (.iload_n 1, 1)) rfl, ?_⟩
  refine List.forall_mem_cons.mpr ⟨snd_iconst (by decide +kernel : decode cX2_place 1 = .ok (.iconst 5, 1)) (by decide +kernel), ?_⟩
  refine List.forall_mem_cons.mpr ⟨snd_imul (by decide +kernel : decode cX2_place 2 = .ok (.imul, 1)), ?_⟩
  refine List.forall_mem_cons.mpr ⟨snd_iload_n (by decide +kernel : decode cX2_place 3 = .ok (.iload_n 2, 1)) rfl, ?_⟩
  refine List.forall_mem_cons.mpr ⟨snd_iadd (by decide +kernel : decode cX2_place 4 = .ok (.iadd, 1)), ?_⟩
  refine List.forall_mem_cons.mpr ⟨snd_istore (by decide +kernel : decode cX2_place 5 = .ok (.istore 4, 2)), ?_⟩
  refine List.forall_mem_cons.mpr ⟨snd_iload (by decide +kernel : decode cX2_place 7 = .ok (.iload 4, 2)), ?_⟩
  refine List.forall_mem_cons.mpr ⟨snd_if_lt (by decide +kernel : decode cX2_place 9 = .ok (.ifCond .lt 21, 3)) (by decide +kernel), ?_⟩
  refine List.forall_mem_cons.mpr ⟨snd_iload (by decide +kernel : decode cX2_place 12 = .ok (.iload 4, 2)), ?_⟩
  refine List.forall_mem_cons.mpr ⟨snd_aload_n (by decide +kernel : decode cX2_place 14 = .ok (.aload_n 0, 1)) rfl, ?_⟩
  refine List.forall_mem_cons.mpr ⟨snd_get fl_2_15 (by decide +kernel : decode cX2_place 15 = .ok (.getfield 15, 3)), ?_⟩
  refine List.forall_mem_cons.mpr ⟨snd_alen (by decide +kernel : decode cX2_place 18 = .ok (.arraylength, 1)), ?_⟩
  refine List.forall_mem_cons.mpr ⟨snd_icmp_ge (by decide +kernel : decode cX2_place 19 = .ok (.if_icmp .ge 11, 3)) (by decide +kernel), ?_⟩
  refine List.forall_mem_cons.mpr ⟨snd_aload_n (by decide +kernel : decode cX2_place 22 = .ok (.aload_n 0, 1)) rfl, ?_⟩
  refine List.forall_mem_cons.mpr ⟨snd_get fl_2_15 (by decide +kernel : decode cX2_place 23 = .ok (.getfield 15, 3)), ?_⟩
  refine List.forall_mem_cons.mpr ⟨snd_iload (by decide +kernel : decode cX2_place 26 = .ok (.iload 4, 2)), ?_⟩
  refine List.forall_mem_cons.mpr ⟨snd_iload_n (by decide +kernel : decode cX2_place 28 = .ok (.iload_n 3, 1)) rfl, ?_⟩
  refine List.forall_mem_cons.mpr ⟨snd_iast (by decide +kernel : decode cX2_place 29 = .ok (.iastore, 1)), ?_⟩
  refine List.forall_mem_cons.mpr ⟨snd_vret (by decide +kernel : decode cX2_place 30 = .ok (.return_, 1)), ?_⟩
  exact fun _ h => absurd h List.not_mem_nil
theorem m_X2_place : ∀ q ∈ k_X2_place, Mono q.2 := by
  unfold k_X2_place
  refine List.forall_mem_cons.mpr ⟨mo_iload _ _, ?_⟩
  refine List.forall_mem_cons.mpr ⟨mo_push _ _, ?_⟩
  refine List.forall_mem_cons.mpr ⟨mo_bin _, ?_⟩
  refine List.forall_mem_cons.mpr ⟨mo_iload _ _, ?_⟩
  refine List.forall_mem_cons.mpr ⟨mo_bin _, ?_⟩
  refine List.forall_mem_cons.mpr ⟨mo_istore _ _, ?_⟩
  refine List.forall_mem_cons.mpr ⟨mo_iload _ _, ?_⟩
  refine List.forall_mem_cons.mpr ⟨mo_if _ _ _, ?_⟩
  refine List.forall_mem_cons.mpr ⟨mo_iload _ _, ?_⟩
  refine List.forall_mem_cons.mpr ⟨mo_aload _ _, ?_⟩
  refine List.forall_mem_cons.mpr ⟨mo_get _ _, ?_⟩
  refine List.forall_mem_cons.mpr ⟨mo_alen, ?_⟩
  refine List.forall_mem_cons.mpr ⟨mo_icmp _ _ _, ?_⟩
  refine List.forall_mem_cons.mpr ⟨mo_aload _ _, ?_⟩
  refine List.forall_mem_cons.mpr ⟨mo_get _ _, ?_⟩
  refine List.forall_mem_cons.mpr ⟨mo_iload _ _, ?_⟩
  refine List.forall_mem_cons.mpr ⟨mo_iload _ _, ?_⟩
  refine List.forall_mem_cons.mpr ⟨mo_iast, ?_⟩
  refine List.forall_mem_cons.mpr ⟨mo_vret, ?_⟩
  exact fun _ h => absurd h List.not_mem_nil
def k_X2_placeAll : List (Nat × aI) := [
  (0, i_push (.int 0) 1),
  (1, i_istore 3 1),
  (2, i_iload 3 1),
  (3, i_aload 0 1),
  (4, i_get 2 4),
  (7, i_icmp (fun x y => x < y) 10 23),
  (10, i_aload 0 1),
  (11, i_iload 1 1),
  (12, i_iload 3 1),
  (13, i_iload 2 1),
  (14, i_callV 31 4 2),
  (17, i_iinc 3 1),
  (20, i_goto 2),
  (23, i_vret)]
theorem s_X2_placeAll : ∀ q ∈ k_X2_placeAll, Snd RX2 cX2_placeAll none false q.1 q.2 := by
  unfold k_X2_placeAll
  refine List.forall_mem_cons.mpr ⟨snd_iconst (by decide +kernel : decode cX2_placeAll 0 = .ok (.iconst 0, 1)) (by decide +kernel), ?_⟩
  refine List.forall_mem_cons.mpr ⟨snd_istore_n (by decide +kernel : decode cX2_placeAll 1 = .ok (.istore_n 3, 1)) rfl, ?_⟩
  refine List.forall_mem_cons.mpr ⟨snd_iload_n (by decide +kernel : decode cX2_placeAll 2 = .ok (.iload_n 3, 1)) rfl, ?_⟩
  refine List.forall_mem_cons.mpr ⟨snd_aload_n (by decide +kernel : decode cX2_placeAll 3 = .ok (.aload_n 0, 1)) rfl, ?_⟩
  refine List.forall_mem_cons.mpr ⟨snd_get fl_2_25 (by decide +kernel : decode cX2_placeAll 4 = .ok (.getfield 25, 3)), ?_⟩
  refine List.forall_mem_cons.mpr ⟨snd_icmp_ge (by decide +kernel : decode cX2_placeAll 7 = .ok (.if_icmp .ge 16, 3)) (by decide +kernel), ?_⟩
  refine List.forall_mem_cons.mpr ⟨snd_aload_n (by decide +kernel : decode cX2_placeAll 10 = .ok (.aload_n 0, 1)) rfl, ?_⟩
  refine List.forall_mem_cons.mpr ⟨snd_iload_n (by decide +kernel : decode cX2_placeAll 11 = .ok (.iload_n 1, 1)) rfl, ?_⟩
  refine List.forall_mem_cons.mpr ⟨snd_iload_n (by decide +kernel : decode cX2_placeAll 12 = .ok (.iload_n 3, 1)) rfl, ?_⟩
  refine List.forall_mem_cons.mpr ⟨snd_iload_n (by decide +kernel : decode cX2_placeAll 13 = .ok (.iload_n 2, 1)) rfl, ?_⟩
  refine List.forall_mem_cons.mpr ⟨snd_callV mok_31 wd_191 wd_84 wd_85 rfl rfl (by decide +kernel : decode cX2_placeAll 14 = .ok (.invokevirtual 54, 3)), ?_⟩
  refine List.forall_mem_cons.mpr ⟨snd_iinc (by decide +kernel : decode cX2_placeAll 17 = .ok (.iinc 3 1, 3)) (by decide +kernel), ?_⟩
  refine List.forall_mem_cons.mpr ⟨snd_goto (by decide +kernel : decode cX2_placeAll 20 = .ok (.goto (-18), 3)) (by decide +kernel), ?_⟩
  refine List.forall_mem_cons.mpr ⟨snd_vret (by decide +kernel : decode cX2_placeAll 23 = .ok (.return_, 1)), ?_⟩
  exact fun _ h => absurd h List.not_mem_nil
theorem m_X2_placeAll : ∀ q ∈ k_X2_placeAll, Mono q.2 := by
  unfold k_X2_placeAll
  refine List.forall_mem_cons.mpr ⟨mo_push _ _, ?_⟩
  refine List.forall_mem_cons.mpr ⟨mo_istore _ _, ?_⟩
  refine List.forall_mem_cons.mpr ⟨mo_iload _ _, ?_⟩
  refine List.forall_mem_cons.mpr ⟨mo_aload _ _, ?_⟩
  refine List.forall_mem_cons.mpr ⟨mo_get _ _, ?_⟩
  refine List.forall_mem_cons.mpr ⟨mo_icmp _ _ _, ?_⟩
  refine List.forall_mem_cons.mpr ⟨mo_aload _ _, ?_⟩
  refine List.forall_mem_cons.mpr ⟨mo_iload _ _, ?_⟩
  refine List.forall_mem_cons.mpr ⟨mo_iload _ _, ?_⟩
  refine List.forall_mem_cons.mpr ⟨mo_iload _ _, ?_⟩
  refine List.forall_mem_cons.mpr ⟨mo_call _ _ _, ?_⟩
  refine List.forall_mem_cons.mpr ⟨mo_iinc _ _, ?_⟩
  refine List.forall_mem_cons.mpr ⟨mo_goto _, ?_⟩
  refine List.forall_mem_cons.mpr ⟨mo_vret, ?_⟩
  exact fun _ h => absurd h List.not_mem_nil
def k_X2_kind : List (Nat × aI) := [
  (0, i_iload 1 1),
  (1, i_if (fun x => x < 0) 22 4),
  (4, i_iload 1 1),
  (5, i_aload 0 1),
  (6, i_get 2 0),
  (9, i_alen),
  (10, i_icmp (fun x y => x < y) 13 22),
  (13, i_aload 0 1),
  (14, i_get 2 0),
  (17, i_iload 1 1),
  (18, i_iald),
  (19, i_goto 24),
  (22, i_push (.int (-4)) 2),
  (24, i_iret)]
theorem s_X2_kind : ∀ q ∈ k_X2_kind, Snd RX2 cX2_kind (some .int) false q.1 q.2 := by
  unfold k_X2_kind
  refine List.forall_mem_cons.mpr ⟨snd_iload_n (by decide +kernel : decode cX2_kind 0 = .ok (.iload_n 1, 1)) rfl, ?_⟩
  refine List.forall_mem_cons.mpr ⟨snd_if_lt (by decide +kernel : decode cX2_kind 1 = .ok (.ifCond .lt 21, 3)) (by decide +kernel), ?_⟩
  refine List.forall_mem_cons.mpr ⟨snd_iload_n (by decide +kernel : decode cX2_kind 4 = .ok (.iload_n 1, 1)) rfl, ?_⟩
  refine List.forall_mem_cons.mpr ⟨snd_aload_n (by decide +kernel : decode cX2_kind 5 = .ok (.aload_n 0, 1)) rfl, ?_⟩
  refine List.forall_mem_cons.mpr ⟨snd_get fl_2_9 (by decide +kernel : decode cX2_kind 6 = .ok (.getfield 9, 3)), ?_⟩
  refine List.forall_mem_cons.mpr ⟨snd_alen (by decide +kernel : decode cX2_kind 9 = .ok (.arraylength, 1)), ?_⟩
  refine List.forall_mem_cons.mpr ⟨snd_icmp_ge (by decide +kernel : decode cX2_kind 10 = .ok (.if_icmp .ge 12, 3)) (by decide +kernel), ?_⟩
  refine List.forall_mem_cons.mpr ⟨snd_aload_n (by decide +kernel : decode cX2_kind 13 = .ok (.aload_n 0, 1)) rfl, ?_⟩
  refine List.forall_mem_cons.mpr ⟨snd_get fl_2_9 (by decide +kernel : decode cX2_kind 14 = .ok (.getfield 9, 3)), ?_⟩
  refine List.forall_mem_cons.mpr ⟨snd_iload_n (by decide +kernel : decode cX2_kind 17 = .ok (.iload_n 1, 1)) rfl, ?_⟩
  refine List.forall_mem_cons.mpr ⟨snd_iald (by decide +kernel : decode cX2_kind 18 = .ok (.iaload, 1)), ?_⟩
  refine List.forall_mem_cons.mpr ⟨snd_goto (by decide +kernel : decode cX2_kind 19 = .ok (.goto 5, 3)) (by decide +kernel), ?_⟩
  refine List.forall_mem_cons.mpr ⟨snd_bipush (by decide +kernel : decode cX2_kind 22 = .ok (.bipush (-4), 2)) (by decide +kernel), ?_⟩
  refine List.forall_mem_cons.mpr ⟨snd_iret (by decide +kernel : decode cX2_kind 24 = .ok (.ireturn, 1)), ?_⟩
  exact fun _ h => absurd h List.not_mem_nil
theorem m_X2_kind : ∀ q ∈ k_X2_kind, Mono q.2 := by
  unfold k_X2_kind
  refine List.forall_mem_cons.mpr ⟨mo_iload _ _, ?_⟩
  refine List.forall_mem_cons.mpr ⟨mo_if _ _ _, ?_⟩
  refine List.forall_mem_cons.mpr ⟨mo_iload _ _, ?_⟩
  refine List.forall_mem_cons.mpr ⟨mo_aload _ _, ?_⟩
  refine List.forall_mem_cons.mpr ⟨mo_get _ _, ?_⟩
  refine List.forall_mem_cons.mpr ⟨mo_alen, ?_⟩
  refine List.forall_mem_cons.mpr ⟨mo_icmp _ _ _, ?_⟩
  refine List.forall_mem_cons.mpr ⟨mo_aload _ _, ?_⟩
  refine List.forall_mem_cons.mpr ⟨mo_get _ _, ?_⟩
  refine List.forall_mem_cons.mpr ⟨mo_iload _ _, ?_⟩
  refine List.forall_mem_cons.mpr ⟨mo_iald, ?_⟩
  refine List.forall_mem_cons.mpr ⟨mo_goto _, ?_⟩
  refine List.forall_mem_cons.mpr ⟨mo_push _ _, ?_⟩
  refine List.forall_mem_cons.mpr ⟨mo_iret, ?_⟩
  exact fun _ h => absurd h List.not_mem_nil
def k_X2_setKind : List (Nat × aI) := [
  (0, i_aload 0 1),
  (1, i_iload 1 1),
  (2, i_callV 28 2 2),
  (5, i_if (fun x => x = 0) 15 8),
  (8, i_aload 0 1),
  (9, i_get 2 0),
  (12, i_iload 1 1),
  (13, i_iload 2 1),
  (14, i_iast),
  (15, i_vret)]
theorem s_X2_setKind : ∀ q ∈ k_X2_setKind, Snd RX2 cX2_setKind none false q.1 q.2 := by
  unfold k_X2_setKind
  refine List.forall_mem_cons.mpr ⟨snd_aload_n (by decide +kernel : decode cX2_setKind 0 = .ok (.aload_n 0, 1)) rfl, ?_⟩
  refine List.forall_mem_cons.mpr ⟨snd_iload_n (by decide +kernel : decode cX2_setKind 1 = .ok (.iload_n 1, 1)) rfl, ?_⟩
  refine List.forall_mem_cons.mpr ⟨snd_callV mok_28 wd_192 wd_153 wd_154 rfl rfl (by decide +kernel : decode cX2_setKind 2 = .ok (.invokevirtual 58, 3)), ?_⟩
  refine List.forall_mem_cons.mpr ⟨snd_if_eq (by decide +kernel : decode cX2_setKind 5 = .ok (.ifCond .eq 10, 3)) (by decide +kernel), ?_⟩
  refine List.forall_mem_cons.mpr ⟨snd_aload_n (by decide +kernel : decode cX2_setKind 8 = .ok (.aload_n 0, 1)) rfl, ?_⟩
  refine List.forall_mem_cons.mpr ⟨snd_get fl_2_9 (by decide +kernel : decode cX2_setKind 9 = .ok (.getfield 9, 3)), ?_⟩
  refine List.forall_mem_cons.mpr ⟨snd_iload_n (by decide +kernel : decode cX2_setKind 12 = .ok (.iload_n 1, 1)) rfl, ?_⟩
  refine List.forall_mem_cons.mpr ⟨snd_iload_n (by decide +kernel : decode cX2_setKind 13 = .ok (.iload_n 2, 1)) rfl, ?_⟩
  refine List.forall_mem_cons.mpr ⟨snd_iast (by decide +kernel : decode cX2_setKind 14 = .ok (.iastore, 1)), ?_⟩
  refine List.forall_mem_cons.mpr ⟨snd_vret (by decide +kernel : decode cX2_setKind 15 = .ok (.return_, 1)), ?_⟩
  exact fun _ h => absurd h List.not_mem_nil
theorem m_X2_setKind : ∀ q ∈ k_X2_setKind, Mono q.2 := by
  unfold k_X2_setKind
  refine List.forall_mem_cons.mpr ⟨mo_aload _ _, ?_⟩
  refine List.forall_mem_cons.mpr ⟨mo_iload _ _, ?_⟩
  refine List.forall_mem_cons.mpr ⟨mo_call _ _ _, ?_⟩
  refine List.forall_mem_cons.mpr ⟨mo_if _ _ _, ?_⟩
  refine List.forall_mem_cons.mpr ⟨mo_aload _ _, ?_⟩
  refine List.forall_mem_cons.mpr ⟨mo_get _ _, ?_⟩
  refine List.forall_mem_cons.mpr ⟨mo_iload _ _, ?_⟩
  refine List.forall_mem_cons.mpr ⟨mo_iload _ _, ?_⟩
  refine List.forall_mem_cons.mpr ⟨mo_iast, ?_⟩
  refine List.forall_mem_cons.mpr ⟨mo_vret, ?_⟩
  exact fun _ h => absurd h List.not_mem_nil
def k_X2_hasMouse : List (Nat × aI) := [
  (0, i_aload 0 1),
  (1, i_get 2 5),
  (4, i_iload 1 1),
  (5, i_bin (fun x y => x >>> (y &&& 31))),
  (6, i_push (.int 1) 1),
  (7, i_bin (fun x y => x &&& y)),
  (8, i_push (.int 1) 1),
  (9, i_icmp (fun x y => x = y) 12 16),
  (12, i_push (.int 1) 1),
  (13, i_goto 17),
  (16, i_push (.int 0) 1),
  (17, i_zret)]
theorem s_X2_hasMouse : ∀ q ∈ k_X2_hasMouse, Snd RX2 cX2_hasMouse (some .boolean) false q.1 q.2 := by
  unfold k_X2_hasMouse
  refine List.forall_mem_cons.mpr ⟨snd_aload_n (by decide +kernel : decode cX2_hasMouse 0 = .ok (.aload_n 0, 1)) rfl, ?_⟩
  refine List.forall_mem_cons.mpr ⟨snd_get fl_2_28 (by decide +kernel : decode cX2_hasMouse 1 = .ok (.getfield 28, 3)), ?_⟩
  refine List.forall_mem_cons.mpr ⟨snd_iload_n (by decide +kernel : decode cX2_hasMouse 4 = .ok (.iload_n 1, 1)) rfl, ?_⟩
  refine List.forall_mem_cons.mpr ⟨snd_ishr (by decide +kernel : decode cX2_hasMouse 5 = .ok (.ishr, 1)), ?_⟩
  refine List.forall_mem_cons.mpr ⟨snd_iconst (by decide +kernel : decode cX2_hasMouse 6 = .ok (.iconst 1, 1)) (by decide +kernel), ?_⟩
  refine List.forall_mem_cons.mpr ⟨snd_iand (by decide +kernel : decode cX2_hasMouse 7 = .ok (.iand, 1)), ?_⟩
  refine List.forall_mem_cons.mpr ⟨snd_iconst (by decide +kernel : decode cX2_hasMouse 8 = .ok (.iconst 1, 1)) (by decide +kernel), ?_⟩
  refine List.forall_mem_cons.mpr ⟨snd_icmp_ne (by decide +kernel : decode cX2_hasMouse 9 = .ok (.if_icmp .ne 7, 3)) (by decide +kernel), ?_⟩
  refine List.forall_mem_cons.mpr ⟨snd_iconst (by decide +kernel : decode cX2_hasMouse 12 = .ok (.iconst 1, 1)) (by decide +kernel), ?_⟩
  refine List.forall_mem_cons.mpr ⟨snd_goto (by decide +kernel : decode cX2_hasMouse 13 = .ok (.goto 4, 3)) (by decide +kernel), ?_⟩
  refine List.forall_mem_cons.mpr ⟨snd_iconst (by decide +kernel : decode cX2_hasMouse 16 = .ok (.iconst 0, 1)) (by decide +kernel), ?_⟩
  refine List.forall_mem_cons.mpr ⟨snd_zret (by decide +kernel : decode cX2_hasMouse 17 = .ok (.ireturn, 1)), ?_⟩
  exact fun _ h => absurd h List.not_mem_nil
theorem m_X2_hasMouse : ∀ q ∈ k_X2_hasMouse, Mono q.2 := by
  unfold k_X2_hasMouse
  refine List.forall_mem_cons.mpr ⟨mo_aload _ _, ?_⟩
  refine List.forall_mem_cons.mpr ⟨mo_get _ _, ?_⟩
  refine List.forall_mem_cons.mpr ⟨mo_iload _ _, ?_⟩
  refine List.forall_mem_cons.mpr ⟨mo_bin _, ?_⟩
  refine List.forall_mem_cons.mpr ⟨mo_push _ _, ?_⟩
  refine List.forall_mem_cons.mpr ⟨mo_bin _, ?_⟩
  refine List.forall_mem_cons.mpr ⟨mo_push _ _, ?_⟩
  refine List.forall_mem_cons.mpr ⟨mo_icmp _ _ _, ?_⟩
  refine List.forall_mem_cons.mpr ⟨mo_push _ _, ?_⟩
  refine List.forall_mem_cons.mpr ⟨mo_goto _, ?_⟩
  refine List.forall_mem_cons.mpr ⟨mo_push _ _, ?_⟩
  refine List.forall_mem_cons.mpr ⟨mo_zret, ?_⟩
  exact fun _ h => absurd h List.not_mem_nil
def k_X2_toggleMouse : List (Nat × aI) := [
  (0, i_aload 0 1),
  (1, i_dup),
  (2, i_get 2 5),
  (5, i_push (.int 1) 1),
  (6, i_iload 1 1),
  (7, i_bin (fun x y => x <<< (y &&& 31))),
  (8, i_bin (fun x y => x ^^^ y)),
  (9, i_put 2 5),
  (12, i_vret)]
theorem s_X2_toggleMouse : ∀ q ∈ k_X2_toggleMouse, Snd RX2 cX2_toggleMouse none false q.1 q.2 := by
  unfold k_X2_toggleMouse
  refine List.forall_mem_cons.mpr ⟨snd_aload_n (by decide +kernel : decode cX2_toggleMouse 0 = .ok (.aload_n 0, 1)) rfl, ?_⟩
  refine List.forall_mem_cons.mpr ⟨snd_dup (by decide +kernel : decode cX2_toggleMouse 1 = .ok (.dup, 1)), ?_⟩
  refine List.forall_mem_cons.mpr ⟨snd_get fl_2_28 (by decide +kernel : decode cX2_toggleMouse 2 = .ok (.getfield 28, 3)), ?_⟩
  refine List.forall_mem_cons.mpr ⟨snd_iconst (by decide +kernel : decode cX2_toggleMouse 5 = .ok (.iconst 1, 1)) (by decide +kernel), ?_⟩
  refine List.forall_mem_cons.mpr ⟨snd_iload_n (by decide +kernel : decode cX2_toggleMouse 6 = .ok (.iload_n 1, 1)) rfl, ?_⟩
  refine List.forall_mem_cons.mpr ⟨snd_ishl (by decide +kernel : decode cX2_toggleMouse 7 = .ok (.ishl, 1)), ?_⟩
  refine List.forall_mem_cons.mpr ⟨snd_ixor (by decide +kernel : decode cX2_toggleMouse 8 = .ok (.ixor, 1)), ?_⟩
  refine List.forall_mem_cons.mpr ⟨snd_put fl_2_28 (by decide +kernel : decode cX2_toggleMouse 9 = .ok (.putfield 28, 3)), ?_⟩
  refine List.forall_mem_cons.mpr ⟨snd_vret (by decide +kernel : decode cX2_toggleMouse 12 = .ok (.return_, 1)), ?_⟩
  exact fun _ h => absurd h List.not_mem_nil
theorem m_X2_toggleMouse : ∀ q ∈ k_X2_toggleMouse, Mono q.2 := by
  unfold k_X2_toggleMouse
  refine List.forall_mem_cons.mpr ⟨mo_aload _ _, ?_⟩
  refine List.forall_mem_cons.mpr ⟨mo_dup, ?_⟩
  refine List.forall_mem_cons.mpr ⟨mo_get _ _, ?_⟩
  refine List.forall_mem_cons.mpr ⟨mo_push _ _, ?_⟩
  refine List.forall_mem_cons.mpr ⟨mo_iload _ _, ?_⟩
  refine List.forall_mem_cons.mpr ⟨mo_bin _, ?_⟩
  refine List.forall_mem_cons.mpr ⟨mo_bin _, ?_⟩
  refine List.forall_mem_cons.mpr ⟨mo_put _ _, ?_⟩
  refine List.forall_mem_cons.mpr ⟨mo_vret, ?_⟩
  exact fun _ h => absurd h List.not_mem_nil
def k_X2_mice : List (Nat × aI) := [
  (0, i_aload 0 1),
  (1, i_get 2 5),
  (4, i_callS 181 1),
  (7, i_iret)]
theorem s_X2_mice : ∀ q ∈ k_X2_mice, Snd RX2 cX2_mice (some .int) false q.1 q.2 := by
  unfold k_X2_mice
  refine List.forall_mem_cons.mpr ⟨snd_aload_n (by decide +kernel : decode cX2_mice 0 = .ok (.aload_n 0, 1)) rfl, ?_⟩
  refine List.forall_mem_cons.mpr ⟨snd_get fl_2_28 (by decide +kernel : decode cX2_mice 1 = .ok (.getfield 28, 3)), ?_⟩
  refine List.forall_mem_cons.mpr ⟨snd_callS mok_181 wd_193 wd_26 (by decide +kernel : decode cX2_mice 4 = .ok (.invokestatic 61, 3)), ?_⟩
  refine List.forall_mem_cons.mpr ⟨snd_iret (by decide +kernel : decode cX2_mice 7 = .ok (.ireturn, 1)), ?_⟩
  exact fun _ h => absurd h List.not_mem_nil
theorem m_X2_mice : ∀ q ∈ k_X2_mice, Mono q.2 := by
  unfold k_X2_mice
  refine List.forall_mem_cons.mpr ⟨mo_aload _ _, ?_⟩
  refine List.forall_mem_cons.mpr ⟨mo_get _ _, ?_⟩
  refine List.forall_mem_cons.mpr ⟨mo_call _ _ _, ?_⟩
  refine List.forall_mem_cons.mpr ⟨mo_iret, ?_⟩
  exact fun _ h => absurd h List.not_mem_nil
def k_X2_wish : List (Nat × aI) := [
  (0, i_aload 0 1),
  (1, i_iload 1 1),
  (2, i_callV 29 2 2),
  (5, i_if (fun x => x = 0) 17 8),
  (8, i_aload 0 1),
  (9, i_get 2 2),
  (12, i_iload 1 1),
  (13, i_iald),
  (14, i_goto 19),
  (17, i_push (.int 10) 2),
  (19, i_iret)]
theorem s_X2_wish : ∀ q ∈ k_X2_wish, Snd RX2 cX2_wish (some .int) false q.1 q.2 := by
  unfold k_X2_wish
  refine List.forall_mem_cons.mpr ⟨snd_aload_n (by decide +kernel : decode cX2_wish 0 = .ok (.aload_n 0, 1)) rfl, ?_⟩
  refine List.forall_mem_cons.mpr ⟨snd_iload_n (by decide +kernel : decode cX2_wish 1 = .ok (.iload_n 1, 1)) rfl, ?_⟩
  refine List.forall_mem_cons.mpr ⟨snd_callV mok_29 wd_194 wd_164 wd_165 rfl rfl (by decide +kernel : decode cX2_wish 2 = .ok (.invokevirtual 67, 3)), ?_⟩
  refine List.forall_mem_cons.mpr ⟨snd_if_eq (by decide +kernel : decode cX2_wish 5 = .ok (.ifCond .eq 12, 3)) (by decide +kernel), ?_⟩
  refine List.forall_mem_cons.mpr ⟨snd_aload_n (by decide +kernel : decode cX2_wish 8 = .ok (.aload_n 0, 1)) rfl, ?_⟩
  refine List.forall_mem_cons.mpr ⟨snd_get fl_2_18 (by decide +kernel : decode cX2_wish 9 = .ok (.getfield 18, 3)), ?_⟩
  refine List.forall_mem_cons.mpr ⟨snd_iload_n (by decide +kernel : decode cX2_wish 12 = .ok (.iload_n 1, 1)) rfl, ?_⟩
  refine List.forall_mem_cons.mpr ⟨snd_iald (by decide +kernel : decode cX2_wish 13 = .ok (.iaload, 1)), ?_⟩
  refine List.forall_mem_cons.mpr ⟨snd_goto (by decide +kernel : decode cX2_wish 14 = .ok (.goto 5, 3)) (by decide +kernel), ?_⟩
  refine List.forall_mem_cons.mpr ⟨snd_bipush (by decide +kernel : decode cX2_wish 17 = .ok (.bipush 10, 2)) (by decide +kernel), ?_⟩
  refine List.forall_mem_cons.mpr ⟨snd_iret (by decide +kernel : decode cX2_wish 19 = .ok (.ireturn, 1)), ?_⟩
  exact fun _ h => absurd h List.not_mem_nil
theorem m_X2_wish : ∀ q ∈ k_X2_wish, Mono q.2 := by
  unfold k_X2_wish
  refine List.forall_mem_cons.mpr ⟨mo_aload _ _, ?_⟩
  refine List.forall_mem_cons.mpr ⟨mo_iload _ _, ?_⟩
  refine List.forall_mem_cons.mpr ⟨mo_call _ _ _, ?_⟩
  refine List.forall_mem_cons.mpr ⟨mo_if _ _ _, ?_⟩
  refine List.forall_mem_cons.mpr ⟨mo_aload _ _, ?_⟩
  refine List.forall_mem_cons.mpr ⟨mo_get _ _, ?_⟩
  refine List.forall_mem_cons.mpr ⟨mo_iload _ _, ?_⟩
  refine List.forall_mem_cons.mpr ⟨mo_iald, ?_⟩
  refine List.forall_mem_cons.mpr ⟨mo_goto _, ?_⟩
  refine List.forall_mem_cons.mpr ⟨mo_push _ _, ?_⟩
  refine List.forall_mem_cons.mpr ⟨mo_iret, ?_⟩
  exact fun _ h => absurd h List.not_mem_nil
def k_X2_setWish : List (Nat × aI) := [
  (0, i_aload 0 1),
  (1, i_iload 1 1),
  (2, i_callV 29 2 2),
  (5, i_if (fun x => x = 0) 15 8),
  (8, i_aload 0 1),
  (9, i_get 2 2),
  (12, i_iload 1 1),
  (13, i_iload 2 1),
  (14, i_iast),
  (15, i_vret)]
theorem s_X2_setWish : ∀ q ∈ k_X2_setWish, Snd RX2 cX2_setWish none false q.1 q.2 := by
  unfold k_X2_setWish
  refine List.forall_mem_cons.mpr ⟨snd_aload_n (by decide +kernel : decode cX2_setWish 0 = .ok (.aload_n 0, 1)) rfl, ?_⟩
  refine List.forall_mem_cons.mpr ⟨snd_iload_n (by decide +kernel : decode cX2_setWish 1 = .ok (.iload_n 1, 1)) rfl, ?_⟩
  refine List.forall_mem_cons.mpr ⟨snd_callV mok_29 wd_194 wd_164 wd_165 rfl rfl (by decide +kernel : decode cX2_setWish 2 = .ok (.invokevirtual 67, 3)), ?_⟩
  refine List.forall_mem_cons.mpr ⟨snd_if_eq (by decide +kernel : decode cX2_setWish 5 = .ok (.ifCond .eq 10, 3)) (by decide +kernel), ?_⟩
  refine List.forall_mem_cons.mpr ⟨snd_aload_n (by decide +kernel : decode cX2_setWish 8 = .ok (.aload_n 0, 1)) rfl, ?_⟩
  refine List.forall_mem_cons.mpr ⟨snd_get fl_2_18 (by decide +kernel : decode cX2_setWish 9 = .ok (.getfield 18, 3)), ?_⟩
  refine List.forall_mem_cons.mpr ⟨snd_iload_n (by decide +kernel : decode cX2_setWish 12 = .ok (.iload_n 1, 1)) rfl, ?_⟩
  refine List.forall_mem_cons.mpr ⟨snd_iload_n (by decide +kernel : decode cX2_setWish 13 = .ok (.iload_n 2, 1)) rfl, ?_⟩
  refine List.forall_mem_cons.mpr ⟨snd_iast (by decide +kernel : decode cX2_setWish 14 = .ok (.iastore, 1)), ?_⟩
  refine List.forall_mem_cons.mpr ⟨snd_vret (by decide +kernel : decode cX2_setWish 15 = .ok (.return_, 1)), ?_⟩
  exact fun _ h => absurd h List.not_mem_nil
theorem m_X2_setWish : ∀ q ∈ k_X2_setWish, Mono q.2 := by
  unfold k_X2_setWish
  refine List.forall_mem_cons.mpr ⟨mo_aload _ _, ?_⟩
  refine List.forall_mem_cons.mpr ⟨mo_iload _ _, ?_⟩
  refine List.forall_mem_cons.mpr ⟨mo_call _ _ _, ?_⟩
  refine List.forall_mem_cons.mpr ⟨mo_if _ _ _, ?_⟩
  refine List.forall_mem_cons.mpr ⟨mo_aload _ _, ?_⟩
  refine List.forall_mem_cons.mpr ⟨mo_get _ _, ?_⟩
  refine List.forall_mem_cons.mpr ⟨mo_iload _ _, ?_⟩
  refine List.forall_mem_cons.mpr ⟨mo_iload _ _, ?_⟩
  refine List.forall_mem_cons.mpr ⟨mo_iast, ?_⟩
  refine List.forall_mem_cons.mpr ⟨mo_vret, ?_⟩
  exact fun _ h => absurd h List.not_mem_nil
def k_X2_wishes : List (Nat × aI) := [
  (0, i_push (.int 0) 1),
  (1, i_istore 1 1),
  (2, i_push (.int 0) 1),
  (3, i_istore 2 1),
  (4, i_iload 2 1),
  (5, i_aload 0 1),
  (6, i_get 2 4),
  (9, i_icmp (fun x y => x < y) 12 31),
  (12, i_aload 0 1),
  (13, i_iload 2 1),
  (14, i_callV 38 2 2),
  (17, i_push (.int 10) 2),
  (19, i_icmp (fun x y => x = y) 25 22),
  (22, i_iinc 1 1),
  (25, i_iinc 2 1),
  (28, i_goto 4),
  (31, i_iload 1 1),
  (32, i_iret)]
theorem s_X2_wishes : ∀ q ∈ k_X2_wishes, Snd RX2 cX2_wishes (some .int) false q.1 q.2 := by
  unfold k_X2_wishes
  refine List.forall_mem_cons.mpr ⟨snd_iconst (by decide +kernel : decode cX2_wishes 0 = .ok (.iconst 0, 1)) (by decide +kernel), ?_⟩
  refine List.forall_mem_cons.mpr ⟨snd_istore_n (by decide +kernel : decode cX2_wishes 1 = .ok (.istore_n 1, 1)) rfl, ?_⟩
  refine List.forall_mem_cons.mpr ⟨snd_iconst (by decide +kernel : decode cX2_wishes 2 = .ok (.iconst 0, 1)) (by decide +kernel), ?_⟩
  refine List.forall_mem_cons.mpr ⟨snd_istore_n (by decide +kernel : decode cX2_wishes 3 = .ok (.istore_n 2, 1)) rfl, ?_⟩
  refine List.forall_mem_cons.mpr ⟨snd_iload_n (by decide +kernel : decode cX2_wishes 4 = .ok (.iload_n 2, 1)) rfl, ?_⟩
  refine List.forall_mem_cons.mpr ⟨snd_aload_n (by decide +kernel : decode cX2_wishes 5 = .ok (.aload_n 0, 1)) rfl, ?_⟩
  refine List.forall_mem_cons.mpr ⟨snd_get fl_2_25 (by decide +kernel : decode cX2_wishes 6 = .ok (.getfield 25, 3)), ?_⟩
  refine List.forall_mem_cons.mpr ⟨snd_icmp_ge (by decide +kernel : decode cX2_wishes 9 = .ok (.if_icmp .ge 22, 3)) (by decide +kernel), ?_⟩
  refine List.forall_mem_cons.mpr ⟨snd_aload_n (by decide +kernel : decode cX2_wishes 12 = .ok (.aload_n 0, 1)) rfl, ?_⟩
  refine List.forall_mem_cons.mpr ⟨snd_iload_n (by decide +kernel : decode cX2_wishes 13 = .ok (.iload_n 2, 1)) rfl, ?_⟩
  refine List.forall_mem_cons.mpr ⟨snd_callV mok_38 wd_195 wd_198 wd_199 rfl rfl (by decide +kernel : decode cX2_wishes 14 = .ok (.invokevirtual 70, 3)), ?_⟩
  refine List.forall_mem_cons.mpr ⟨snd_bipush (by decide +kernel : decode cX2_wishes 17 = .ok (.bipush 10, 2)) (by decide +kernel), ?_⟩
  refine List.forall_mem_cons.mpr ⟨snd_icmp_eq (by decide +kernel : decode cX2_wishes 19 = .ok (.if_icmp .eq 6, 3)) (by decide +kernel), ?_⟩
  refine List.forall_mem_cons.mpr ⟨snd_iinc (by decide +kernel : decode cX2_wishes 22 = .ok (.iinc 1 1, 3)) (by decide +kernel), ?_⟩
  refine List.forall_mem_cons.mpr ⟨snd_iinc (by decide +kernel : decode cX2_wishes 25 = .ok (.iinc 2 1, 3)) (by decide +kernel), ?_⟩
  refine List.forall_mem_cons.mpr ⟨snd_goto (by decide +kernel : decode cX2_wishes 28 = .ok (.goto (-24), 3)) (by decide +kernel), ?_⟩
  refine List.forall_mem_cons.mpr ⟨snd_iload_n (by decide +kernel : decode cX2_wishes 31 = .ok (.iload_n 1, 1)) rfl, ?_⟩
  refine List.forall_mem_cons.mpr ⟨snd_iret (by decide +kernel : decode cX2_wishes 32 = .ok (.ireturn, 1)), ?_⟩
  exact fun _ h => absurd h List.not_mem_nil
theorem m_X2_wishes : ∀ q ∈ k_X2_wishes, Mono q.2 := by
  unfold k_X2_wishes
  refine List.forall_mem_cons.mpr ⟨mo_push _ _, ?_⟩
  refine List.forall_mem_cons.mpr ⟨mo_istore _ _, ?_⟩
  refine List.forall_mem_cons.mpr ⟨mo_push _ _, ?_⟩
  refine List.forall_mem_cons.mpr ⟨mo_istore _ _, ?_⟩
  refine List.forall_mem_cons.mpr ⟨mo_iload _ _, ?_⟩
  refine List.forall_mem_cons.mpr ⟨mo_aload _ _, ?_⟩
  refine List.forall_mem_cons.mpr ⟨mo_get _ _, ?_⟩
  refine List.forall_mem_cons.mpr ⟨mo_icmp _ _ _, ?_⟩
  refine List.forall_mem_cons.mpr ⟨mo_aload _ _, ?_⟩
  refine List.forall_mem_cons.mpr ⟨mo_iload _ _, ?_⟩
  refine List.forall_mem_cons.mpr ⟨mo_call _ _ _, ?_⟩
  refine List.forall_mem_cons.mpr ⟨mo_push _ _, ?_⟩
  refine List.forall_mem_cons.mpr ⟨mo_icmp _ _ _, ?_⟩
  refine List.forall_mem_cons.mpr ⟨mo_iinc _ _, ?_⟩
  refine List.forall_mem_cons.mpr ⟨mo_iinc _ _, ?_⟩
  refine List.forall_mem_cons.mpr ⟨mo_goto _, ?_⟩
  refine List.forall_mem_cons.mpr ⟨mo_iload _ _, ?_⟩
  refine List.forall_mem_cons.mpr ⟨mo_iret, ?_⟩
  exact fun _ h => absurd h List.not_mem_nil
def k_X2_metRooms : List (Nat × aI) := [
  (0, i_push (.int 0) 1),
  (1, i_istore 1 1),
  (2, i_push (.int 0) 1),
  (3, i_istore 2 1),
  (4, i_iload 2 1),
  (5, i_aload 0 1),
  (6, i_get 2 4),
  (9, i_icmp (fun x y => x < y) 12 38),
  (12, i_aload 0 1),
  (13, i_iload 2 1),
  (14, i_callV 38 2 2),
  (17, i_aload 0 1),
  (18, i_push (.int 0) 1),
  (19, i_iload 2 1),
  (20, i_callV 30 3 2),
  (23, i_icmp (fun x y => x = y) 26 32),
  (26, i_iload 1 1),
  (27, i_push (.int 1) 1),
  (28, i_iload 2 1),
  (29, i_bin (fun x y => x <<< (y &&& 31))),
  (30, i_bin (fun x y => x ||| y)),
  (31, i_istore 1 1),
  (32, i_iinc 2 1),
  (35, i_goto 4),
  (38, i_iload 1 1),
  (39, i_iret)]
theorem s_X2_metRooms : ∀ q ∈ k_X2_metRooms, Snd RX2 cX2_metRooms (some .int) false q.1 q.2 := by
  unfold k_X2_metRooms
  refine List.forall_mem_cons.mpr ⟨snd_iconst (by decide +kernel : decode cX2_metRooms 0 = .ok (.iconst 0, 1)) (by decide +kernel), ?_⟩
  refine List.forall_mem_cons.mpr ⟨snd_istore_n (by decide +kernel : decode cX2_metRooms 1 = .ok (.istore_n 1, 1)) rfl, ?_⟩
  refine List.forall_mem_cons.mpr ⟨snd_iconst (by decide +kernel : decode cX2_metRooms 2 = .ok (.iconst 0, 1)) (by decide +kernel), ?_⟩
  refine List.forall_mem_cons.mpr ⟨snd_istore_n (by decide +kernel : decode cX2_metRooms 3 = .ok (.istore_n 2, 1)) rfl, ?_⟩
  refine List.forall_mem_cons.mpr ⟨snd_iload_n (by decide +kernel : decode cX2_metRooms 4 = .ok (.iload_n 2, 1)) rfl, ?_⟩
  refine List.forall_mem_cons.mpr ⟨snd_aload_n (by decide +kernel : decode cX2_metRooms 5 = .ok (.aload_n 0, 1)) rfl, ?_⟩
  refine List.forall_mem_cons.mpr ⟨snd_get fl_2_25 (by decide +kernel : decode cX2_metRooms 6 = .ok (.getfield 25, 3)), ?_⟩
  refine List.forall_mem_cons.mpr ⟨snd_icmp_ge (by decide +kernel : decode cX2_metRooms 9 = .ok (.if_icmp .ge 29, 3)) (by decide +kernel), ?_⟩
  refine List.forall_mem_cons.mpr ⟨snd_aload_n (by decide +kernel : decode cX2_metRooms 12 = .ok (.aload_n 0, 1)) rfl, ?_⟩
  refine List.forall_mem_cons.mpr ⟨snd_iload_n (by decide +kernel : decode cX2_metRooms 13 = .ok (.iload_n 2, 1)) rfl, ?_⟩
  refine List.forall_mem_cons.mpr ⟨snd_callV mok_38 wd_195 wd_198 wd_199 rfl rfl (by decide +kernel : decode cX2_metRooms 14 = .ok (.invokevirtual 70, 3)), ?_⟩
  refine List.forall_mem_cons.mpr ⟨snd_aload_n (by decide +kernel : decode cX2_metRooms 17 = .ok (.aload_n 0, 1)) rfl, ?_⟩
  refine List.forall_mem_cons.mpr ⟨snd_iconst (by decide +kernel : decode cX2_metRooms 18 = .ok (.iconst 0, 1)) (by decide +kernel), ?_⟩
  refine List.forall_mem_cons.mpr ⟨snd_iload_n (by decide +kernel : decode cX2_metRooms 19 = .ok (.iload_n 2, 1)) rfl, ?_⟩
  refine List.forall_mem_cons.mpr ⟨snd_callV mok_30 wd_200 wd_58 wd_59 rfl rfl (by decide +kernel : decode cX2_metRooms 20 = .ok (.invokevirtual 73, 3)), ?_⟩
  refine List.forall_mem_cons.mpr ⟨snd_icmp_ne (by decide +kernel : decode cX2_metRooms 23 = .ok (.if_icmp .ne 9, 3)) (by decide +kernel), ?_⟩
  refine List.forall_mem_cons.mpr ⟨snd_iload_n (by decide +kernel : decode cX2_metRooms 26 = .ok (.iload_n 1, 1)) rfl, ?_⟩
  refine List.forall_mem_cons.mpr ⟨snd_iconst (by decide +kernel : decode cX2_metRooms 27 = .ok (.iconst 1, 1)) (by decide +kernel), ?_⟩
  refine List.forall_mem_cons.mpr ⟨snd_iload_n (by decide +kernel : decode cX2_metRooms 28 = .ok (.iload_n 2, 1)) rfl, ?_⟩
  refine List.forall_mem_cons.mpr ⟨snd_ishl (by decide +kernel : decode cX2_metRooms 29 = .ok (.ishl, 1)), ?_⟩
  refine List.forall_mem_cons.mpr ⟨snd_ior (by decide +kernel : decode cX2_metRooms 30 = .ok (.ior, 1)), ?_⟩
  refine List.forall_mem_cons.mpr ⟨snd_istore_n (by decide +kernel : decode cX2_metRooms 31 = .ok (.istore_n 1, 1)) rfl, ?_⟩
  refine List.forall_mem_cons.mpr ⟨snd_iinc (by decide +kernel : decode cX2_metRooms 32 = .ok (.iinc 2 1, 3)) (by decide +kernel), ?_⟩
  refine List.forall_mem_cons.mpr ⟨snd_goto (by decide +kernel : decode cX2_metRooms 35 = .ok (.goto (-31), 3)) (by decide +kernel), ?_⟩
  refine List.forall_mem_cons.mpr ⟨snd_iload_n (by decide +kernel : decode cX2_metRooms 38 = .ok (.iload_n 1, 1)) rfl, ?_⟩
  refine List.forall_mem_cons.mpr ⟨snd_iret (by decide +kernel : decode cX2_metRooms 39 = .ok (.ireturn, 1)), ?_⟩
  exact fun _ h => absurd h List.not_mem_nil
theorem m_X2_metRooms : ∀ q ∈ k_X2_metRooms, Mono q.2 := by
  unfold k_X2_metRooms
  refine List.forall_mem_cons.mpr ⟨mo_push _ _, ?_⟩
  refine List.forall_mem_cons.mpr ⟨mo_istore _ _, ?_⟩
  refine List.forall_mem_cons.mpr ⟨mo_push _ _, ?_⟩
  refine List.forall_mem_cons.mpr ⟨mo_istore _ _, ?_⟩
  refine List.forall_mem_cons.mpr ⟨mo_iload _ _, ?_⟩
  refine List.forall_mem_cons.mpr ⟨mo_aload _ _, ?_⟩
  refine List.forall_mem_cons.mpr ⟨mo_get _ _, ?_⟩
  refine List.forall_mem_cons.mpr ⟨mo_icmp _ _ _, ?_⟩
  refine List.forall_mem_cons.mpr ⟨mo_aload _ _, ?_⟩
  refine List.forall_mem_cons.mpr ⟨mo_iload _ _, ?_⟩
  refine List.forall_mem_cons.mpr ⟨mo_call _ _ _, ?_⟩
  refine List.forall_mem_cons.mpr ⟨mo_aload _ _, ?_⟩
  refine List.forall_mem_cons.mpr ⟨mo_push _ _, ?_⟩
  refine List.forall_mem_cons.mpr ⟨mo_iload _ _, ?_⟩
  refine List.forall_mem_cons.mpr ⟨mo_call _ _ _, ?_⟩
  refine List.forall_mem_cons.mpr ⟨mo_icmp _ _ _, ?_⟩
  refine List.forall_mem_cons.mpr ⟨mo_iload _ _, ?_⟩
  refine List.forall_mem_cons.mpr ⟨mo_push _ _, ?_⟩
  refine List.forall_mem_cons.mpr ⟨mo_iload _ _, ?_⟩
  refine List.forall_mem_cons.mpr ⟨mo_bin _, ?_⟩
  refine List.forall_mem_cons.mpr ⟨mo_bin _, ?_⟩
  refine List.forall_mem_cons.mpr ⟨mo_istore _ _, ?_⟩
  refine List.forall_mem_cons.mpr ⟨mo_iinc _ _, ?_⟩
  refine List.forall_mem_cons.mpr ⟨mo_goto _, ?_⟩
  refine List.forall_mem_cons.mpr ⟨mo_iload _ _, ?_⟩
  refine List.forall_mem_cons.mpr ⟨mo_iret, ?_⟩
  exact fun _ h => absurd h List.not_mem_nil
def k_X2_day : List (Nat × aI) := [
  (0, i_aload 0 1),
  (1, i_get 2 6),
  (4, i_iret)]
theorem s_X2_day : ∀ q ∈ k_X2_day, Snd RX2 cX2_day (some .int) false q.1 q.2 := by
  unfold k_X2_day
  refine List.forall_mem_cons.mpr ⟨snd_aload_n (by decide +kernel : decode cX2_day 0 = .ok (.aload_n 0, 1)) rfl, ?_⟩
  refine List.forall_mem_cons.mpr ⟨snd_get fl_2_31 (by decide +kernel : decode cX2_day 1 = .ok (.getfield 31, 3)), ?_⟩
  refine List.forall_mem_cons.mpr ⟨snd_iret (by decide +kernel : decode cX2_day 4 = .ok (.ireturn, 1)), ?_⟩
  exact fun _ h => absurd h List.not_mem_nil
theorem m_X2_day : ∀ q ∈ k_X2_day, Mono q.2 := by
  unfold k_X2_day
  refine List.forall_mem_cons.mpr ⟨mo_aload _ _, ?_⟩
  refine List.forall_mem_cons.mpr ⟨mo_get _ _, ?_⟩
  refine List.forall_mem_cons.mpr ⟨mo_iret, ?_⟩
  exact fun _ h => absurd h List.not_mem_nil
def k_X2_addDays : List (Nat × aI) := [
  (0, i_aload 0 1),
  (1, i_dup),
  (2, i_get 2 6),
  (5, i_iload 1 1),
  (6, i_bin (fun x y => x + y)),
  (7, i_put 2 6),
  (10, i_vret)]
theorem s_X2_addDays : ∀ q ∈ k_X2_addDays, Snd RX2 cX2_addDays none false q.1 q.2 := by
  unfold k_X2_addDays
  refine List.forall_mem_cons.mpr ⟨snd_aload_n (by decide +kernel : decode cX2_addDays 0 = .ok (.aload_n 0, 1)) rfl, ?_⟩
  refine List.forall_mem_cons.mpr ⟨snd_dup (by decide +kernel : decode cX2_addDays 1 = .ok (.dup, 1)), ?_⟩
  refine List.forall_mem_cons.mpr ⟨snd_get fl_2_31 (by decide +kernel : decode cX2_addDays 2 = .ok (.getfield 31, 3)), ?_⟩
  refine List.forall_mem_cons.mpr ⟨snd_iload_n (by decide +kernel : decode cX2_addDays 5 = .ok (.iload_n 1, 1)) rfl, ?_⟩
  refine List.forall_mem_cons.mpr ⟨snd_iadd (by decide +kernel : decode cX2_addDays 6 = .ok (.iadd, 1)), ?_⟩
  refine List.forall_mem_cons.mpr ⟨snd_put fl_2_31 (by decide +kernel : decode cX2_addDays 7 = .ok (.putfield 31, 3)), ?_⟩
  refine List.forall_mem_cons.mpr ⟨snd_vret (by decide +kernel : decode cX2_addDays 10 = .ok (.return_, 1)), ?_⟩
  exact fun _ h => absurd h List.not_mem_nil
theorem m_X2_addDays : ∀ q ∈ k_X2_addDays, Mono q.2 := by
  unfold k_X2_addDays
  refine List.forall_mem_cons.mpr ⟨mo_aload _ _, ?_⟩
  refine List.forall_mem_cons.mpr ⟨mo_dup, ?_⟩
  refine List.forall_mem_cons.mpr ⟨mo_get _ _, ?_⟩
  refine List.forall_mem_cons.mpr ⟨mo_iload _ _, ?_⟩
  refine List.forall_mem_cons.mpr ⟨mo_bin _, ?_⟩
  refine List.forall_mem_cons.mpr ⟨mo_put _ _, ?_⟩
  refine List.forall_mem_cons.mpr ⟨mo_vret, ?_⟩
  exact fun _ h => absurd h List.not_mem_nil
def k_X2_shift : List (Nat × aI) := [
  (0, i_aload 0 1),
  (1, i_iload 1 1),
  (2, i_aload 0 1),
  (3, i_get 2 4),
  (6, i_push (.int 1) 1),
  (7, i_bin (fun x y => x - y)),
  (8, i_callV 30 3 2),
  (11, i_istore 2 1),
  (12, i_aload 0 1),
  (13, i_get 2 4),
  (16, i_push (.int 1) 1),
  (17, i_bin (fun x y => x - y)),
  (18, i_istore 3 1),
  (19, i_iload 3 1),
  (20, i_if (fun x => 0 < x) 23 43),
  (23, i_aload 0 1),
  (24, i_iload 1 1),
  (25, i_iload 3 1),
  (26, i_aload 0 1),
  (27, i_iload 1 1),
  (28, i_iload 3 1),
  (29, i_push (.int 1) 1),
  (30, i_bin (fun x y => x - y)),
  (31, i_callV 30 3 2),
  (34, i_callV 31 4 2),
  (37, i_iinc 3 (-1)),
  (40, i_goto 19),
  (43, i_aload 0 1),
  (44, i_iload 1 1),
  (45, i_push (.int 0) 1),
  (46, i_iload 2 1),
  (47, i_callV 31 4 2),
  (50, i_vret)]
theorem s_X2_shift : ∀ q ∈ k_X2_shift, Snd RX2 cX2_shift none false q.1 q.2 := by
  unfold k_X2_shift
  refine List.forall_mem_cons.mpr ⟨snd_aload_n (by decide +kernel : decode cX2_shift 0 = .ok (.aload_n 0, 1)) rfl, ?_⟩
  refine List.forall_mem_cons.mpr ⟨snd_iload_n (by decide +kernel : decode cX2_shift 1 = .ok (.iload_n 1, 1)) rfl, ?_⟩
  refine List.forall_mem_cons.mpr ⟨snd_aload_n (by decide +kernel : decode cX2_shift 2 = .ok (.aload_n 0, 1)) rfl, ?_⟩
  refine List.forall_mem_cons.mpr ⟨snd_get fl_2_25 (by decide +kernel : decode cX2_shift 3 = .ok (.getfield 25, 3)), ?_⟩
  refine List.forall_mem_cons.mpr ⟨snd_iconst (by decide +kernel : decode cX2_shift 6 = .ok (.iconst 1, 1)) (by decide +kernel), ?_⟩
  refine List.forall_mem_cons.mpr ⟨snd_isub (by decide +kernel : decode cX2_shift 7 = .ok (.isub, 1)), ?_⟩
  refine List.forall_mem_cons.mpr ⟨snd_callV mok_30 wd_200 wd_58 wd_59 rfl rfl (by decide +kernel : decode cX2_shift 8 = .ok (.invokevirtual 73, 3)), ?_⟩
  refine List.forall_mem_cons.mpr ⟨snd_istore_n (by decide +kernel : decode cX2_shift 11 = .ok (.istore_n 2, 1)) rfl, ?_⟩
  refine List.forall_mem_cons.mpr ⟨snd_aload_n (by decide +kernel : decode cX2_shift 12 = .ok (.aload_n 0, 1)) rfl, ?_⟩
  refine List.forall_mem_cons.mpr ⟨snd_get fl_2_25 (by decide +kernel : decode cX2_shift 13 = .ok (.getfield 25, 3)), ?_⟩
  refine List.forall_mem_cons.mpr ⟨snd_iconst (by decide +kernel : decode cX2_shift 16 = .ok (.iconst 1, 1)) (by decide +kernel), ?_⟩
  refine List.forall_mem_cons.mpr ⟨snd_isub (by decide +kernel : decode cX2_shift 17 = .ok (.isub, 1)), ?_⟩
  refine List.forall_mem_cons.mpr ⟨snd_istore_n (by decide +kernel : decode cX2_shift 18 = .ok (.istore_n 3, 1)) rfl, ?_⟩
  refine List.forall_mem_cons.mpr ⟨snd_iload_n (by decide +kernel : decode cX2_shift 19 = .ok (.iload_n 3, 1)) rfl, ?_⟩
  refine List.forall_mem_cons.mpr ⟨snd_if_le (by decide +kernel : decode cX2_shift 20 = .ok (.ifCond .le 23, 3)) (by decide +kernel), ?_⟩
  refine List.forall_mem_cons.mpr ⟨snd_aload_n (by decide +kernel : decode cX2_shift 23 = .ok (.aload_n 0, 1)) rfl, ?_⟩
  refine List.forall_mem_cons.mpr ⟨snd_iload_n (by decide +kernel : decode cX2_shift 24 = .ok (.iload_n 1, 1)) rfl, ?_⟩
  refine List.forall_mem_cons.mpr ⟨snd_iload_n (by decide +kernel : decode cX2_shift 25 = .ok (.iload_n 3, 1)) rfl, ?_⟩
  refine List.forall_mem_cons.mpr ⟨snd_aload_n (by decide +kernel : decode cX2_shift 26 = .ok (.aload_n 0, 1)) rfl, ?_⟩
  refine List.forall_mem_cons.mpr ⟨snd_iload_n (by decide +kernel : decode cX2_shift 27 = .ok (.iload_n 1, 1)) rfl, ?_⟩
  refine List.forall_mem_cons.mpr ⟨snd_iload_n (by decide +kernel : decode cX2_shift 28 = .ok (.iload_n 3, 1)) rfl, ?_⟩
  refine List.forall_mem_cons.mpr ⟨snd_iconst (by decide +kernel : decode cX2_shift 29 = .ok (.iconst 1, 1)) (by decide +kernel), ?_⟩
  refine List.forall_mem_cons.mpr ⟨snd_isub (by decide +kernel : decode cX2_shift 30 = .ok (.isub, 1)), ?_⟩
  refine List.forall_mem_cons.mpr ⟨snd_callV mok_30 wd_200 wd_58 wd_59 rfl rfl (by decide +kernel : decode cX2_shift 31 = .ok (.invokevirtual 73, 3)), ?_⟩
  refine List.forall_mem_cons.mpr ⟨snd_callV mok_31 wd_191 wd_84 wd_85 rfl rfl (by decide +kernel : decode cX2_shift 34 = .ok (.invokevirtual 54, 3)), ?_⟩
  refine List.forall_mem_cons.mpr ⟨snd_iinc (by decide +kernel : decode cX2_shift 37 = .ok (.iinc 3 (-1), 3)) (by decide +kernel), ?_⟩
  refine List.forall_mem_cons.mpr ⟨snd_goto (by decide +kernel : decode cX2_shift 40 = .ok (.goto (-21), 3)) (by decide +kernel), ?_⟩
  refine List.forall_mem_cons.mpr ⟨snd_aload_n (by decide +kernel : decode cX2_shift 43 = .ok (.aload_n 0, 1)) rfl, ?_⟩
  refine List.forall_mem_cons.mpr ⟨snd_iload_n (by decide +kernel : decode cX2_shift 44 = .ok (.iload_n 1, 1)) rfl, ?_⟩
  refine List.forall_mem_cons.mpr ⟨snd_iconst (by decide +kernel : decode cX2_shift 45 = .ok (.iconst 0, 1)) (by decide +kernel), ?_⟩
  refine List.forall_mem_cons.mpr ⟨snd_iload_n (by decide +kernel : decode cX2_shift 46 = .ok (.iload_n 2, 1)) rfl, ?_⟩
  refine List.forall_mem_cons.mpr ⟨snd_callV mok_31 wd_191 wd_84 wd_85 rfl rfl (by decide +kernel : decode cX2_shift 47 = .ok (.invokevirtual 54, 3)), ?_⟩
  refine List.forall_mem_cons.mpr ⟨snd_vret (by decide +kernel : decode cX2_shift 50 = .ok (.return_, 1)), ?_⟩
  exact fun _ h => absurd h List.not_mem_nil
theorem m_X2_shift : ∀ q ∈ k_X2_shift, Mono q.2 := by
  unfold k_X2_shift
  refine List.forall_mem_cons.mpr ⟨mo_aload _ _, ?_⟩
  refine List.forall_mem_cons.mpr ⟨mo_iload _ _, ?_⟩
  refine List.forall_mem_cons.mpr ⟨mo_aload _ _, ?_⟩
  refine List.forall_mem_cons.mpr ⟨mo_get _ _, ?_⟩
  refine List.forall_mem_cons.mpr ⟨mo_push _ _, ?_⟩
  refine List.forall_mem_cons.mpr ⟨mo_bin _, ?_⟩
  refine List.forall_mem_cons.mpr ⟨mo_call _ _ _, ?_⟩
  refine List.forall_mem_cons.mpr ⟨mo_istore _ _, ?_⟩
  refine List.forall_mem_cons.mpr ⟨mo_aload _ _, ?_⟩
  refine List.forall_mem_cons.mpr ⟨mo_get _ _, ?_⟩
  refine List.forall_mem_cons.mpr ⟨mo_push _ _, ?_⟩
  refine List.forall_mem_cons.mpr ⟨mo_bin _, ?_⟩
  refine List.forall_mem_cons.mpr ⟨mo_istore _ _, ?_⟩
  refine List.forall_mem_cons.mpr ⟨mo_iload _ _, ?_⟩
  refine List.forall_mem_cons.mpr ⟨mo_if _ _ _, ?_⟩
  refine List.forall_mem_cons.mpr ⟨mo_aload _ _, ?_⟩
  refine List.forall_mem_cons.mpr ⟨mo_iload _ _, ?_⟩
  refine List.forall_mem_cons.mpr ⟨mo_iload _ _, ?_⟩
  refine List.forall_mem_cons.mpr ⟨mo_aload _ _, ?_⟩
  refine List.forall_mem_cons.mpr ⟨mo_iload _ _, ?_⟩
  refine List.forall_mem_cons.mpr ⟨mo_iload _ _, ?_⟩
  refine List.forall_mem_cons.mpr ⟨mo_push _ _, ?_⟩
  refine List.forall_mem_cons.mpr ⟨mo_bin _, ?_⟩
  refine List.forall_mem_cons.mpr ⟨mo_call _ _ _, ?_⟩
  refine List.forall_mem_cons.mpr ⟨mo_call _ _ _, ?_⟩
  refine List.forall_mem_cons.mpr ⟨mo_iinc _ _, ?_⟩
  refine List.forall_mem_cons.mpr ⟨mo_goto _, ?_⟩
  refine List.forall_mem_cons.mpr ⟨mo_aload _ _, ?_⟩
  refine List.forall_mem_cons.mpr ⟨mo_iload _ _, ?_⟩
  refine List.forall_mem_cons.mpr ⟨mo_push _ _, ?_⟩
  refine List.forall_mem_cons.mpr ⟨mo_iload _ _, ?_⟩
  refine List.forall_mem_cons.mpr ⟨mo_call _ _ _, ?_⟩
  refine List.forall_mem_cons.mpr ⟨mo_vret, ?_⟩
  exact fun _ h => absurd h List.not_mem_nil
def k_X2_comeUp : List (Nat × aI) := [
  (0, i_push (.int 0) 1),
  (1, i_istore 1 1),
  (2, i_push (.int 0) 1),
  (3, i_istore 2 1),
  (4, i_iload 2 1),
  (5, i_push (.int 1) 1),
  (6, i_bin (fun x y => x + y)),
  (7, i_aload 0 1),
  (8, i_get 2 3),
  (11, i_icmp (fun x y => x < y) 14 38),
  (14, i_aload 0 1),
  (15, i_iload 2 1),
  (16, i_callV 35 2 2),
  (19, i_if (fun x => x = 0) 22 32),
  (22, i_aload 0 1),
  (23, i_iload 2 1),
  (24, i_callV 47 2 2),
  (27, i_if (fun x => x = 0) 32 30),
  (30, i_push (.int 1) 1),
  (31, i_istore 1 1),
  (32, i_iinc 2 1),
  (35, i_goto 4),
  (38, i_iload 1 1),
  (39, i_zret)]
theorem s_X2_comeUp : ∀ q ∈ k_X2_comeUp, Snd RX2 cX2_comeUp (some .boolean) false q.1 q.2 := by
  unfold k_X2_comeUp
  refine List.forall_mem_cons.mpr ⟨snd_iconst (by decide +kernel : decode cX2_comeUp 0 = .ok (.iconst 0, 1)) (by decide +kernel), ?_⟩
  refine List.forall_mem_cons.mpr ⟨snd_istore_n (by decide +kernel : decode cX2_comeUp 1 = .ok (.istore_n 1, 1)) rfl, ?_⟩
  refine List.forall_mem_cons.mpr ⟨snd_iconst (by decide +kernel : decode cX2_comeUp 2 = .ok (.iconst 0, 1)) (by decide +kernel), ?_⟩
  refine List.forall_mem_cons.mpr ⟨snd_istore_n (by decide +kernel : decode cX2_comeUp 3 = .ok (.istore_n 2, 1)) rfl, ?_⟩
  refine List.forall_mem_cons.mpr ⟨snd_iload_n (by decide +kernel : decode cX2_comeUp 4 = .ok (.iload_n 2, 1)) rfl, ?_⟩
  refine List.forall_mem_cons.mpr ⟨snd_iconst (by decide +kernel : decode cX2_comeUp 5 = .ok (.iconst 1, 1)) (by decide +kernel), ?_⟩
  refine List.forall_mem_cons.mpr ⟨snd_iadd (by decide +kernel : decode cX2_comeUp 6 = .ok (.iadd, 1)), ?_⟩
  refine List.forall_mem_cons.mpr ⟨snd_aload_n (by decide +kernel : decode cX2_comeUp 7 = .ok (.aload_n 0, 1)) rfl, ?_⟩
  refine List.forall_mem_cons.mpr ⟨snd_get fl_2_21 (by decide +kernel : decode cX2_comeUp 8 = .ok (.getfield 21, 3)), ?_⟩
  refine List.forall_mem_cons.mpr ⟨snd_icmp_ge (by decide +kernel : decode cX2_comeUp 11 = .ok (.if_icmp .ge 27, 3)) (by decide +kernel), ?_⟩
  refine List.forall_mem_cons.mpr ⟨snd_aload_n (by decide +kernel : decode cX2_comeUp 14 = .ok (.aload_n 0, 1)) rfl, ?_⟩
  refine List.forall_mem_cons.mpr ⟨snd_iload_n (by decide +kernel : decode cX2_comeUp 15 = .ok (.iload_n 2, 1)) rfl, ?_⟩
  refine List.forall_mem_cons.mpr ⟨snd_callV mok_35 wd_201 wd_158 wd_159 rfl rfl (by decide +kernel : decode cX2_comeUp 16 = .ok (.invokevirtual 77, 3)), ?_⟩
  refine List.forall_mem_cons.mpr ⟨snd_if_ne (by decide +kernel : decode cX2_comeUp 19 = .ok (.ifCond .ne 13, 3)) (by decide +kernel), ?_⟩
  refine List.forall_mem_cons.mpr ⟨snd_aload_n (by decide +kernel : decode cX2_comeUp 22 = .ok (.aload_n 0, 1)) rfl, ?_⟩
  refine List.forall_mem_cons.mpr ⟨snd_iload_n (by decide +kernel : decode cX2_comeUp 23 = .ok (.iload_n 2, 1)) rfl, ?_⟩
  refine List.forall_mem_cons.mpr ⟨snd_callV mok_47 wd_202 wd_205 wd_206 rfl rfl (by decide +kernel : decode cX2_comeUp 24 = .ok (.invokevirtual 80, 3)), ?_⟩
  refine List.forall_mem_cons.mpr ⟨snd_if_eq (by decide +kernel : decode cX2_comeUp 27 = .ok (.ifCond .eq 5, 3)) (by decide +kernel), ?_⟩
  refine List.forall_mem_cons.mpr ⟨snd_iconst (by decide +kernel : decode cX2_comeUp 30 = .ok (.iconst 1, 1)) (by decide +kernel), ?_⟩
  refine List.forall_mem_cons.mpr ⟨snd_istore_n (by decide +kernel : decode cX2_comeUp 31 = .ok (.istore_n 1, 1)) rfl, ?_⟩
  refine List.forall_mem_cons.mpr ⟨snd_iinc (by decide +kernel : decode cX2_comeUp 32 = .ok (.iinc 2 1, 3)) (by decide +kernel), ?_⟩
  refine List.forall_mem_cons.mpr ⟨snd_goto (by decide +kernel : decode cX2_comeUp 35 = .ok (.goto (-31), 3)) (by decide +kernel), ?_⟩
  refine List.forall_mem_cons.mpr ⟨snd_iload_n (by decide +kernel : decode cX2_comeUp 38 = .ok (.iload_n 1, 1)) rfl, ?_⟩
  refine List.forall_mem_cons.mpr ⟨snd_zret (by decide +kernel : decode cX2_comeUp 39 = .ok (.ireturn, 1)), ?_⟩
  exact fun _ h => absurd h List.not_mem_nil
theorem m_X2_comeUp : ∀ q ∈ k_X2_comeUp, Mono q.2 := by
  unfold k_X2_comeUp
  refine List.forall_mem_cons.mpr ⟨mo_push _ _, ?_⟩
  refine List.forall_mem_cons.mpr ⟨mo_istore _ _, ?_⟩
  refine List.forall_mem_cons.mpr ⟨mo_push _ _, ?_⟩
  refine List.forall_mem_cons.mpr ⟨mo_istore _ _, ?_⟩
  refine List.forall_mem_cons.mpr ⟨mo_iload _ _, ?_⟩
  refine List.forall_mem_cons.mpr ⟨mo_push _ _, ?_⟩
  refine List.forall_mem_cons.mpr ⟨mo_bin _, ?_⟩
  refine List.forall_mem_cons.mpr ⟨mo_aload _ _, ?_⟩
  refine List.forall_mem_cons.mpr ⟨mo_get _ _, ?_⟩
  refine List.forall_mem_cons.mpr ⟨mo_icmp _ _ _, ?_⟩
  refine List.forall_mem_cons.mpr ⟨mo_aload _ _, ?_⟩
  refine List.forall_mem_cons.mpr ⟨mo_iload _ _, ?_⟩
  refine List.forall_mem_cons.mpr ⟨mo_call _ _ _, ?_⟩
  refine List.forall_mem_cons.mpr ⟨mo_if _ _ _, ?_⟩
  refine List.forall_mem_cons.mpr ⟨mo_aload _ _, ?_⟩
  refine List.forall_mem_cons.mpr ⟨mo_iload _ _, ?_⟩
  refine List.forall_mem_cons.mpr ⟨mo_call _ _ _, ?_⟩
  refine List.forall_mem_cons.mpr ⟨mo_if _ _ _, ?_⟩
  refine List.forall_mem_cons.mpr ⟨mo_push _ _, ?_⟩
  refine List.forall_mem_cons.mpr ⟨mo_istore _ _, ?_⟩
  refine List.forall_mem_cons.mpr ⟨mo_iinc _ _, ?_⟩
  refine List.forall_mem_cons.mpr ⟨mo_goto _, ?_⟩
  refine List.forall_mem_cons.mpr ⟨mo_iload _ _, ?_⟩
  refine List.forall_mem_cons.mpr ⟨mo_zret, ?_⟩
  exact fun _ h => absurd h List.not_mem_nil
def k_X2_live : List (Nat × aI) := [
  (0, i_push (.int 1) 1),
  (1, i_istore 2 1),
  (2, i_push (.int 0) 1),
  (3, i_istore 3 1),
  (4, i_iload 3 1),
  (5, i_iload 1 1),
  (6, i_icmp (fun x y => x < y) 9 24),
  (9, i_iload 2 1),
  (10, i_if (fun x => x = 0) 24 13),
  (13, i_aload 0 1),
  (14, i_callV 45 1 2),
  (17, i_istore 2 1),
  (18, i_iinc 3 1),
  (21, i_goto 4),
  (24, i_vret)]
theorem s_X2_live : ∀ q ∈ k_X2_live, Snd RX2 cX2_live none false q.1 q.2 := by
  unfold k_X2_live
  refine List.forall_mem_cons.mpr ⟨snd_iconst (by decide +kernel : decode cX2_live 0 = .ok (.iconst 1, 1)) (by decide +kernel), ?_⟩
  refine List.forall_mem_cons.mpr ⟨snd_istore_n (by decide +kernel : decode cX2_live 1 = .ok (.istore_n 2, 1)) rfl, ?_⟩
  refine List.forall_mem_cons.mpr ⟨snd_iconst (by decide +kernel : decode cX2_live 2 = .ok (.iconst 0, 1)) (by decide +kernel), ?_⟩
  refine List.forall_mem_cons.mpr ⟨snd_istore_n (by decide +kernel : decode cX2_live 3 = .ok (.istore_n 3, 1)) rfl, ?_⟩
  refine List.forall_mem_cons.mpr ⟨snd_iload_n (by decide +kernel : decode cX2_live 4 = .ok (.iload_n 3, 1)) rfl, ?_⟩
  refine List.forall_mem_cons.mpr ⟨snd_iload_n (by decide +kernel : decode cX2_live 5 = .ok (.iload_n 1, 1)) rfl, ?_⟩
  refine List.forall_mem_cons.mpr ⟨snd_icmp_ge (by decide +kernel : decode cX2_live 6 = .ok (.if_icmp .ge 18, 3)) (by decide +kernel), ?_⟩
  refine List.forall_mem_cons.mpr ⟨snd_iload_n (by decide +kernel : decode cX2_live 9 = .ok (.iload_n 2, 1)) rfl, ?_⟩
  refine List.forall_mem_cons.mpr ⟨snd_if_eq (by decide +kernel : decode cX2_live 10 = .ok (.ifCond .eq 14, 3)) (by decide +kernel), ?_⟩
  refine List.forall_mem_cons.mpr ⟨snd_aload_n (by decide +kernel : decode cX2_live 13 = .ok (.aload_n 0, 1)) rfl, ?_⟩
  refine List.forall_mem_cons.mpr ⟨snd_callV mok_45 wd_207 wd_53 wd_54 rfl rfl (by decide +kernel : decode cX2_live 14 = .ok (.invokevirtual 83, 3)), ?_⟩
  refine List.forall_mem_cons.mpr ⟨snd_istore_n (by decide +kernel : decode cX2_live 17 = .ok (.istore_n 2, 1)) rfl, ?_⟩
  refine List.forall_mem_cons.mpr ⟨snd_iinc (by decide +kernel : decode cX2_live 18 = .ok (.iinc 3 1, 3)) (by decide +kernel), ?_⟩
  refine List.forall_mem_cons.mpr ⟨snd_goto (by decide +kernel : decode cX2_live 21 = .ok (.goto (-17), 3)) (by decide +kernel), ?_⟩
  refine List.forall_mem_cons.mpr ⟨snd_vret (by decide +kernel : decode cX2_live 24 = .ok (.return_, 1)), ?_⟩
  exact fun _ h => absurd h List.not_mem_nil
theorem m_X2_live : ∀ q ∈ k_X2_live, Mono q.2 := by
  unfold k_X2_live
  refine List.forall_mem_cons.mpr ⟨mo_push _ _, ?_⟩
  refine List.forall_mem_cons.mpr ⟨mo_istore _ _, ?_⟩
  refine List.forall_mem_cons.mpr ⟨mo_push _ _, ?_⟩
  refine List.forall_mem_cons.mpr ⟨mo_istore _ _, ?_⟩
  refine List.forall_mem_cons.mpr ⟨mo_iload _ _, ?_⟩
  refine List.forall_mem_cons.mpr ⟨mo_iload _ _, ?_⟩
  refine List.forall_mem_cons.mpr ⟨mo_icmp _ _ _, ?_⟩
  refine List.forall_mem_cons.mpr ⟨mo_iload _ _, ?_⟩
  refine List.forall_mem_cons.mpr ⟨mo_if _ _ _, ?_⟩
  refine List.forall_mem_cons.mpr ⟨mo_aload _ _, ?_⟩
  refine List.forall_mem_cons.mpr ⟨mo_call _ _ _, ?_⟩
  refine List.forall_mem_cons.mpr ⟨mo_istore _ _, ?_⟩
  refine List.forall_mem_cons.mpr ⟨mo_iinc _ _, ?_⟩
  refine List.forall_mem_cons.mpr ⟨mo_goto _, ?_⟩
  refine List.forall_mem_cons.mpr ⟨mo_vret, ?_⟩
  exact fun _ h => absurd h List.not_mem_nil
def k_X2_takeFromWithin : List (Nat × aI) := [
  (0, i_push (.int 0) 1),
  (1, i_istore 2 1),
  (2, i_push (.int 0) 1),
  (3, i_istore 3 1),
  (4, i_iload 3 1),
  (5, i_aload 0 1),
  (6, i_get 2 4),
  (9, i_icmp (fun x y => x < y) 12 47),
  (12, i_aload 0 1),
  (13, i_iload 1 1),
  (14, i_iload 3 1),
  (15, i_callV 48 3 2),
  (18, i_istore 4 2),
  (20, i_iload 4 2),
  (22, i_aload 0 1),
  (23, i_iload 1 1),
  (24, i_iload 3 1),
  (25, i_callV 30 3 2),
  (28, i_icmp (fun x y => x = y) 41 31),
  (31, i_aload 0 1),
  (32, i_iload 1 1),
  (33, i_iload 3 1),
  (34, i_iload 4 2),
  (36, i_callV 31 4 2),
  (39, i_push (.int 1) 1),
  (40, i_istore 2 1),
  (41, i_iinc 3 1),
  (44, i_goto 4),
  (47, i_iload 2 1),
  (48, i_zret)]
theorem s_X2_takeFromWithin : ∀ q ∈ k_X2_takeFromWithin, Snd RX2 cX2_takeFromWithin (some .boolean) false q.1 q.2 := by
  unfold k_X2_takeFromWithin
  refine List.forall_mem_cons.mpr ⟨snd_iconst (by decide +kernel : decode cX2_takeFromWithin 0 = .ok (.iconst 0, 1)) (by decide +kernel), ?_⟩
  refine List.forall_mem_cons.mpr ⟨snd_istore_n (by decide +kernel : decode cX2_takeFromWithin 1 = .ok (.istore_n 2, 1)) rfl, ?_⟩
  refine List.forall_mem_cons.mpr ⟨snd_iconst (by decide +kernel : decode cX2_takeFromWithin 2 = .ok (.iconst 0, 1)) (by decide +kernel), ?_⟩
  refine List.forall_mem_cons.mpr ⟨snd_istore_n (by decide +kernel : decode cX2_takeFromWithin 3 = .ok (.istore_n 3, 1)) rfl, ?_⟩
  refine List.forall_mem_cons.mpr ⟨snd_iload_n (by decide +kernel : decode cX2_takeFromWithin 4 = .ok (.iload_n 3, 1)) rfl, ?_⟩
  refine List.forall_mem_cons.mpr ⟨snd_aload_n (by decide +kernel : decode cX2_takeFromWithin 5 = .ok (.aload_n 0, 1)) rfl, ?_⟩
  refine List.forall_mem_cons.mpr ⟨snd_get fl_2_25 (by decide +kernel : decode cX2_takeFromWithin 6 = .ok (.getfield 25, 3)), ?_⟩
  refine List.forall_mem_cons.mpr ⟨snd_icmp_ge (by decide +kernel : decode cX2_takeFromWithin 9 = .ok (.if_icmp .ge 38, 3)) (by decide +kernel), ?_⟩
  refine List.forall_mem_cons.mpr ⟨snd_aload_n (by decide +kernel : decode cX2_takeFromWithin 12 = .ok (.aload_n 0, 1)) rfl, ?_⟩
  refine List.forall_mem_cons.mpr ⟨snd_iload_n (by decide +kernel : decode cX2_takeFromWithin 13 = .ok (.iload_n 1, 1)) rfl, ?_⟩
  refine List.forall_mem_cons.mpr ⟨snd_iload_n (by decide +kernel : decode cX2_takeFromWithin 14 = .ok (.iload_n 3, 1)) rfl, ?_⟩
  refine List.forall_mem_cons.mpr ⟨snd_callV mok_48 wd_208 wd_211 wd_212 rfl rfl (by decide +kernel : decode cX2_takeFromWithin 15 = .ok (.invokevirtual 87, 3)), ?_⟩
  refine List.forall_mem_cons.mpr ⟨snd_istore (by decide +kernel : decode cX2_takeFromWithin 18 = .ok (.istore 4, 2)), ?_⟩
  refine List.forall_mem_cons.mpr ⟨snd_iload (by decide +kernel : decode cX2_takeFromWithin 20 = .ok (.iload 4, 2)), ?_⟩
  refine List.forall_mem_cons.mpr ⟨snd_aload_n (by decide +kernel : decode cX2_takeFromWithin 22 = .ok (.aload_n 0, 1)) rfl, ?_⟩
  refine List.forall_mem_cons.mpr ⟨snd_iload_n (by decide +kernel : decode cX2_takeFromWithin 23 = .ok (.iload_n 1, 1)) rfl, ?_⟩
  refine List.forall_mem_cons.mpr ⟨snd_iload_n (by decide +kernel : decode cX2_takeFromWithin 24 = .ok (.iload_n 3, 1)) rfl, ?_⟩
  refine List.forall_mem_cons.mpr ⟨snd_callV mok_30 wd_200 wd_58 wd_59 rfl rfl (by decide +kernel : decode cX2_takeFromWithin 25 = .ok (.invokevirtual 73, 3)), ?_⟩
  refine List.forall_mem_cons.mpr ⟨snd_icmp_eq (by decide +kernel : decode cX2_takeFromWithin 28 = .ok (.if_icmp .eq 13, 3)) (by decide +kernel), ?_⟩
  refine List.forall_mem_cons.mpr ⟨snd_aload_n (by decide +kernel : decode cX2_takeFromWithin 31 = .ok (.aload_n 0, 1)) rfl, ?_⟩
  refine List.forall_mem_cons.mpr ⟨snd_iload_n (by decide +kernel : decode cX2_takeFromWithin 32 = .ok (.iload_n 1, 1)) rfl, ?_⟩
  refine List.forall_mem_cons.mpr ⟨snd_iload_n (by decide +kernel : decode cX2_takeFromWithin 33 = .ok (.iload_n 3, 1)) rfl, ?_⟩
  refine List.forall_mem_cons.mpr ⟨snd_iload (by decide +kernel : decode cX2_takeFromWithin 34 = .ok (.iload 4, 2)), ?_⟩
  refine List.forall_mem_cons.mpr ⟨snd_callV mok_31 wd_191 wd_84 wd_85 rfl rfl (by decide +kernel : decode cX2_takeFromWithin 36 = .ok (.invokevirtual 54, 3)), ?_⟩
  refine List.forall_mem_cons.mpr ⟨snd_iconst (by decide +kernel : decode cX2_takeFromWithin 39 = .ok (.iconst 1, 1)) (by decide +kernel), ?_⟩
  refine List.forall_mem_cons.mpr ⟨snd_istore_n (by decide +kernel : decode cX2_takeFromWithin 40 = .ok (.istore_n 2, 1)) rfl, ?_⟩
  refine List.forall_mem_cons.mpr ⟨snd_iinc (by decide +kernel : decode cX2_takeFromWithin 41 = .ok (.iinc 3 1, 3)) (by decide +kernel), ?_⟩
  refine List.forall_mem_cons.mpr ⟨snd_goto (by decide +kernel : decode cX2_takeFromWithin 44 = .ok (.goto (-40), 3)) (by decide +kernel), ?_⟩
  refine List.forall_mem_cons.mpr ⟨snd_iload_n (by decide +kernel : decode cX2_takeFromWithin 47 = .ok (.iload_n 2, 1)) rfl, ?_⟩
  refine List.forall_mem_cons.mpr ⟨snd_zret (by decide +kernel : decode cX2_takeFromWithin 48 = .ok (.ireturn, 1)), ?_⟩
  exact fun _ h => absurd h List.not_mem_nil
theorem m_X2_takeFromWithin : ∀ q ∈ k_X2_takeFromWithin, Mono q.2 := by
  unfold k_X2_takeFromWithin
  refine List.forall_mem_cons.mpr ⟨mo_push _ _, ?_⟩
  refine List.forall_mem_cons.mpr ⟨mo_istore _ _, ?_⟩
  refine List.forall_mem_cons.mpr ⟨mo_push _ _, ?_⟩
  refine List.forall_mem_cons.mpr ⟨mo_istore _ _, ?_⟩
  refine List.forall_mem_cons.mpr ⟨mo_iload _ _, ?_⟩
  refine List.forall_mem_cons.mpr ⟨mo_aload _ _, ?_⟩
  refine List.forall_mem_cons.mpr ⟨mo_get _ _, ?_⟩
  refine List.forall_mem_cons.mpr ⟨mo_icmp _ _ _, ?_⟩
  refine List.forall_mem_cons.mpr ⟨mo_aload _ _, ?_⟩
  refine List.forall_mem_cons.mpr ⟨mo_iload _ _, ?_⟩
  refine List.forall_mem_cons.mpr ⟨mo_iload _ _, ?_⟩
  refine List.forall_mem_cons.mpr ⟨mo_call _ _ _, ?_⟩
  refine List.forall_mem_cons.mpr ⟨mo_istore _ _, ?_⟩
  refine List.forall_mem_cons.mpr ⟨mo_iload _ _, ?_⟩
  refine List.forall_mem_cons.mpr ⟨mo_aload _ _, ?_⟩
  refine List.forall_mem_cons.mpr ⟨mo_iload _ _, ?_⟩
  refine List.forall_mem_cons.mpr ⟨mo_iload _ _, ?_⟩
  refine List.forall_mem_cons.mpr ⟨mo_call _ _ _, ?_⟩
  refine List.forall_mem_cons.mpr ⟨mo_icmp _ _ _, ?_⟩
  refine List.forall_mem_cons.mpr ⟨mo_aload _ _, ?_⟩
  refine List.forall_mem_cons.mpr ⟨mo_iload _ _, ?_⟩
  refine List.forall_mem_cons.mpr ⟨mo_iload _ _, ?_⟩
  refine List.forall_mem_cons.mpr ⟨mo_iload _ _, ?_⟩
  refine List.forall_mem_cons.mpr ⟨mo_call _ _ _, ?_⟩
  refine List.forall_mem_cons.mpr ⟨mo_push _ _, ?_⟩
  refine List.forall_mem_cons.mpr ⟨mo_istore _ _, ?_⟩
  refine List.forall_mem_cons.mpr ⟨mo_iinc _ _, ?_⟩
  refine List.forall_mem_cons.mpr ⟨mo_goto _, ?_⟩
  refine List.forall_mem_cons.mpr ⟨mo_iload _ _, ?_⟩
  refine List.forall_mem_cons.mpr ⟨mo_zret, ?_⟩
  exact fun _ h => absurd h List.not_mem_nil
def k_X2_nextThing : List (Nat × aI) := [
  (0, i_aload 0 1),
  (1, i_iload 1 1),
  (2, i_callV 33 2 2),
  (5, i_istore 3 1),
  (6, i_aload 0 1),
  (7, i_iload 1 1),
  (8, i_push (.int 1) 1),
  (9, i_bin (fun x y => x + y)),
  (10, i_iload 3 1),
  (11, i_push (.int 3) 1),
  (12, i_icmp (fun x y => x = y) 15 23),
  (15, i_aload 0 1),
  (16, i_iload 2 1),
  (17, i_callV 50 2 2),
  (20, i_goto 24),
  (23, i_iload 2 1),
  (24, i_callV 30 3 2),
  (27, i_istore 4 2),
  (29, i_iload 3 1),
  (30, i_push (.int 2) 1),
  (31, i_icmp (fun x y => x = y) 34 40),
  (34, i_push (.int 9) 2),
  (36, i_iload 4 2),
  (38, i_bin (fun x y => x - y)),
  (39, i_iret),
  (40, i_iload 3 1),
  (41, i_push (.int 1) 1),
  (42, i_icmp (fun x y => x = y) 45 59),
  (45, i_aload 0 1),
  (46, i_iload 1 1),
  (47, i_iload 2 1),
  (48, i_callV 30 3 2),
  (51, i_iload 4 2),
  (53, i_callS 49 2),
  (56, i_goto 61),
  (59, i_iload 4 2),
  (61, i_iret)]
theorem s_X2_nextThing : ∀ q ∈ k_X2_nextThing, Snd RX2 cX2_nextThing (some .int) false q.1 q.2 := by
  unfold k_X2_nextThing
  refine List.forall_mem_cons.mpr ⟨snd_aload_n (by decide +kernel : decode cX2_nextThing 0 = .ok (.aload_n 0, 1)) rfl, ?_⟩
  refine List.forall_mem_cons.mpr ⟨snd_iload_n (by decide +kernel : decode cX2_nextThing 1 = .ok (.iload_n 1, 1)) rfl, ?_⟩
  refine List.forall_mem_cons.mpr ⟨snd_callV mok_33 wd_213 wd_216 wd_217 rfl rfl (by decide +kernel : decode cX2_nextThing 2 = .ok (.invokevirtual 90, 3)), ?_⟩
  refine List.forall_mem_cons.mpr ⟨snd_istore_n (by decide +kernel : decode cX2_nextThing 5 = .ok (.istore_n 3, 1)) rfl, ?_⟩
  refine List.forall_mem_cons.mpr ⟨snd_aload_n (by decide +kernel : decode cX2_nextThing 6 = .ok (.aload_n 0, 1)) rfl, ?_⟩
  refine List.forall_mem_cons.mpr ⟨snd_iload_n (by decide +kernel : decode cX2_nextThing 7 = .ok (.iload_n 1, 1)) rfl, ?_⟩
  refine List.forall_mem_cons.mpr ⟨snd_iconst (by decide +kernel : decode cX2_nextThing 8 = .ok (.iconst 1, 1)) (by decide +kernel), ?_⟩
  refine List.forall_mem_cons.mpr ⟨snd_iadd (by decide +kernel : decode cX2_nextThing 9 = .ok (.iadd, 1)), ?_⟩
  refine List.forall_mem_cons.mpr ⟨snd_iload_n (by decide +kernel : decode cX2_nextThing 10 = .ok (.iload_n 3, 1)) rfl, ?_⟩
  refine List.forall_mem_cons.mpr ⟨snd_iconst (by decide +kernel : decode cX2_nextThing 11 = .ok (.iconst 3, 1)) (by decide +kernel), ?_⟩
  refine List.forall_mem_cons.mpr ⟨snd_icmp_ne (by decide +kernel : decode cX2_nextThing 12 = .ok (.if_icmp .ne 11, 3)) (by decide +kernel), ?_⟩
  refine List.forall_mem_cons.mpr ⟨snd_aload_n (by decide +kernel : decode cX2_nextThing 15 = .ok (.aload_n 0, 1)) rfl, ?_⟩
  refine List.forall_mem_cons.mpr ⟨snd_iload_n (by decide +kernel : decode cX2_nextThing 16 = .ok (.iload_n 2, 1)) rfl, ?_⟩
  refine List.forall_mem_cons.mpr ⟨snd_callV mok_50 wd_218 wd_221 wd_222 rfl rfl (by decide +kernel : decode cX2_nextThing 17 = .ok (.invokevirtual 93, 3)), ?_⟩
  refine List.forall_mem_cons.mpr ⟨snd_goto (by decide +kernel : decode cX2_nextThing 20 = .ok (.goto 4, 3)) (by decide +kernel), ?_⟩
  refine List.forall_mem_cons.mpr ⟨snd_iload_n (by decide +kernel : decode cX2_nextThing 23 = .ok (.iload_n 2, 1)) rfl, ?_⟩
  refine List.forall_mem_cons.mpr ⟨snd_callV mok_30 wd_200 wd_58 wd_59 rfl rfl (by decide +kernel : decode cX2_nextThing 24 = .ok (.invokevirtual 73, 3)), ?_⟩
  refine List.forall_mem_cons.mpr ⟨snd_istore (by decide +kernel : decode cX2_nextThing 27 = .ok (.istore 4, 2)), ?_⟩
  refine List.forall_mem_cons.mpr ⟨snd_iload_n (by decide +kernel : decode cX2_nextThing 29 = .ok (.iload_n 3, 1)) rfl, ?_⟩
  refine List.forall_mem_cons.mpr ⟨snd_iconst (by decide +kernel : decode cX2_nextThing 30 = .ok (.iconst 2, 1)) (by decide +kernel), ?_⟩
  refine List.forall_mem_cons.mpr ⟨snd_icmp_ne (by decide +kernel : decode cX2_nextThing 31 = .ok (.if_icmp .ne 9, 3)) (by decide +kernel), ?_⟩
  refine List.forall_mem_cons.mpr ⟨snd_bipush (by decide +kernel : decode cX2_nextThing 34 = .ok (.bipush 9, 2)) (by decide +kernel), ?_⟩
  refine List.forall_mem_cons.mpr ⟨snd_iload (by decide +kernel : decode cX2_nextThing 36 = .ok (.iload 4, 2)), ?_⟩
  refine List.forall_mem_cons.mpr ⟨snd_isub (by decide +kernel : decode cX2_nextThing 38 = .ok (.isub, 1)), ?_⟩
  refine List.forall_mem_cons.mpr ⟨snd_iret (by decide +kernel : decode cX2_nextThing 39 = .ok (.ireturn, 1)), ?_⟩
  refine List.forall_mem_cons.mpr ⟨snd_iload_n (by decide +kernel : decode cX2_nextThing 40 = .ok (.iload_n 3, 1)) rfl, ?_⟩
  refine List.forall_mem_cons.mpr ⟨snd_iconst (by decide +kernel : decode cX2_nextThing 41 = .ok (.iconst 1, 1)) (by decide +kernel), ?_⟩
  refine List.forall_mem_cons.mpr ⟨snd_icmp_ne (by decide +kernel : decode cX2_nextThing 42 = .ok (.if_icmp .ne 17, 3)) (by decide +kernel), ?_⟩
  refine List.forall_mem_cons.mpr ⟨snd_aload_n (by decide +kernel : decode cX2_nextThing 45 = .ok (.aload_n 0, 1)) rfl, ?_⟩
  refine List.forall_mem_cons.mpr ⟨snd_iload_n (by decide +kernel : decode cX2_nextThing 46 = .ok (.iload_n 1, 1)) rfl, ?_⟩
  refine List.forall_mem_cons.mpr ⟨snd_iload_n (by decide +kernel : decode cX2_nextThing 47 = .ok (.iload_n 2, 1)) rfl, ?_⟩
  refine List.forall_mem_cons.mpr ⟨snd_callV mok_30 wd_200 wd_58 wd_59 rfl rfl (by decide +kernel : decode cX2_nextThing 48 = .ok (.invokevirtual 73, 3)), ?_⟩
  refine List.forall_mem_cons.mpr ⟨snd_iload (by decide +kernel : decode cX2_nextThing 51 = .ok (.iload 4, 2)), ?_⟩
  refine List.forall_mem_cons.mpr ⟨snd_callS mok_49 wd_223 wd_226 (by decide +kernel : decode cX2_nextThing 53 = .ok (.invokestatic 96, 3)), ?_⟩
  refine List.forall_mem_cons.mpr ⟨snd_goto (by decide +kernel : decode cX2_nextThing 56 = .ok (.goto 5, 3)) (by decide +kernel), ?_⟩
  refine List.forall_mem_cons.mpr ⟨snd_iload (by decide +kernel : decode cX2_nextThing 59 = .ok (.iload 4, 2)), ?_⟩
  refine List.forall_mem_cons.mpr ⟨snd_iret (by decide +kernel : decode cX2_nextThing 61 = .ok (.ireturn, 1)), ?_⟩
  exact fun _ h => absurd h List.not_mem_nil
theorem m_X2_nextThing : ∀ q ∈ k_X2_nextThing, Mono q.2 := by
  unfold k_X2_nextThing
  refine List.forall_mem_cons.mpr ⟨mo_aload _ _, ?_⟩
  refine List.forall_mem_cons.mpr ⟨mo_iload _ _, ?_⟩
  refine List.forall_mem_cons.mpr ⟨mo_call _ _ _, ?_⟩
  refine List.forall_mem_cons.mpr ⟨mo_istore _ _, ?_⟩
  refine List.forall_mem_cons.mpr ⟨mo_aload _ _, ?_⟩
  refine List.forall_mem_cons.mpr ⟨mo_iload _ _, ?_⟩
  refine List.forall_mem_cons.mpr ⟨mo_push _ _, ?_⟩
  refine List.forall_mem_cons.mpr ⟨mo_bin _, ?_⟩
  refine List.forall_mem_cons.mpr ⟨mo_iload _ _, ?_⟩
  refine List.forall_mem_cons.mpr ⟨mo_push _ _, ?_⟩
  refine List.forall_mem_cons.mpr ⟨mo_icmp _ _ _, ?_⟩
  refine List.forall_mem_cons.mpr ⟨mo_aload _ _, ?_⟩
  refine List.forall_mem_cons.mpr ⟨mo_iload _ _, ?_⟩
  refine List.forall_mem_cons.mpr ⟨mo_call _ _ _, ?_⟩
  refine List.forall_mem_cons.mpr ⟨mo_goto _, ?_⟩
  refine List.forall_mem_cons.mpr ⟨mo_iload _ _, ?_⟩
  refine List.forall_mem_cons.mpr ⟨mo_call _ _ _, ?_⟩
  refine List.forall_mem_cons.mpr ⟨mo_istore _ _, ?_⟩
  refine List.forall_mem_cons.mpr ⟨mo_iload _ _, ?_⟩
  refine List.forall_mem_cons.mpr ⟨mo_push _ _, ?_⟩
  refine List.forall_mem_cons.mpr ⟨mo_icmp _ _ _, ?_⟩
  refine List.forall_mem_cons.mpr ⟨mo_push _ _, ?_⟩
  refine List.forall_mem_cons.mpr ⟨mo_iload _ _, ?_⟩
  refine List.forall_mem_cons.mpr ⟨mo_bin _, ?_⟩
  refine List.forall_mem_cons.mpr ⟨mo_iret, ?_⟩
  refine List.forall_mem_cons.mpr ⟨mo_iload _ _, ?_⟩
  refine List.forall_mem_cons.mpr ⟨mo_push _ _, ?_⟩
  refine List.forall_mem_cons.mpr ⟨mo_icmp _ _ _, ?_⟩
  refine List.forall_mem_cons.mpr ⟨mo_aload _ _, ?_⟩
  refine List.forall_mem_cons.mpr ⟨mo_iload _ _, ?_⟩
  refine List.forall_mem_cons.mpr ⟨mo_iload _ _, ?_⟩
  refine List.forall_mem_cons.mpr ⟨mo_call _ _ _, ?_⟩
  refine List.forall_mem_cons.mpr ⟨mo_iload _ _, ?_⟩
  refine List.forall_mem_cons.mpr ⟨mo_call _ _ _, ?_⟩
  refine List.forall_mem_cons.mpr ⟨mo_goto _, ?_⟩
  refine List.forall_mem_cons.mpr ⟨mo_iload _ _, ?_⟩
  refine List.forall_mem_cons.mpr ⟨mo_iret, ?_⟩
  exact fun _ h => absurd h List.not_mem_nil
