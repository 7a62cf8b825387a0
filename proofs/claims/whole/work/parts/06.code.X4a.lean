def k_X4_init : List (Nat × aI) := [
  (0, i_aload 0 1),
  (1, i_obj),
  (4, i_aload 0 1),
  (5, i_iload 1 1),
  (6, i_push (.int 1) 1),
  (7, i_max),
  (10, i_newQ),
  (13, i_putR 4 0),
  (16, i_push (.int 0) 1),
  (17, i_istore 2 1),
  (18, i_iload 2 1),
  (19, i_aload 0 1),
  (20, i_get 4 0),
  (23, i_alen),
  (24, i_icmp (fun x y => x < y) 27 46),
  (27, i_aload 0 1),
  (28, i_get 4 0),
  (31, i_iload 2 1),
  (32, i_new 2 7 [.null, .null, .null, .int 0, .int 0, .int 0, .int 0]),
  (35, i_dup),
  (36, i_callI 20 1),
  (39, i_aast),
  (40, i_iinc 2 1),
  (43, i_goto 18),
  (46, i_vret)]
theorem s_X4_init : ∀ q ∈ k_X4_init, Snd RX4 cX4_init none true q.1 q.2 := by
  unfold k_X4_init
  refine List.forall_mem_cons.mpr ⟨snd_aload_n (by decide +kernel : decode cX4_init 0 = .ok (.aload_n 0, 1)) rfl, ?_⟩
  refine List.forall_mem_cons.mpr ⟨snd_obj wd_287 wd_1 wd_2 (by decide +kernel : decode cX4_init 1 = .ok (.invokespecial 1, 3)), ?_⟩
  refine List.forall_mem_cons.mpr ⟨snd_aload_n (by decide +kernel : decode cX4_init 4 = .ok (.aload_n 0, 1)) rfl, ?_⟩
  refine List.forall_mem_cons.mpr ⟨snd_iload_n (by decide +kernel : decode cX4_init 5 = .ok (.iload_n 1, 1)) rfl, ?_⟩
  refine List.forall_mem_cons.mpr ⟨snd_iconst (by decide +kernel : decode cX4_init 6 = .ok (.iconst 1, 1)) (by decide +kernel), ?_⟩
  refine List.forall_mem_cons.mpr ⟨snd_max wd_288 wd_16 wd_17 wd_18 (by decide +kernel : decode cX4_init 7 = .ok (.invokestatic 7, 3)), ?_⟩
  refine List.forall_mem_cons.mpr ⟨snd_newQ wd_289 (by decide +kernel : decode cX4_init 10 = .ok (.anewarray 13, 3)), ?_⟩
  refine List.forall_mem_cons.mpr ⟨snd_putR fl_4_15 (Or.inr ⟨_, rfl⟩) (by decide +kernel : decode cX4_init 13 = .ok (.putfield 15, 3)), ?_⟩
  refine List.forall_mem_cons.mpr ⟨snd_iconst (by decide +kernel : decode cX4_init 16 = .ok (.iconst 0, 1)) (by decide +kernel), ?_⟩
  refine List.forall_mem_cons.mpr ⟨snd_istore_n (by decide +kernel : decode cX4_init 17 = .ok (.istore_n 2, 1)) rfl, ?_⟩
  refine List.forall_mem_cons.mpr ⟨snd_iload_n (by decide +kernel : decode cX4_init 18 = .ok (.iload_n 2, 1)) rfl, ?_⟩
  refine List.forall_mem_cons.mpr ⟨snd_aload_n (by decide +kernel : decode cX4_init 19 = .ok (.aload_n 0, 1)) rfl, ?_⟩
  refine List.forall_mem_cons.mpr ⟨snd_get fl_4_15 (by decide +kernel : decode cX4_init 20 = .ok (.getfield 15, 3)), ?_⟩
  refine List.forall_mem_cons.mpr ⟨snd_alen (by decide +kernel : decode cX4_init 23 = .ok (.arraylength, 1)), ?_⟩
  refine List.forall_mem_cons.mpr ⟨snd_icmp_ge (by decide +kernel : decode cX4_init 24 = .ok (.if_icmp .ge 22, 3)) (by decide +kernel), ?_⟩
  refine List.forall_mem_cons.mpr ⟨snd_aload_n (by decide +kernel : decode cX4_init 27 = .ok (.aload_n 0, 1)) rfl, ?_⟩
  refine List.forall_mem_cons.mpr ⟨snd_get fl_4_15 (by decide +kernel : decode cX4_init 28 = .ok (.getfield 15, 3)), ?_⟩
  refine List.forall_mem_cons.mpr ⟨snd_iload_n (by decide +kernel : decode cX4_init 31 = .ok (.iload_n 2, 1)) rfl, ?_⟩
  refine List.forall_mem_cons.mpr ⟨snd_new cl_4_13 (by decide +kernel : decode cX4_init 32 = .ok (.new 13, 3)), ?_⟩
  refine List.forall_mem_cons.mpr ⟨snd_dup (by decide +kernel : decode cX4_init 35 = .ok (.dup, 1)), ?_⟩
  refine List.forall_mem_cons.mpr ⟨snd_callIN (List.mem_of_getElem? (i := 2) rfl) mok_20 wd_8 rfl rfl (by decide +kernel : decode cX4_init 36 = .ok (.invokespecial 21, 3)), ?_⟩
  refine List.forall_mem_cons.mpr ⟨snd_aast (by decide +kernel : decode cX4_init 39 = .ok (.aastore, 1)), ?_⟩
  refine List.forall_mem_cons.mpr ⟨snd_iinc (by decide +kernel : decode cX4_init 40 = .ok (.iinc 2 1, 3)) (by decide +kernel), ?_⟩
  refine List.forall_mem_cons.mpr ⟨snd_goto (by decide +kernel : decode cX4_init 43 = .ok (.goto (-25), 3)) (by decide +kernel), ?_⟩
  refine List.forall_mem_cons.mpr ⟨snd_vret (by decide +kernel : decode cX4_init 46 = .ok (.return_, 1)), ?_⟩
  exact fun _ h => absurd h List.not_mem_nil
theorem m_X4_init : ∀ q ∈ k_X4_init, Mono q.2 := by
  unfold k_X4_init
  refine List.forall_mem_cons.mpr ⟨mo_aload _ _, ?_⟩
  refine List.forall_mem_cons.mpr ⟨mo_obj, ?_⟩
  refine List.forall_mem_cons.mpr ⟨mo_aload _ _, ?_⟩
  refine List.forall_mem_cons.mpr ⟨mo_iload _ _, ?_⟩
  refine List.forall_mem_cons.mpr ⟨mo_push _ _, ?_⟩
  refine List.forall_mem_cons.mpr ⟨mo_max, ?_⟩
  refine List.forall_mem_cons.mpr ⟨mo_newQ, ?_⟩
  refine List.forall_mem_cons.mpr ⟨mo_putR _ _, ?_⟩
  refine List.forall_mem_cons.mpr ⟨mo_push _ _, ?_⟩
  refine List.forall_mem_cons.mpr ⟨mo_istore _ _, ?_⟩
  refine List.forall_mem_cons.mpr ⟨mo_iload _ _, ?_⟩
  refine List.forall_mem_cons.mpr ⟨mo_aload _ _, ?_⟩
  refine List.forall_mem_cons.mpr ⟨mo_get _ _, ?_⟩
  refine List.forall_mem_cons.mpr ⟨mo_alen, ?_⟩
  refine List.forall_mem_cons.mpr ⟨mo_icmp _ _ _, ?_⟩
  refine List.forall_mem_cons.mpr ⟨mo_aload _ _, ?_⟩
  refine List.forall_mem_cons.mpr ⟨mo_get _ _, ?_⟩
  refine List.forall_mem_cons.mpr ⟨mo_iload _ _, ?_⟩
  refine List.forall_mem_cons.mpr ⟨mo_new _ _ _, ?_⟩
  refine List.forall_mem_cons.mpr ⟨mo_dup, ?_⟩
  refine List.forall_mem_cons.mpr ⟨mo_call _ _ _, ?_⟩
  refine List.forall_mem_cons.mpr ⟨mo_aast, ?_⟩
  refine List.forall_mem_cons.mpr ⟨mo_iinc _ _, ?_⟩
  refine List.forall_mem_cons.mpr ⟨mo_goto _, ?_⟩
  refine List.forall_mem_cons.mpr ⟨mo_vret, ?_⟩
  exact fun _ h => absurd h List.not_mem_nil
def k_X4_clear : List (Nat × aI) := [
  (0, i_aload 0 1),
  (1, i_push (.int 0) 1),
  (2, i_put 4 1),
  (5, i_vret)]
theorem s_X4_clear : ∀ q ∈ k_X4_clear, Snd RX4 cX4_clear none false q.1 q.2 := by
  unfold k_X4_clear
  refine List.forall_mem_cons.mpr ⟨snd_aload_n (by decide +kernel : decode cX4_clear 0 = .ok (.aload_n 0, 1)) rfl, ?_⟩
  refine List.forall_mem_cons.mpr ⟨snd_iconst (by decide +kernel : decode cX4_clear 1 = .ok (.iconst 0, 1)) (by decide +kernel), ?_⟩
  refine List.forall_mem_cons.mpr ⟨snd_put fl_4_22 (by decide +kernel : decode cX4_clear 2 = .ok (.putfield 22, 3)), ?_⟩
  refine List.forall_mem_cons.mpr ⟨snd_vret (by decide +kernel : decode cX4_clear 5 = .ok (.return_, 1)), ?_⟩
  exact fun _ h => absurd h List.not_mem_nil
theorem m_X4_clear : ∀ q ∈ k_X4_clear, Mono q.2 := by
  unfold k_X4_clear
  refine List.forall_mem_cons.mpr ⟨mo_aload _ _, ?_⟩
  refine List.forall_mem_cons.mpr ⟨mo_push _ _, ?_⟩
  refine List.forall_mem_cons.mpr ⟨mo_put _ _, ?_⟩
  refine List.forall_mem_cons.mpr ⟨mo_vret, ?_⟩
  exact fun _ h => absurd h List.not_mem_nil
def k_X4_size : List (Nat × aI) := [
  (0, i_aload 0 1),
  (1, i_get 4 1),
  (4, i_iret)]
theorem s_X4_size : ∀ q ∈ k_X4_size, Snd RX4 cX4_size (some .int) false q.1 q.2 := by
  unfold k_X4_size
  refine List.forall_mem_cons.mpr ⟨snd_aload_n (by decide +kernel : decode cX4_size 0 = .ok (.aload_n 0, 1)) rfl, ?_⟩
  refine List.forall_mem_cons.mpr ⟨snd_get fl_4_22 (by decide +kernel : decode cX4_size 1 = .ok (.getfield 22, 3)), ?_⟩
  refine List.forall_mem_cons.mpr ⟨snd_iret (by decide +kernel : decode cX4_size 4 = .ok (.ireturn, 1)), ?_⟩
  exact fun _ h => absurd h List.not_mem_nil
theorem m_X4_size : ∀ q ∈ k_X4_size, Mono q.2 := by
  unfold k_X4_size
  refine List.forall_mem_cons.mpr ⟨mo_aload _ _, ?_⟩
  refine List.forall_mem_cons.mpr ⟨mo_get _ _, ?_⟩
  refine List.forall_mem_cons.mpr ⟨mo_iret, ?_⟩
  exact fun _ h => absurd h List.not_mem_nil
def k_X4_isFull : List (Nat × aI) := [
  (0, i_aload 0 1),
  (1, i_get 4 1),
  (4, i_aload 0 1),
  (5, i_get 4 0),
  (8, i_alen),
  (9, i_icmp (fun x y => x < y) 16 12),
  (12, i_push (.int 1) 1),
  (13, i_goto 17),
  (16, i_push (.int 0) 1),
  (17, i_zret)]
theorem s_X4_isFull : ∀ q ∈ k_X4_isFull, Snd RX4 cX4_isFull (some .boolean) false q.1 q.2 := by
  unfold k_X4_isFull
  refine List.forall_mem_cons.mpr ⟨snd_aload_n (by decide +kernel : decode cX4_isFull 0 = .ok (.aload_n 0, 1)) rfl, ?_⟩
  refine List.forall_mem_cons.mpr ⟨snd_get fl_4_22 (by decide +kernel : decode cX4_isFull 1 = .ok (.getfield 22, 3)), ?_⟩
  refine List.forall_mem_cons.mpr ⟨snd_aload_n (by decide +kernel : decode cX4_isFull 4 = .ok (.aload_n 0, 1)) rfl, ?_⟩
  refine List.forall_mem_cons.mpr ⟨snd_get fl_4_15 (by decide +kernel : decode cX4_isFull 5 = .ok (.getfield 15, 3)), ?_⟩
  refine List.forall_mem_cons.mpr ⟨snd_alen (by decide +kernel : decode cX4_isFull 8 = .ok (.arraylength, 1)), ?_⟩
  refine List.forall_mem_cons.mpr ⟨snd_icmp_lt (by decide +kernel : decode cX4_isFull 9 = .ok (.if_icmp .lt 7, 3)) (by decide +kernel), ?_⟩
  refine List.forall_mem_cons.mpr ⟨snd_iconst (by decide +kernel : decode cX4_isFull 12 = .ok (.iconst 1, 1)) (by decide +kernel), ?_⟩
  refine List.forall_mem_cons.mpr ⟨snd_goto (by decide +kernel : decode cX4_isFull 13 = .ok (.goto 4, 3)) (by decide +kernel), ?_⟩
  refine List.forall_mem_cons.mpr ⟨snd_iconst (by decide +kernel : decode cX4_isFull 16 = .ok (.iconst 0, 1)) (by decide +kernel), ?_⟩
  refine List.forall_mem_cons.mpr ⟨snd_zret (by decide +kernel : decode cX4_isFull 17 = .ok (.ireturn, 1)), ?_⟩
  exact fun _ h => absurd h List.not_mem_nil
theorem m_X4_isFull : ∀ q ∈ k_X4_isFull, Mono q.2 := by
  unfold k_X4_isFull
  refine List.forall_mem_cons.mpr ⟨mo_aload _ _, ?_⟩
  refine List.forall_mem_cons.mpr ⟨mo_get _ _, ?_⟩
  refine List.forall_mem_cons.mpr ⟨mo_aload _ _, ?_⟩
  refine List.forall_mem_cons.mpr ⟨mo_get _ _, ?_⟩
  refine List.forall_mem_cons.mpr ⟨mo_alen, ?_⟩
  refine List.forall_mem_cons.mpr ⟨mo_icmp _ _ _, ?_⟩
  refine List.forall_mem_cons.mpr ⟨mo_push _ _, ?_⟩
  refine List.forall_mem_cons.mpr ⟨mo_goto _, ?_⟩
  refine List.forall_mem_cons.mpr ⟨mo_push _ _, ?_⟩
  refine List.forall_mem_cons.mpr ⟨mo_zret, ?_⟩
  exact fun _ h => absurd h List.not_mem_nil
def k_X4_put : List (Nat × aI) := [
  (0, i_aload 0 1),
  (1, i_callV 68 1 4),
  (4, i_if (fun x => x = 0) 11 7),
  (7, i_aload 0 1),
  (8, i_callV 71 1 4),
  (11, i_aload 0 1),
  (12, i_get 4 0),
  (15, i_aload 0 1),
  (16, i_get 4 1),
  (19, i_aald),
  (20, i_aload 1 1),
  (21, i_callV 22 2 2),
  (24, i_aload 0 1),
  (25, i_dup),
  (26, i_get 4 1),
  (29, i_push (.int 1) 1),
  (30, i_bin (fun x y => x + y)),
  (31, i_put 4 1),
  (34, i_vret)]
theorem s_X4_put : ∀ q ∈ k_X4_put, Snd RX4 cX4_put none false q.1 q.2 := by
  unfold k_X4_put
  refine List.forall_mem_cons.mpr ⟨snd_aload_n (by decide +kernel : decode cX4_put 0 = .ok (.aload_n 0, 1)) rfl, ?_⟩
  refine List.forall_mem_cons.mpr ⟨snd_callV mok_68 wd_292 wd_295 wd_296 rfl rfl (by decide +kernel : decode cX4_put 1 = .ok (.invokevirtual 26, 3)), ?_⟩
  refine List.forall_mem_cons.mpr ⟨snd_if_eq (by decide +kernel : decode cX4_put 4 = .ok (.ifCond .eq 7, 3)) (by decide +kernel), ?_⟩
  refine List.forall_mem_cons.mpr ⟨snd_aload_n (by decide +kernel : decode cX4_put 7 = .ok (.aload_n 0, 1)) rfl, ?_⟩
  refine List.forall_mem_cons.mpr ⟨snd_callV mok_71 wd_297 wd_300 wd_301 rfl rfl (by decide +kernel : decode cX4_put 8 = .ok (.invokevirtual 30, 3)), ?_⟩
  refine List.forall_mem_cons.mpr ⟨snd_aload_n (by decide +kernel : decode cX4_put 11 = .ok (.aload_n 0, 1)) rfl, ?_⟩
  refine List.forall_mem_cons.mpr ⟨snd_get fl_4_15 (by decide +kernel : decode cX4_put 12 = .ok (.getfield 15, 3)), ?_⟩
  refine List.forall_mem_cons.mpr ⟨snd_aload_n (by decide +kernel : decode cX4_put 15 = .ok (.aload_n 0, 1)) rfl, ?_⟩
  refine List.forall_mem_cons.mpr ⟨snd_get fl_4_22 (by decide +kernel : decode cX4_put 16 = .ok (.getfield 22, 3)), ?_⟩
  refine List.forall_mem_cons.mpr ⟨snd_aald (by decide +kernel : decode cX4_put 19 = .ok (.aaload, 1)), ?_⟩
  refine List.forall_mem_cons.mpr ⟨snd_aload_n (by decide +kernel : decode cX4_put 20 = .ok (.aload_n 1, 1)) rfl, ?_⟩
  refine List.forall_mem_cons.mpr ⟨snd_callV mok_22 wd_302 wd_38 wd_39 rfl rfl (by decide +kernel : decode cX4_put 21 = .ok (.invokevirtual 33, 3)), ?_⟩
  refine List.forall_mem_cons.mpr ⟨snd_aload_n (by decide +kernel : decode cX4_put 24 = .ok (.aload_n 0, 1)) rfl, ?_⟩
  refine List.forall_mem_cons.mpr ⟨snd_dup (by decide +kernel : decode cX4_put 25 = .ok (.dup, 1)), ?_⟩
  refine List.forall_mem_cons.mpr ⟨snd_get fl_4_22 (by decide +kernel : decode cX4_put 26 = .ok (.getfield 22, 3)), ?_⟩
  refine List.forall_mem_cons.mpr ⟨snd_iconst (by decide +kernel : decode cX4_put 29 = .ok (.iconst 1, 1)) (by decide +kernel), ?_⟩
  refine List.forall_mem_cons.mpr ⟨snd_iadd (by decide +kernel : decode cX4_put 30 = .ok (.iadd, 1)), ?_⟩
  refine List.forall_mem_cons.mpr ⟨snd_put fl_4_22 (by decide +kernel : decode cX4_put 31 = .ok (.putfield 22, 3)), ?_⟩
  refine List.forall_mem_cons.mpr ⟨snd_vret (by decide +kernel : decode cX4_put 34 = .ok (.return_, 1)), ?_⟩
  exact fun _ h => absurd h List.not_mem_nil
theorem m_X4_put : ∀ q ∈ k_X4_put, Mono q.2 := by
  unfold k_X4_put
  refine List.forall_mem_cons.mpr ⟨mo_aload _ _, ?_⟩
  refine List.forall_mem_cons.mpr ⟨mo_call _ _ _, ?_⟩
  refine List.forall_mem_cons.mpr ⟨mo_if _ _ _, ?_⟩
  refine List.forall_mem_cons.mpr ⟨mo_aload _ _, ?_⟩
  refine List.forall_mem_cons.mpr ⟨mo_call _ _ _, ?_⟩
  refine List.forall_mem_cons.mpr ⟨mo_aload _ _, ?_⟩
  refine List.forall_mem_cons.mpr ⟨mo_get _ _, ?_⟩
  refine List.forall_mem_cons.mpr ⟨mo_aload _ _, ?_⟩
  refine List.forall_mem_cons.mpr ⟨mo_get _ _, ?_⟩
  refine List.forall_mem_cons.mpr ⟨mo_aald, ?_⟩
  refine List.forall_mem_cons.mpr ⟨mo_aload _ _, ?_⟩
  refine List.forall_mem_cons.mpr ⟨mo_call _ _ _, ?_⟩
  refine List.forall_mem_cons.mpr ⟨mo_aload _ _, ?_⟩
  refine List.forall_mem_cons.mpr ⟨mo_dup, ?_⟩
  refine List.forall_mem_cons.mpr ⟨mo_get _ _, ?_⟩
  refine List.forall_mem_cons.mpr ⟨mo_push _ _, ?_⟩
  refine List.forall_mem_cons.mpr ⟨mo_bin _, ?_⟩
  refine List.forall_mem_cons.mpr ⟨mo_put _ _, ?_⟩
  refine List.forall_mem_cons.mpr ⟨mo_vret, ?_⟩
  exact fun _ h => absurd h List.not_mem_nil
def k_X4_takeInto : List (Nat × aI) := [
  (0, i_aload 0 1),
  (1, i_get 4 1),
  (4, i_push (.int 1) 1),
  (5, i_icmp (fun x y => x < y) 8 10),
  (8, i_push (.int 0) 1),
  (9, i_zret),
  (10, i_aload 0 1),
  (11, i_dup),
  (12, i_get 4 1),
  (15, i_push (.int 1) 1),
  (16, i_bin (fun x y => x - y)),
  (17, i_put 4 1),
  (20, i_aload 1 1),
  (21, i_aload 0 1),
  (22, i_get 4 0),
  (25, i_aload 0 1),
  (26, i_get 4 1),
  (29, i_aald),
  (30, i_callV 22 2 2),
  (33, i_push (.int 1) 1),
  (34, i_zret)]
theorem s_X4_takeInto : ∀ q ∈ k_X4_takeInto, Snd RX4 cX4_takeInto (some .boolean) false q.1 q.2 := by
  unfold k_X4_takeInto
  refine List.forall_mem_cons.mpr ⟨snd_aload_n (by decide +kernel : decode cX4_takeInto 0 = .ok (.aload_n 0, 1)) rfl, ?_⟩
  refine List.forall_mem_cons.mpr ⟨snd_get fl_4_22 (by decide +kernel : decode cX4_takeInto 1 = .ok (.getfield 22, 3)), ?_⟩
  refine List.forall_mem_cons.mpr ⟨snd_iconst (by decide +kernel : decode cX4_takeInto 4 = .ok (.iconst 1, 1)) (by decide +kernel), ?_⟩
  refine List.forall_mem_cons.mpr ⟨snd_icmp_ge (by decide +kernel : decode cX4_takeInto 5 = .ok (.if_icmp .ge 5, 3)) (by decide +kernel), ?_⟩
  refine List.forall_mem_cons.mpr ⟨snd_iconst (by decide +kernel : decode cX4_takeInto 8 = .ok (.iconst 0, 1)) (by decide +kernel), ?_⟩
  refine List.forall_mem_cons.mpr ⟨snd_zret (by decide +kernel : decode cX4_takeInto 9 = .ok (.ireturn, 1)), ?_⟩
  refine List.forall_mem_cons.mpr ⟨snd_aload_n (by decide +kernel : decode cX4_takeInto 10 = .ok (.aload_n 0, 1)) rfl, ?_⟩
  refine List.forall_mem_cons.mpr ⟨snd_dup (by decide +kernel : decode cX4_takeInto 11 = .ok (.dup, 1)), ?_⟩
  refine List.forall_mem_cons.mpr ⟨snd_get fl_4_22 (by decide +kernel : decode cX4_takeInto 12 = .ok (.getfield 22, 3)), ?_⟩
  refine List.forall_mem_cons.mpr ⟨snd_iconst (by decide +kernel : decode cX4_takeInto 15 = .ok (.iconst 1, 1)) (by decide +kernel), ?_⟩
  refine List.forall_mem_cons.mpr ⟨snd_isub (by decide +kernel : decode cX4_takeInto 16 = .ok (.isub, 1)), ?_⟩
  refine List.forall_mem_cons.mpr ⟨snd_put fl_4_22 (by decide +kernel : decode cX4_takeInto 17 = .ok (.putfield 22, 3)), ?_⟩
  refine List.forall_mem_cons.mpr ⟨snd_aload_n (by decide +kernel : decode cX4_takeInto 20 = .ok (.aload_n 1, 1)) rfl, ?_⟩
  refine List.forall_mem_cons.mpr ⟨snd_aload_n (by decide +kernel : decode cX4_takeInto 21 = .ok (.aload_n 0, 1)) rfl, ?_⟩
  refine List.forall_mem_cons.mpr ⟨snd_get fl_4_15 (by decide +kernel : decode cX4_takeInto 22 = .ok (.getfield 15, 3)), ?_⟩
  refine List.forall_mem_cons.mpr ⟨snd_aload_n (by decide +kernel : decode cX4_takeInto 25 = .ok (.aload_n 0, 1)) rfl, ?_⟩
  refine List.forall_mem_cons.mpr ⟨snd_get fl_4_22 (by decide +kernel : decode cX4_takeInto 26 = .ok (.getfield 22, 3)), ?_⟩
  refine List.forall_mem_cons.mpr ⟨snd_aald (by decide +kernel : decode cX4_takeInto 29 = .ok (.aaload, 1)), ?_⟩
  refine List.forall_mem_cons.mpr ⟨snd_callV mok_22 wd_302 wd_38 wd_39 rfl rfl (by decide +kernel : decode cX4_takeInto 30 = .ok (.invokevirtual 33, 3)), ?_⟩
  refine List.forall_mem_cons.mpr ⟨snd_iconst (by decide +kernel : decode cX4_takeInto 33 = .ok (.iconst 1, 1)) (by decide +kernel), ?_⟩
  refine List.forall_mem_cons.mpr ⟨snd_zret (by decide +kernel : decode cX4_takeInto 34 = .ok (.ireturn, 1)), ?_⟩
  exact fun _ h => absurd h List.not_mem_nil
theorem m_X4_takeInto : ∀ q ∈ k_X4_takeInto, Mono q.2 := by
  unfold k_X4_takeInto
  refine List.forall_mem_cons.mpr ⟨mo_aload _ _, ?_⟩
  refine List.forall_mem_cons.mpr ⟨mo_get _ _, ?_⟩
  refine List.forall_mem_cons.mpr ⟨mo_push _ _, ?_⟩
  refine List.forall_mem_cons.mpr ⟨mo_icmp _ _ _, ?_⟩
  refine List.forall_mem_cons.mpr ⟨mo_push _ _, ?_⟩
  refine List.forall_mem_cons.mpr ⟨mo_zret, ?_⟩
  refine List.forall_mem_cons.mpr ⟨mo_aload _ _, ?_⟩
  refine List.forall_mem_cons.mpr ⟨mo_dup, ?_⟩
  refine List.forall_mem_cons.mpr ⟨mo_get _ _, ?_⟩
  refine List.forall_mem_cons.mpr ⟨mo_push _ _, ?_⟩
  refine List.forall_mem_cons.mpr ⟨mo_bin _, ?_⟩
  refine List.forall_mem_cons.mpr ⟨mo_put _ _, ?_⟩
  refine List.forall_mem_cons.mpr ⟨mo_aload _ _, ?_⟩
  refine List.forall_mem_cons.mpr ⟨mo_aload _ _, ?_⟩
  refine List.forall_mem_cons.mpr ⟨mo_get _ _, ?_⟩
  refine List.forall_mem_cons.mpr ⟨mo_aload _ _, ?_⟩
  refine List.forall_mem_cons.mpr ⟨mo_get _ _, ?_⟩
  refine List.forall_mem_cons.mpr ⟨mo_aald, ?_⟩
  refine List.forall_mem_cons.mpr ⟨mo_call _ _ _, ?_⟩
  refine List.forall_mem_cons.mpr ⟨mo_push _ _, ?_⟩
  refine List.forall_mem_cons.mpr ⟨mo_zret, ?_⟩
  exact fun _ h => absurd h List.not_mem_nil
def k_X4_dropOldest : List (Nat × aI) := [
  (0, i_aload 0 1),
  (1, i_get 4 0),
  (4, i_push (.int 0) 1),
  (5, i_aald),
  (6, i_astore 1 1),
  (7, i_push (.int 1) 1),
  (8, i_istore 2 1),
  (9, i_iload 2 1),
  (10, i_aload 0 1),
  (11, i_get 4 0),
  (14, i_alen),
  (15, i_icmp (fun x y => x < y) 18 38),
  (18, i_aload 0 1),
  (19, i_get 4 0),
  (22, i_iload 2 1),
  (23, i_push (.int 1) 1),
  (24, i_bin (fun x y => x - y)),
  (25, i_aload 0 1),
  (26, i_get 4 0),
  (29, i_iload 2 1),
  (30, i_aald),
  (31, i_aast),
  (32, i_iinc 2 1),
  (35, i_goto 9),
  (38, i_aload 0 1),
  (39, i_get 4 0),
  (42, i_aload 0 1),
  (43, i_get 4 0),
  (46, i_alen),
  (47, i_push (.int 1) 1),
  (48, i_bin (fun x y => x - y)),
  (49, i_aload 1 1),
  (50, i_aast),
  (51, i_aload 0 1),
  (52, i_aload 0 1),
  (53, i_get 4 0),
  (56, i_alen),
  (57, i_push (.int 1) 1),
  (58, i_bin (fun x y => x - y)),
  (59, i_put 4 1),
  (62, i_vret)]
theorem s_X4_dropOldest : ∀ q ∈ k_X4_dropOldest, Snd RX4 cX4_dropOldest none false q.1 q.2 := by
  unfold k_X4_dropOldest
  refine List.forall_mem_cons.mpr ⟨snd_aload_n (by decide +kernel : decode cX4_dropOldest 0 = .ok (.aload_n 0, 1)) rfl, ?_⟩
  refine List.forall_mem_cons.mpr ⟨snd_get fl_4_15 (by decide +kernel : decode cX4_dropOldest 1 = .ok (.getfield 15, 3)), ?_⟩
  refine List.forall_mem_cons.mpr ⟨snd_iconst (by decide +kernel : decode cX4_dropOldest 4 = .ok (.iconst 0, 1)) (by decide +kernel), ?_⟩
  refine List.forall_mem_cons.mpr ⟨snd_aald (by decide +kernel : decode cX4_dropOldest 5 = .ok (.aaload, 1)), ?_⟩
  refine List.forall_mem_cons.mpr ⟨snd_astore_n (by decide +kernel : decode cX4_dropOldest 6 = .ok (.astore_n 1, 1)) rfl, ?_⟩
  refine List.forall_mem_cons.mpr ⟨snd_iconst (by decide +kernel : decode cX4_dropOldest 7 = .ok (.iconst 1, 1)) (by decide +kernel), ?_⟩
  refine List.forall_mem_cons.mpr ⟨snd_istore_n (by decide +kernel : decode cX4_dropOldest 8 = .ok (.istore_n 2, 1)) rfl, ?_⟩
  refine List.forall_mem_cons.mpr ⟨snd_iload_n (by decide +kernel : decode cX4_dropOldest 9 = .ok (.iload_n 2, 1)) rfl, ?_⟩
  refine List.forall_mem_cons.mpr ⟨snd_aload_n (by decide +kernel : decode cX4_dropOldest 10 = .ok (.aload_n 0, 1)) rfl, ?_⟩
  refine List.forall_mem_cons.mpr ⟨snd_get fl_4_15 (by decide +kernel : decode cX4_dropOldest 11 = .ok (.getfield 15, 3)), ?_⟩
  refine List.forall_mem_cons.mpr ⟨snd_alen (by decide +kernel : decode cX4_dropOldest 14 = .ok (.arraylength, 1)), ?_⟩
  refine List.forall_mem_cons.mpr ⟨snd_icmp_ge (by decide +kernel : decode cX4_dropOldest 15 = .ok (.if_icmp .ge 23, 3)) (by decide +kernel), ?_⟩
  refine List.forall_mem_cons.mpr ⟨snd_aload_n (by decide +kernel : decode cX4_dropOldest 18 = .ok (.aload_n 0, 1)) rfl, ?_⟩
  refine List.forall_mem_cons.mpr ⟨snd_get fl_4_15 (by decide +kernel : decode cX4_dropOldest 19 = .ok (.getfield 15, 3)), ?_⟩
  refine List.forall_mem_cons.mpr ⟨snd_iload_n (by decide +kernel : decode cX4_dropOldest 22 = .ok (.iload_n 2, 1)) rfl, ?_⟩
  refine List.forall_mem_cons.mpr ⟨snd_iconst (by decide +kernel : decode cX4_dropOldest 23 = .ok (.iconst 1, 1)) (by decide +kernel), ?_⟩
  refine List.forall_mem_cons.mpr ⟨snd_isub (by decide +kernel : decode cX4_dropOldest 24 = .ok (.isub, 1)), ?_⟩
  refine List.forall_mem_cons.mpr ⟨snd_aload_n (by decide +kernel : decode cX4_dropOldest 25 = .ok (.aload_n 0, 1)) rfl, ?_⟩
  refine List.forall_mem_cons.mpr ⟨snd_get fl_4_15 (by decide +kernel : decode cX4_dropOldest 26 = .ok (.getfield 15, 3)), ?_⟩
  refine List.forall_mem_cons.mpr ⟨snd_iload_n (by decide +kernel : decode cX4_dropOldest 29 = .ok (.iload_n 2, 1)) rfl, ?_⟩
  refine List.forall_mem_cons.mpr ⟨snd_aald (by decide +kernel : decode cX4_dropOldest 30 = .ok (.aaload, 1)), ?_⟩
  refine List.forall_mem_cons.mpr ⟨snd_aast (by decide +kernel : decode cX4_dropOldest 31 = .ok (.aastore, 1)), ?_⟩
  refine List.forall_mem_cons.mpr ⟨snd_iinc (by decide +kernel : decode cX4_dropOldest 32 = .ok (.iinc 2 1, 3)) (by decide +kernel), ?_⟩
  refine List.forall_mem_cons.mpr ⟨snd_goto (by decide +kernel : decode cX4_dropOldest 35 = .ok (.goto (-26), 3)) (by decide +kernel), ?_⟩
  refine List.forall_mem_cons.mpr ⟨snd_aload_n (by decide +kernel : decode cX4_dropOldest 38 = .ok (.aload_n 0, 1)) rfl, ?_⟩
  refine List.forall_mem_cons.mpr ⟨snd_get fl_4_15 (by decide +kernel : decode cX4_dropOldest 39 = .ok (.getfield 15, 3)), ?_⟩
  refine List.forall_mem_cons.mpr ⟨snd_aload_n (by decide +kernel : decode cX4_dropOldest 42 = .ok (.aload_n 0, 1)) rfl, ?_⟩
  refine List.forall_mem_cons.mpr ⟨snd_get fl_4_15 (by decide +kernel : decode cX4_dropOldest 43 = .ok (.getfield 15, 3)), ?_⟩
  refine List.forall_mem_cons.mpr ⟨snd_alen (by decide +kernel : decode cX4_dropOldest 46 = .ok (.arraylength, 1)), ?_⟩
  refine List.forall_mem_cons.mpr ⟨snd_iconst (by decide +kernel : decode cX4_dropOldest 47 = .ok (.iconst 1, 1)) (by decide +kernel), ?_⟩
  refine List.forall_mem_cons.mpr ⟨snd_isub (by decide +kernel : decode cX4_dropOldest 48 = .ok (.isub, 1)), ?_⟩
  refine List.forall_mem_cons.mpr ⟨snd_aload_n (by decide +kernel : decode cX4_dropOldest 49 = .ok (.aload_n 1, 1)) rfl, ?_⟩
  refine List.forall_mem_cons.mpr ⟨snd_aast (by decide +kernel : decode cX4_dropOldest 50 = .ok (.aastore, 1)), ?_⟩
  refine List.forall_mem_cons.mpr ⟨snd_aload_n (by decide +kernel : decode cX4_dropOldest 51 = .ok (.aload_n 0, 1)) rfl, ?_⟩
  refine List.forall_mem_cons.mpr ⟨snd_aload_n (by decide +kernel : decode cX4_dropOldest 52 = .ok (.aload_n 0, 1)) rfl, ?_⟩
  refine List.forall_mem_cons.mpr ⟨snd_get fl_4_15 (by decide +kernel : decode cX4_dropOldest 53 = .ok (.getfield 15, 3)), ?_⟩
  refine List.forall_mem_cons.mpr ⟨snd_alen (by decide +kernel : decode cX4_dropOldest 56 = .ok (.arraylength, 1)), ?_⟩
  refine List.forall_mem_cons.mpr ⟨snd_iconst (by decide +kernel : decode cX4_dropOldest 57 = .ok (.iconst 1, 1)) (by decide +kernel), ?_⟩
  refine List.forall_mem_cons.mpr ⟨snd_isub (by decide +kernel : decode cX4_dropOldest 58 = .ok (.isub, 1)), ?_⟩
  refine List.forall_mem_cons.mpr ⟨snd_put fl_4_22 (by decide +kernel : decode cX4_dropOldest 59 = .ok (.putfield 22, 3)), ?_⟩
  refine List.forall_mem_cons.mpr ⟨snd_vret (by decide +kernel : decode cX4_dropOldest 62 = .ok (.return_, 1)), ?_⟩
  exact fun _ h => absurd h List.not_mem_nil
theorem m_X4_dropOldest : ∀ q ∈ k_X4_dropOldest, Mono q.2 := by
  unfold k_X4_dropOldest
  refine List.forall_mem_cons.mpr ⟨mo_aload _ _, ?_⟩
  refine List.forall_mem_cons.mpr ⟨mo_get _ _, ?_⟩
  refine List.forall_mem_cons.mpr ⟨mo_push _ _, ?_⟩
  refine List.forall_mem_cons.mpr ⟨mo_aald, ?_⟩
  refine List.forall_mem_cons.mpr ⟨mo_astore _ _, ?_⟩
  refine List.forall_mem_cons.mpr ⟨mo_push _ _, ?_⟩
  refine List.forall_mem_cons.mpr ⟨mo_istore _ _, ?_⟩
  refine List.forall_mem_cons.mpr ⟨mo_iload _ _, ?_⟩
  refine List.forall_mem_cons.mpr ⟨mo_aload _ _, ?_⟩
  refine List.forall_mem_cons.mpr ⟨mo_get _ _, ?_⟩
  refine List.forall_mem_cons.mpr ⟨mo_alen, ?_⟩
  refine List.forall_mem_cons.mpr ⟨mo_icmp _ _ _, ?_⟩
  refine List.forall_mem_cons.mpr ⟨mo_aload _ _, ?_⟩
  refine List.forall_mem_cons.mpr ⟨mo_get _ _, ?_⟩
  refine List.forall_mem_cons.mpr ⟨mo_iload _ _, ?_⟩
  refine List.forall_mem_cons.mpr ⟨mo_push _ _, ?_⟩
  refine List.forall_mem_cons.mpr ⟨mo_bin _, ?_⟩
  refine List.forall_mem_cons.mpr ⟨mo_aload _ _, ?_⟩
  refine List.forall_mem_cons.mpr ⟨mo_get _ _, ?_⟩
  refine List.forall_mem_cons.mpr ⟨mo_iload _ _, ?_⟩
  refine List.forall_mem_cons.mpr ⟨mo_aald, ?_⟩
  refine List.forall_mem_cons.mpr ⟨mo_aast, ?_⟩
  refine List.forall_mem_cons.mpr ⟨mo_iinc _ _, ?_⟩
  refine List.forall_mem_cons.mpr ⟨mo_goto _, ?_⟩
  refine List.forall_mem_cons.mpr ⟨mo_aload _ _, ?_⟩
  refine List.forall_mem_cons.mpr ⟨mo_get _ _, ?_⟩
  refine List.forall_mem_cons.mpr ⟨mo_aload _ _, ?_⟩
  refine List.forall_mem_cons.mpr ⟨mo_get _ _, ?_⟩
  refine List.forall_mem_cons.mpr ⟨mo_alen, ?_⟩
  refine List.forall_mem_cons.mpr ⟨mo_push _ _, ?_⟩
  refine List.forall_mem_cons.mpr ⟨mo_bin _, ?_⟩
  refine List.forall_mem_cons.mpr ⟨mo_aload _ _, ?_⟩
  refine List.forall_mem_cons.mpr ⟨mo_aast, ?_⟩
  refine List.forall_mem_cons.mpr ⟨mo_aload _ _, ?_⟩
  refine List.forall_mem_cons.mpr ⟨mo_aload _ _, ?_⟩
  refine List.forall_mem_cons.mpr ⟨mo_get _ _, ?_⟩
  refine List.forall_mem_cons.mpr ⟨mo_alen, ?_⟩
  refine List.forall_mem_cons.mpr ⟨mo_push _ _, ?_⟩
  refine List.forall_mem_cons.mpr ⟨mo_bin _, ?_⟩
  refine List.forall_mem_cons.mpr ⟨mo_put _ _, ?_⟩
  refine List.forall_mem_cons.mpr ⟨mo_vret, ?_⟩
  exact fun _ h => absurd h List.not_mem_nil
