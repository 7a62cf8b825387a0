/-! THE LAW: its start on the machine out of the pure law -/
theorem nest_in : ∀ q ∈ nestL, Cond.methodLinkNest q.1 q.2.1 q.2.2.1 q.2.2.2 ∈ lw_tbl := by
  unfold nestL
  refine List.forall_mem_cons.mpr ⟨List.mem_of_getElem? (i := 73) (by decide +kernel), ?_⟩
  refine List.forall_mem_cons.mpr ⟨List.mem_of_getElem? (i := 87) (by decide +kernel), ?_⟩
  refine List.forall_mem_cons.mpr ⟨List.mem_of_getElem? (i := 124) (by decide +kernel), ?_⟩
  refine List.forall_mem_cons.mpr ⟨List.mem_of_getElem? (i := 134) (by decide +kernel), ?_⟩
  refine List.forall_mem_cons.mpr ⟨List.mem_of_getElem? (i := 156) (by decide +kernel), ?_⟩
  refine List.forall_mem_cons.mpr ⟨List.mem_of_getElem? (i := 161) (by decide +kernel), ?_⟩
  refine List.forall_mem_cons.mpr ⟨List.mem_of_getElem? (i := 174) (by decide +kernel), ?_⟩
  refine List.forall_mem_cons.mpr ⟨List.mem_of_getElem? (i := 179) (by decide +kernel), ?_⟩
  refine List.forall_mem_cons.mpr ⟨List.mem_of_getElem? (i := 264) (by decide +kernel), ?_⟩
  refine List.forall_mem_cons.mpr ⟨List.mem_of_getElem? (i := 275) (by decide +kernel), ?_⟩
  refine List.forall_mem_cons.mpr ⟨List.mem_of_getElem? (i := 313) (by decide +kernel), ?_⟩
  refine List.forall_mem_cons.mpr ⟨List.mem_of_getElem? (i := 694) (by decide +kernel), ?_⟩
  exact fun _ h => absurd h List.not_mem_nil
theorem ao_in : Cond.arrayOver (.object RX2) ∈ lw_tbl := List.mem_of_getElem? (i := 123) (by decide +kernel)
theorem ac_in : Cond.arrayClass .int ∈ lw_tbl := List.mem_of_getElem? (i := 84) (by decide +kernel)
abbrev tmS : Term := Term.string "DollsVote" 59
theorem tx_in : ∀ j, j < 53 → Cond.eq (.elem (.field tmS "java/lang/String" "value" "[B") (.int (Int32.ofNat j))) (.int (fby.getD j 0)) ∈ flatC (Jvm.Cond.and given_1 narrow_1) := by decide +kernel
theorem in_0 : Cond.instantiable RX0 1 ∈ lw_tbl := List.mem_of_getElem? (i := 173) (by decide +kernel)
theorem in_1 : Cond.instantiable RX1 2 ∈ lw_tbl := List.mem_of_getElem? (i := 72) (by decide +kernel)
theorem in_2 : Cond.instantiable RX2 7 ∈ lw_tbl := List.mem_of_getElem? (i := 86) (by decide +kernel)
theorem in_3 : Cond.instantiable RX3 3 ∈ lw_tbl := List.mem_of_getElem? (i := 155) (by decide +kernel)
theorem in_4 : Cond.instantiable RX4 2 ∈ lw_tbl := List.mem_of_getElem? (i := 114) (by decide +kernel)
theorem in_5 : Cond.instantiable RX5 5 ∈ lw_tbl := List.mem_of_getElem? (i := 133) (by decide +kernel)
theorem in_6 : Cond.instantiable RX6 8 ∈ lw_tbl := List.mem_of_getElem? (i := 64) (by decide +kernel)
theorem in_7 : Cond.instantiable RX7 28 ∈ lw_tbl := List.mem_of_getElem? (i := 755) (by decide +kernel)
theorem kn_all {s : State} {args : Array Value} (hts : ∀ w ∈ lw_tbl, w.before args s = true) : ∃ (D : va_G) (cI cN : ClassId), va_K D cls (tys cI cN) s := by
  have hg : ∀ w ∈ gtbl, w.before args s = true := fun w hw => hts w (List.mem_filter.mp hw).1
  obtain ⟨c0, i0, h0⟩ := u_known hg inw_0 (hts _ in_0)
  obtain ⟨c1, i1, h1⟩ := u_known hg inw_1 (hts _ in_1)
  obtain ⟨c2, i2, h2⟩ := u_known hg inw_2 (hts _ in_2)
  obtain ⟨c3, i3, h3⟩ := u_known hg inw_3 (hts _ in_3)
  obtain ⟨c4, i4, h4⟩ := u_known hg inw_4 (hts _ in_4)
  obtain ⟨c5, i5, h5⟩ := u_known hg inw_5 (hts _ in_5)
  obtain ⟨c6, i6, h6⟩ := u_known hg inw_6 (hts _ in_6)
  obtain ⟨c7, i7, h7⟩ := u_known hg inw_7 (hts _ in_7)
  obtain ⟨cI, kI, compI, a1, a2, a3⟩ := Cond.arrayClass_spec (hts _ ac_in)
  obtain ⟨comp, cN, kN, b1, -, b3, b4, b5⟩ := Cond.arrayOver_spec (hts _ ao_in)
  refine ⟨(fun c => match c with | 0 => c0 | 1 => c1 | 2 => c2 | 3 => c3 | 4 => c4 | 5 => c5 | 6 => c6 | _ => c7, fun c => match c with | 0 => i0 | 1 => i1 | 2 => i2 | 3 => i3 | 4 => i4 | 5 => i5 | 6 => i6 | _ => i7), cI, cN, fun c q hq => ?_, fun k q hk => ?_⟩
  · match c, hq with
    | 0, hq => cases hq; exact h0
    | 1, hq => cases hq; exact h1
    | 2, hq => cases hq; exact h2
    | 3, hq => cases hq; exact h3
    | 4, hq => cases hq; exact h4
    | 5, hq => cases hq; exact h5
    | 6, hq => cases hq; exact h6
    | 7, hq => cases hq; exact h7
    | c + 8, hq => simp at hq
  · match k, hk with
    | 0, hk =>
      cases hk
      exact ⟨fun n z => ⟨fun k h => (by cases h), kI, a2, compI, a3⟩, a1⟩
    | 1, hk =>
      cases hk
      exact ⟨fun n z => ⟨fun k h => (by cases h), kN, b3, comp, b4⟩, kN, comp, b3, b4, b1, b5⟩
    | k + 2, hk => simp at hk
abbrev QL : aR := fun v _ c s => v = some (.int 1) ∧ c ≤ 600000 ∧ s ≤ 7302250
theorem law_start (hw : ∀ (L : Nat) (xs : Nat → Int32), L ≤ 384 → wp (600000, 7302250, callok 8) (k_law L xs) QL 0 [some (.retAddr 0), none, none, none] [] [] 0 0) {p : Program} {e : Env} {s : State} {m : MethodId} {below : List Frame} {meth : Method} {c : Code} (l : Launch) {b L : Nat} {xs : Nat → Int32} (hL : L ≤ 384) (C0 : lw_At p s m meth c b L xs) : W p l e room_1 s m #[Value.ref b] below meth c s.heap [] 0 0 (lw_Z below #[Value.ref b] s) (entryFrame m ([Value.ref b] : List Value).toArray 4) := by
  obtain ⟨hx, hb, hr, hml, hown, hts, hX, hbl, hlocks, hgv⟩ := C0
  have hg : ∀ w ∈ gtbl, w.before #[Value.ref b] s = true := fun w hw => hts w (List.mem_filter.mp hw).1
  have hs := flat_of_before _ hgv
  obtain ⟨D, cI, cN, hK⟩ := kn_all hts
  have hA : ∀ a : Nat, a < s.heap.size → ¬ (fun q => s.heap.size ≤ q) a := fun a h1 h2 => Nat.not_le.mpr h1 h2
  obtain ⟨adK, adV, hS, hE⟩ := vk_Sof (args := #[Value.ref b]) (s := s) (N := 1) (tm := fun _ => tmS) (len := [53]) (byt := [fby]) (A := fun q => s.heap.size ≤ q) (fun i hi => by
    match i, hi with
    | 0, _ => decide) (fun i _ => hs _ (by decide +kernel)) (fun i _ => hs _ (by decide +kernel)) (fun i _ => hs _ (by decide +kernel)) (fun i hi => by
    match i, hi with
    | 0, _ => exact hs _ (by decide +kernel)) (fun i hi j hj => by
    match i, hi with
    | 0, _ => exact hs _ (tx_in j hj)) (fun i j hi hj h => absurd (by omega) h) hA
  have hR : vk_R RX6 59 ftx (adK 0) s := vk_R.of (hts _ ws_txt) (hE 0 (by omega))
  have hC := va_Zof (v := .int 1) (A := fun q => s.heap.size ≤ q) (hts _ ws_194) (hts _ ws_55) (va_eqi (hs _ (by decide +kernel))) hA
  have hQ := va_Zqof (A := fun q => s.heap.size ≤ q) (hts _ ws_210) (hts _ ws_57) (hs _ (by decide +kernel)) hA
  obtain ⟨Fm, hFm, hFv⟩ : ∃ Fm : Value, va_Z "jdk/internal/util/Preconditions" "SIOOBE_FORMATTER" "Ljava/util/function/BiFunction;" Fm (fun q => s.heap.size ≤ q) s s.heap ∧ (Fm = .null ∨ ∃ t, Fm = .ref t) := by
    rcases hQ with h | ⟨t, h⟩
    · exact ⟨_, h, Or.inl rfl⟩
    · exact ⟨_, h, Or.inr ⟨t, rfl⟩⟩
  have hS1 : vk_S 1 [53] [fby] (fun _ => adK 0) (fun _ => adV 0) (fun q => s.heap.size ≤ q) s s.heap := ⟨fun i hi => by
    have : i = 0 := by omega
    subst this
    exact hS.1 0 (by omega), fun i j hi hj _ => by omega⟩
  have hTF : TF (adV 0) Fm (fun k => if k = 0 then b else adK 0) (fun q => s.heap.size ≤ q) s := ⟨⟨hS1, hC, hFm, hFv⟩, hR⟩
  have F : FX p room_1 s m #[Value.ref b] meth c D cI cN (fun k => s.heap.size + k) 0 (fun q => s.heap.size ≤ q) 4 RL cL_law false (600000, 7302250, callok 8) 8 :=
    ⟨hx, hb, hml, hown, hg, hK, ⟨fun q hq => va_Nw.of rfl (hts _ (nest_in q hq)), va_AO.of (hts _ ao_in)⟩, fun i j z => Nat.add_left_cancel z, fun k _ => rfl, fun k => Nat.le_add_right _ _, fun q h => h, fun z => Bool.noConfusion z, Nat.le_of_ble_eq_true rfl, Nat.le_of_ble_eq_true rfl, Nat.le_refl _, Nat.le_refl _⟩
  have hT : RT p l e room_1 s m #[Value.ref b] below meth c D cI cN (fun k => s.heap.size + k) (fun k => if k = 0 then b else adK 0) 0 (fun q => s.heap.size ≤ q) (lw_Z below #[Value.ref b] s) cL_law (some .boolean) QL := by
    refine ⟨?_, ?_, ?_⟩
    · rintro x h c0 s0 H locs ls pc - hd ⟨hq, h1, h2⟩ hr2
      cases hq
      refine va_forget (fun q hq => hr2.2.2.2.2 q hq) ?_
      exact W.widen h1 h2 (lw_ret hx hb hr hlocks hd)
    · rintro h c0 s0 H locs ls pc hrt
      cases hrt
    · rintro x h c0 s0 H locs ls pc hrt
      cases hrt
  have hl : lvR (fun k => s.heap.size + k) (fun k => if k = 0 then b else adK 0) ((lg_sl ([Value.ref b]) ++ List.replicate (4 - (lg_sl ([Value.ref b])).length) Slot.unset).toArray) 4 [some (.retAddr 0), none, none, none] := entry_lv (ad := fun k => s.heap.size + k) (ex := fun k => if k = 0 then b else adK 0) (n := 4) (av := [.retAddr 0]) (Nat.le_of_ble_eq_true rfl)
  rw [lg_entry_eq]
  exact hw L xs hL (Sm p l e room_1 s m #[Value.ref b] below meth c D cI cN (fun k => s.heap.size + k) (fun k => if k = 0 then b else adK 0) 0 (fun q => s.heap.size ≤ q) 4 (lw_Z below #[Value.ref b] s)) (fun pc i lo st h' c0 s0 hl hi => s_law L xs (pc, i) (lookup_mem hl) p l e _ s m _ below meth c D cI cN _ _ _ _ _ _ _ _ 8 (adV 0) Fm F rfl rfl ⟨hX, hbl, hA b hbl⟩ hTF hT lo st h' c0 s0 hi) s.heap [] _ ⟨fun k q hk => by simp [wF] at hk, rfl, va_S.rf⟩ hl
