/-! rows that are alike as far as they go are the same row -/
def cE : aC → aC → Prop
  | .inl (n, f), .inl (n', f') => n = n' ∧ ∀ j, j < n → f j = f' j
  | c, c' => c = c'
def hE : List aC → List aC → Prop
  | [], [] => True
  | c :: t, c' :: t' => cE c c' ∧ hE t t'
  | _, _ => False
theorem cE_rf (c : aC) : cE c c := by
  rcases c with ⟨n, f⟩ | c
  · exact ⟨rfl, fun _ _ => rfl⟩
  · rfl
theorem hE_rf : ∀ h : List aC, hE h h
  | [] => trivial
  | c :: t => ⟨cE_rf c, hE_rf t⟩
theorem hE_len : ∀ {h h' : List aC}, hE h h' → h.length = h'.length
  | [], [], _ => rfl
  | c :: t, c' :: t', e => by rw [List.length_cons, List.length_cons, hE_len e.2]
  | [], _ :: _, e => e.elim
  | _ :: _, [], e => e.elim
theorem hE_get : ∀ {h h' : List aC} {k : Nat} {c' : aC}, hE h h' → h'[k]? = some c' → ∃ c, h[k]? = some c ∧ cE c c'
  | [], [], k, c', _, hk => by simp at hk
  | c :: t, d :: t', 0, c', e, hk => by cases hk; exact ⟨c, rfl, e.1⟩
  | c :: t, d :: t', k + 1, c', e, hk => hE_get (h := t) (h' := t') (k := k) e.2 hk
  | [], _ :: _, _, _, e, _ => e.elim
  | _ :: _, [], _, _, e, _ => e.elim
theorem cE_at {D : va_G} {cI cN : ClassId} {ad ex : Nat → Nat} {a : Nat} {c c' : aC} {H : Heap} (e : cE c c') (h : va_at D cls (a, tc cI cN ad ex c) H) : va_at D cls (a, tc cI cN ad ex c') H := by
  rcases c with ⟨n, f⟩ | c
  · rcases c' with ⟨n', f'⟩ | c'
    · obtain ⟨rfl, e⟩ := e
      have e2 : vp_cell cI (n, .inl f) = vp_cell cI (n, .inl f') := by
        rw [vp_cell_i, vp_cell_i]
        unfold arrV
        congr 2
        funext j
        exact congrArg Value.int (e j.val j.isLt)
      show H[a]? = some (vp_cell cI (n, .inl f'))
      rw [← e2]
      exact h
    · cases e
  · rcases c' with ⟨n', f'⟩ | c'
    · cases e
    · cases e
      exact h
theorem hE_P {D : va_G} {cI cN : ClassId} {ad ex : Nat → Nat} {h h' : List aC} {H : Heap} (e : hE h h') (hP : va_P D cls (wF cI cN ad ex h) H) : va_P D cls (wF cI cN ad ex h') H := by
  intro k q hk
  rw [wF_get] at hk
  obtain ⟨c', hc', rfl⟩ := Option.map_eq_some_iff.mp hk
  obtain ⟨c, hc, e2⟩ := hE_get e hc'
  exact cE_at e2 (hP k _ (wF_at hc))
def stepC (code : Nat → List (Nat × aI)) (C : callP) : callP := fun y mc ms av h Q => (argL av).length ≤ (mt y).2.2.1 ∧ wp (mc, ms, C) (code y) (fun v h' c s => c = mc ∧ s ≤ ms ∧ ∃ h'', hE h' h'' ∧ Q v h'') 0 (entryL (mt y).2.2.1 av) [] h 0 0
theorem Cok_step {l : Launch} {D : va_G} {cI cN : ClassId} {ex : Nat → Nat} {d : Nat} {C : callP} {code : Nat → List (Nat × aI)} (hp : ∀ y, plainName (mt y).1.cls = true) (hs : ∀ y, ∃ ini : Bool, (ini = true → (mt y).1.name = "<init>") ∧ ∀ q ∈ code y, Snd (mt y).1.cls (mt y).2.1 (mt y).2.2.2 ini q.1 q.2) (hC : Cok l D cI cN ex d C) : Cok l D cI cN ex (d + 1) (stepC code C) := by
  intro y mc ms av h Q w ad sz hinj hnew
  obtain ⟨ini, hini, hs⟩ := hs y
  obtain ⟨hlen, w⟩ := w
  refine Met.ofW (cc := (mt y).2.1) (maxL := (mt y).2.2.1) (ret := (mt y).2.2.2) (hp y) rfl ?_
  intro p e s m args below meth c s₁ B hml hv
  obtain ⟨rfl, hsz, hP, hK, hX⟩ := hv
  have hlocks := B.notSynchronized
  subst hsz
  have hA : ∀ q : Nat, s.heap.size ≤ q → (fun q => ∃ k, q = ad k) q := fun q hq => ⟨h.length + (q - s.heap.size), by have := hnew (h.length + (q - s.heap.size)) (by omega); omega⟩
  have F : FX p (headSpec (mws y) (rmD (d + 1) mc ms)).room s m (av.map (tv ad ex)).toArray meth c D cI cN ad h.length (fun q => ∃ k, q = ad k) (mt y).2.2.1 (mt y).1.cls (mt y).2.1 ini (mc, ms, C) d :=
    ⟨B.exec, B.bytes, hml, findClass_of_methodNamed B.named, fun w hw => atoms_spec (ws := mws y) B.pre w (List.mem_cons_of_mem _ hw), hK, hX, hinj, hnew, fun k => ⟨k, rfl⟩, hA, fun z => (name_of_methodNamed B.named B.method).1.trans (hini z), Nat.le_refl _, Nat.le_of_eq (Nat.mul_succ 40 d).symm, Nat.le_refl _, Nat.le_refl _⟩
  have hT : RT p l e (headSpec (mws y) (rmD (d + 1) mc ms)).room s m (av.map (tv ad ex)).toArray below meth c D cI cN ad ex h.length (fun q => ∃ k, q = ad k) (MQ below (QcA D cI cN ad ex (h.length + mc) Q) (av.map (tv ad ex)).toArray s mc ms (fun q => ∃ k, q = ad k)) (mt y).2.1 (mt y).2.2.2 (fun v h' c s => c = mc ∧ s ≤ ms ∧ ∃ h'', hE h' h'' ∧ Q v h'') := by
    refine ⟨?_, ?_, ?_⟩
    · rintro x h' c0 s0 H locs ls pc hrt hd ⟨rfl, hs0, h'', he, hq⟩ hr
      refine W.widen (k := c0) (n := ms) (Nat.le_refl _) hs0 ?_
      rcases hrt with hrt | ⟨hrt, hx⟩
      · exact W.iret B.exec B.bytes (B.returns.trans hrt) (fun t ht hW => ⟨⟨some (.int x), h'', rfl, hq, (hE_len he).symm.trans hr.2.1, by rw [ht]; exact hE_P he hr.1⟩, hr.2.2.F ht⟩) hr.2.2.2.2 hd
      · exact W.zret B.exec B.bytes (B.returns.trans hrt) (by rcases hx with rfl | rfl <;> decide) (fun t ht hW => ⟨⟨some (.int x), h'', rfl, hq, (hE_len he).symm.trans hr.2.1, by rw [ht]; exact hE_P he hr.1⟩, hr.2.2.F ht⟩) hr.2.2.2.2 hd
    · rintro h' c0 s0 H locs ls pc hrt hd ⟨rfl, hs0, h'', he, hq⟩ hr
      refine W.widen (k := c0) (n := ms) (Nat.le_refl _) hs0 ?_
      exact W.vret B.exec B.bytes (B.returns.trans hrt) (fun t ht hW => ⟨⟨none, h'', rfl, hq, (hE_len he).symm.trans hr.2.1, by rw [ht]; exact hE_P he hr.1⟩, hr.2.2.F ht⟩) hr.2.2.2.2 hd
    · rintro x h' c0 s0 H locs ls pc hrt hd ⟨rfl, hs0, h'', he, hq⟩ hr
      refine W.widen (k := c0) (n := ms) (Nat.le_refl _) hs0 ?_
      exact W.lret B.exec B.bytes (B.returns.trans hrt) (fun t ht hW => ⟨⟨some (.long x), h'', rfl, hq, (hE_len he).symm.trans hr.2.1, by rw [ht]; exact hE_P he hr.1⟩, hr.2.2.F ht⟩) hr.2.2.2.2 hd
  rw [lg_entry_eq]
  exact w (Sm p l e (headSpec (mws y) (rmD (d + 1) mc ms)).room s m (av.map (tv ad ex)).toArray below meth c D cI cN ad ex h.length (fun q => ∃ k, q = ad k) (mt y).2.2.1 (MQ below (QcA D cI cN ad ex (h.length + mc) Q) (av.map (tv ad ex)).toArray s mc ms (fun q => ∃ k, q = ad k))) (fun pc i lo st h' c0 s0 hl hi => hs (pc, i) (lookup_mem hl) p l e _ s m _ below meth c D cI cN ad ex _ _ _ _ _ _ d F hC hT lo st h' c0 s0 hi) s.heap [] _ ⟨hP, rfl, va_S.rf⟩ (entry_lv hlen)

/-! all methods together -/
def k_X6_init : List (Nat × aI) := []
theorem s_X6_init : ∀ q ∈ k_X6_init, Snd RX6 cX6_init none true q.1 q.2 := fun _ h => absurd h List.not_mem_nil
theorem m_X6_init : ∀ q ∈ k_X6_init, Mono q.2 := fun _ h => absurd h List.not_mem_nil
def CT : List (List (Nat × aI)) := [k_X0_init, k_X0_tellingDays, k_X0_waysOf, k_X0_topBehind, k_X0_liveCentury, k_X0_draw, k_X0_actBy, k_X0_modulo, k_X1_init, k_X1_length, k_X1_clear, k_X1_append, k_X1_readInto, k_X1_itemEnd, k_X1_houseEnd, k_X1_mouseEnd, k_X1_wishEnd, k_X1_figuresFrom, k_X1_figureAt, k_X1_letterAt, k_X2_init, k_X2_clear, k_X2_become, k_X2_fits, k_X2_addHouse, k_X2_houses, k_X2_rooms, k_X2_bottom, k_X2_hasHouse, k_X2_hasRoom, k_X2_thing, k_X2_place, k_X2_placeAll, k_X2_kind, k_X2_setKind, k_X2_hasMouse, k_X2_toggleMouse, k_X2_mice, k_X2_wish, k_X2_setWish, k_X2_wishes, k_X2_metRooms, k_X2_day, k_X2_addDays, k_X2_shift, k_X2_comeUp, k_X2_live, k_X2_takeFromWithin, k_X2_nextThing, k_X2_nearer, k_X2_roomAfter, k_X2_roomAbove, k_X3_init, k_X3_thingBehind, k_X3_metBehind, k_X3_firstDayOf, k_X3_firstQuietDay, k_X3_fewestPins, k_X3_leastThingFor, k_X3_bestPin, k_X3_tryThings, k_X3_worstMouse, k_X3_mostTelling, k_X3_gatherValues, k_X3_hasBit, k_X4_init, k_X4_clear, k_X4_size, k_X4_isFull, k_X4_put, k_X4_takeInto, k_X4_dropOldest, k_X5_init, k_X5_size, k_X5_clear, k_X5_add, k_X5_comeTrueIn, k_X5_furthestDay, k_X5_areSo, k_X6_init, k_X6_write, k_X6_wipe, k_X6_fault, k_X6_lay, k_X6_room, k_X6_house, k_X6_wanted, k_X6_pass, k_X6_pin, k_X6_sneeze, k_X6_mouse, k_X6_chase, k_X6_want, k_X6_undo, k_X6_behind, k_X6_when, k_X6_rest, k_X6_met, k_X6_pins, k_X6_one, k_X6_harm, k_X6_seen, k_X6_forget, k_X6_kinds, k_X6_stood, k_X6_tells, k_X6_likely, k_X6_century, k_X6_keep, k_X6_back, k_X6_count, k_X6_setMouse, k_X6_orNone, k_X6_isThing, k_X6_within, k_X6_power, k_X6_commonDivisor, k_X7_in, k_X7_has, k_X7_bits, k_X7_init, k_X7_first, k_X7_isHouse, k_X7_isRoom, k_X7_write, k_X7_wipe, k_X7_here, k_X7_figure, k_X7_sign, k_X7_readsHouse, k_X7_readsMouse, k_X7_readsWant, k_X7_readsItem, k_X7_fault, k_X7_lay, k_X7_room, k_X7_house, k_X7_wanted, k_X7_thingThen, k_X7_passes, k_X7_goesOn, k_X7_metNow, k_X7_wantedAll, k_X7_mouseMany, k_X7_lays, k_X7_takes, k_X7_notes, k_X7_pass, k_X7_pin, k_X7_sneezes, k_X7_sneeze, k_X7_mousing, k_X7_mouse, k_X7_chase, k_X7_want, k_X7_undo, k_X7_puts, k_X7_puttingBack, k_X7_behind, k_X7_when, k_X7_rest, k_X7_metBehind, k_X7_met, k_X7_pinsFor, k_X7_pins, k_X7_one, k_X7_harm, k_X7_seen, k_X7_forget, k_X7_isSo, k_X7_kinds, k_X7_stood, k_X7_rowBehind, k_X7_unlike, k_X7_tells, k_X7_common, k_X7_likely, k_X7_century, k_X7_keep, k_X7_back, k_X7_count, k_J_bitCount, k_J_fill]
def mcode (y : Nat) : List (Nat × aI) := CT.getD y []
def callok : Nat → callP
  | 0 => fun _ _ _ _ _ _ => False
  | d + 1 => stepC mcode (callok d)
def GoodM (m : MethodName × ByteArray × Nat × Option FieldType) (k : List (Nat × aI)) : Prop := plainName m.1.cls = true ∧ (∃ ini : Bool, (ini = true → m.1.name = "<init>") ∧ ∀ q ∈ k, Snd m.1.cls m.2.1 m.2.2.2 ini q.1 q.2) ∧ ∀ q ∈ k, Mono q.2
def AllG : List (MethodName × ByteArray × Nat × Option FieldType) → List (List (Nat × aI)) → Prop
  | [], _ => True
  | _ :: _, [] => False
  | m :: ms, k :: ks => GoodM m k ∧ AllG ms ks
theorem AllG.cons {m : MethodName × ByteArray × Nat × Option FieldType} {k : List (Nat × aI)} {ms : List (MethodName × ByteArray × Nat × Option FieldType)} {ks : List (List (Nat × aI))} (h : GoodM m k) (t : AllG ms ks) : AllG (m :: ms) (k :: ks) := ⟨h, t⟩
theorem AllG.get : ∀ (ms : List (MethodName × ByteArray × Nat × Option FieldType)) (ks : List (List (Nat × aI))) (y : Nat) (m : MethodName × ByteArray × Nat × Option FieldType) (k : List (Nat × aI)), AllG ms ks → ms[y]? = some m → ks[y]? = some k → GoodM m k
  | [], _, y, m, k, _, h, _ => by simp at h
  | _ :: _, [], y, m, k, _, _, h => by simp at h
  | a :: ms, b :: ks, 0, m, k, g, h1, h2 => by cases h1; cases h2; exact g.1
  | a :: ms, b :: ks, y + 1, m, k, g, h1, h2 => AllG.get ms ks y m k g.2 h1 h2
theorem all_good : AllG MT CT := by
  unfold MT CT
  refine AllG.cons ⟨by decide +kernel, ⟨true, fun _ => rfl, s_X0_init⟩, m_X0_init⟩ ?_
  refine AllG.cons ⟨by decide +kernel, ⟨false, fun z => Bool.noConfusion z, s_X0_tellingDays⟩, m_X0_tellingDays⟩ ?_
  refine AllG.cons ⟨by decide +kernel, ⟨false, fun z => Bool.noConfusion z, s_X0_waysOf⟩, m_X0_waysOf⟩ ?_
  refine AllG.cons ⟨by decide +kernel, ⟨false, fun z => Bool.noConfusion z, s_X0_topBehind⟩, m_X0_topBehind⟩ ?_
  refine AllG.cons ⟨by decide +kernel, ⟨false, fun z => Bool.noConfusion z, s_X0_liveCentury⟩, m_X0_liveCentury⟩ ?_
  refine AllG.cons ⟨by decide +kernel, ⟨false, fun z => Bool.noConfusion z, s_X0_draw⟩, m_X0_draw⟩ ?_
  refine AllG.cons ⟨by decide +kernel, ⟨false, fun z => Bool.noConfusion z, s_X0_actBy⟩, m_X0_actBy⟩ ?_
  refine AllG.cons ⟨by decide +kernel, ⟨false, fun z => Bool.noConfusion z, s_X0_modulo⟩, m_X0_modulo⟩ ?_
  refine AllG.cons ⟨by decide +kernel, ⟨true, fun _ => rfl, s_X1_init⟩, m_X1_init⟩ ?_
  refine AllG.cons ⟨by decide +kernel, ⟨false, fun z => Bool.noConfusion z, s_X1_length⟩, m_X1_length⟩ ?_
  refine AllG.cons ⟨by decide +kernel, ⟨false, fun z => Bool.noConfusion z, s_X1_clear⟩, m_X1_clear⟩ ?_
  refine AllG.cons ⟨by decide +kernel, ⟨false, fun z => Bool.noConfusion z, s_X1_append⟩, m_X1_append⟩ ?_
  refine AllG.cons ⟨by decide +kernel, ⟨false, fun z => Bool.noConfusion z, s_X1_readInto⟩, m_X1_readInto⟩ ?_
  refine AllG.cons ⟨by decide +kernel, ⟨false, fun z => Bool.noConfusion z, s_X1_itemEnd⟩, m_X1_itemEnd⟩ ?_
  refine AllG.cons ⟨by decide +kernel, ⟨false, fun z => Bool.noConfusion z, s_X1_houseEnd⟩, m_X1_houseEnd⟩ ?_
  refine AllG.cons ⟨by decide +kernel, ⟨false, fun z => Bool.noConfusion z, s_X1_mouseEnd⟩, m_X1_mouseEnd⟩ ?_
  refine AllG.cons ⟨by decide +kernel, ⟨false, fun z => Bool.noConfusion z, s_X1_wishEnd⟩, m_X1_wishEnd⟩ ?_
  refine AllG.cons ⟨by decide +kernel, ⟨false, fun z => Bool.noConfusion z, s_X1_figuresFrom⟩, m_X1_figuresFrom⟩ ?_
  refine AllG.cons ⟨by decide +kernel, ⟨false, fun z => Bool.noConfusion z, s_X1_figureAt⟩, m_X1_figureAt⟩ ?_
  refine AllG.cons ⟨by decide +kernel, ⟨false, fun z => Bool.noConfusion z, s_X1_letterAt⟩, m_X1_letterAt⟩ ?_
  refine AllG.cons ⟨by decide +kernel, ⟨true, fun _ => rfl, s_X2_init⟩, m_X2_init⟩ ?_
  refine AllG.cons ⟨by decide +kernel, ⟨false, fun z => Bool.noConfusion z, s_X2_clear⟩, m_X2_clear⟩ ?_
  refine AllG.cons ⟨by decide +kernel, ⟨false, fun z => Bool.noConfusion z, s_X2_become⟩, m_X2_become⟩ ?_
  refine AllG.cons ⟨by decide +kernel, ⟨false, fun z => Bool.noConfusion z, s_X2_fits⟩, m_X2_fits⟩ ?_
  refine AllG.cons ⟨by decide +kernel, ⟨false, fun z => Bool.noConfusion z, s_X2_addHouse⟩, m_X2_addHouse⟩ ?_
  refine AllG.cons ⟨by decide +kernel, ⟨false, fun z => Bool.noConfusion z, s_X2_houses⟩, m_X2_houses⟩ ?_
  refine AllG.cons ⟨by decide +kernel, ⟨false, fun z => Bool.noConfusion z, s_X2_rooms⟩, m_X2_rooms⟩ ?_
  refine AllG.cons ⟨by decide +kernel, ⟨false, fun z => Bool.noConfusion z, s_X2_bottom⟩, m_X2_bottom⟩ ?_
  refine AllG.cons ⟨by decide +kernel, ⟨false, fun z => Bool.noConfusion z, s_X2_hasHouse⟩, m_X2_hasHouse⟩ ?_
  refine AllG.cons ⟨by decide +kernel, ⟨false, fun z => Bool.noConfusion z, s_X2_hasRoom⟩, m_X2_hasRoom⟩ ?_
  refine AllG.cons ⟨by decide +kernel, ⟨false, fun z => Bool.noConfusion z, s_X2_thing⟩, m_X2_thing⟩ ?_
  refine AllG.cons ⟨by decide +kernel, ⟨false, fun z => Bool.noConfusion z, s_X2_place⟩, m_X2_place⟩ ?_
  refine AllG.cons ⟨by decide +kernel, ⟨false, fun z => Bool.noConfusion z, s_X2_placeAll⟩, m_X2_placeAll⟩ ?_
  refine AllG.cons ⟨by decide +kernel, ⟨false, fun z => Bool.noConfusion z, s_X2_kind⟩, m_X2_kind⟩ ?_
  refine AllG.cons ⟨by decide +kernel, ⟨false, fun z => Bool.noConfusion z, s_X2_setKind⟩, m_X2_setKind⟩ ?_
  refine AllG.cons ⟨by decide +kernel, ⟨false, fun z => Bool.noConfusion z, s_X2_hasMouse⟩, m_X2_hasMouse⟩ ?_
  refine AllG.cons ⟨by decide +kernel, ⟨false, fun z => Bool.noConfusion z, s_X2_toggleMouse⟩, m_X2_toggleMouse⟩ ?_
  refine AllG.cons ⟨by decide +kernel, ⟨false, fun z => Bool.noConfusion z, s_X2_mice⟩, m_X2_mice⟩ ?_
  refine AllG.cons ⟨by decide +kernel, ⟨false, fun z => Bool.noConfusion z, s_X2_wish⟩, m_X2_wish⟩ ?_
  refine AllG.cons ⟨by decide +kernel, ⟨false, fun z => Bool.noConfusion z, s_X2_setWish⟩, m_X2_setWish⟩ ?_
  refine AllG.cons ⟨by decide +kernel, ⟨false, fun z => Bool.noConfusion z, s_X2_wishes⟩, m_X2_wishes⟩ ?_
  refine AllG.cons ⟨by decide +kernel, ⟨false, fun z => Bool.noConfusion z, s_X2_metRooms⟩, m_X2_metRooms⟩ ?_
  refine AllG.cons ⟨by decide +kernel, ⟨false, fun z => Bool.noConfusion z, s_X2_day⟩, m_X2_day⟩ ?_
  refine AllG.cons ⟨by decide +kernel, ⟨false, fun z => Bool.noConfusion z, s_X2_addDays⟩, m_X2_addDays⟩ ?_
  refine AllG.cons ⟨by decide +kernel, ⟨false, fun z => Bool.noConfusion z, s_X2_shift⟩, m_X2_shift⟩ ?_
  refine AllG.cons ⟨by decide +kernel, ⟨false, fun z => Bool.noConfusion z, s_X2_comeUp⟩, m_X2_comeUp⟩ ?_
  refine AllG.cons ⟨by decide +kernel, ⟨false, fun z => Bool.noConfusion z, s_X2_live⟩, m_X2_live⟩ ?_
  refine AllG.cons ⟨by decide +kernel, ⟨false, fun z => Bool.noConfusion z, s_X2_takeFromWithin⟩, m_X2_takeFromWithin⟩ ?_
  refine AllG.cons ⟨by decide +kernel, ⟨false, fun z => Bool.noConfusion z, s_X2_nextThing⟩, m_X2_nextThing⟩ ?_
  refine AllG.cons ⟨by decide +kernel, ⟨false, fun z => Bool.noConfusion z, s_X2_nearer⟩, m_X2_nearer⟩ ?_
  refine AllG.cons ⟨by decide +kernel, ⟨false, fun z => Bool.noConfusion z, s_X2_roomAfter⟩, m_X2_roomAfter⟩ ?_
  refine AllG.cons ⟨by decide +kernel, ⟨false, fun z => Bool.noConfusion z, s_X2_roomAbove⟩, m_X2_roomAbove⟩ ?_
  refine AllG.cons ⟨by decide +kernel, ⟨true, fun _ => rfl, s_X3_init⟩, m_X3_init⟩ ?_
  refine AllG.cons ⟨by decide +kernel, ⟨false, fun z => Bool.noConfusion z, s_X3_thingBehind⟩, m_X3_thingBehind⟩ ?_
  refine AllG.cons ⟨by decide +kernel, ⟨false, fun z => Bool.noConfusion z, s_X3_metBehind⟩, m_X3_metBehind⟩ ?_
  refine AllG.cons ⟨by decide +kernel, ⟨false, fun z => Bool.noConfusion z, s_X3_firstDayOf⟩, m_X3_firstDayOf⟩ ?_
  refine AllG.cons ⟨by decide +kernel, ⟨false, fun z => Bool.noConfusion z, s_X3_firstQuietDay⟩, m_X3_firstQuietDay⟩ ?_
  refine AllG.cons ⟨by decide +kernel, ⟨false, fun z => Bool.noConfusion z, s_X3_fewestPins⟩, m_X3_fewestPins⟩ ?_
  refine AllG.cons ⟨by decide +kernel, ⟨false, fun z => Bool.noConfusion z, s_X3_leastThingFor⟩, m_X3_leastThingFor⟩ ?_
  refine AllG.cons ⟨by decide +kernel, ⟨false, fun z => Bool.noConfusion z, s_X3_bestPin⟩, m_X3_bestPin⟩ ?_
  refine AllG.cons ⟨by decide +kernel, ⟨false, fun z => Bool.noConfusion z, s_X3_tryThings⟩, m_X3_tryThings⟩ ?_
  refine AllG.cons ⟨by decide +kernel, ⟨false, fun z => Bool.noConfusion z, s_X3_worstMouse⟩, m_X3_worstMouse⟩ ?_
  refine AllG.cons ⟨by decide +kernel, ⟨false, fun z => Bool.noConfusion z, s_X3_mostTelling⟩, m_X3_mostTelling⟩ ?_
  refine AllG.cons ⟨by decide +kernel, ⟨false, fun z => Bool.noConfusion z, s_X3_gatherValues⟩, m_X3_gatherValues⟩ ?_
  refine AllG.cons ⟨by decide +kernel, ⟨false, fun z => Bool.noConfusion z, s_X3_hasBit⟩, m_X3_hasBit⟩ ?_
  refine AllG.cons ⟨by decide +kernel, ⟨true, fun _ => rfl, s_X4_init⟩, m_X4_init⟩ ?_
  refine AllG.cons ⟨by decide +kernel, ⟨false, fun z => Bool.noConfusion z, s_X4_clear⟩, m_X4_clear⟩ ?_
  refine AllG.cons ⟨by decide +kernel, ⟨false, fun z => Bool.noConfusion z, s_X4_size⟩, m_X4_size⟩ ?_
  refine AllG.cons ⟨by decide +kernel, ⟨false, fun z => Bool.noConfusion z, s_X4_isFull⟩, m_X4_isFull⟩ ?_
  refine AllG.cons ⟨by decide +kernel, ⟨false, fun z => Bool.noConfusion z, s_X4_put⟩, m_X4_put⟩ ?_
  refine AllG.cons ⟨by decide +kernel, ⟨false, fun z => Bool.noConfusion z, s_X4_takeInto⟩, m_X4_takeInto⟩ ?_
  refine AllG.cons ⟨by decide +kernel, ⟨false, fun z => Bool.noConfusion z, s_X4_dropOldest⟩, m_X4_dropOldest⟩ ?_
  refine AllG.cons ⟨by decide +kernel, ⟨true, fun _ => rfl, s_X5_init⟩, m_X5_init⟩ ?_
  refine AllG.cons ⟨by decide +kernel, ⟨false, fun z => Bool.noConfusion z, s_X5_size⟩, m_X5_size⟩ ?_
  refine AllG.cons ⟨by decide +kernel, ⟨false, fun z => Bool.noConfusion z, s_X5_clear⟩, m_X5_clear⟩ ?_
  refine AllG.cons ⟨by decide +kernel, ⟨false, fun z => Bool.noConfusion z, s_X5_add⟩, m_X5_add⟩ ?_
  refine AllG.cons ⟨by decide +kernel, ⟨false, fun z => Bool.noConfusion z, s_X5_comeTrueIn⟩, m_X5_comeTrueIn⟩ ?_
  refine AllG.cons ⟨by decide +kernel, ⟨false, fun z => Bool.noConfusion z, s_X5_furthestDay⟩, m_X5_furthestDay⟩ ?_
  refine AllG.cons ⟨by decide +kernel, ⟨false, fun z => Bool.noConfusion z, s_X5_areSo⟩, m_X5_areSo⟩ ?_
  refine AllG.cons ⟨by decide +kernel, ⟨true, fun _ => rfl, s_X6_init⟩, m_X6_init⟩ ?_
  refine AllG.cons ⟨by decide +kernel, ⟨false, fun z => Bool.noConfusion z, s_X6_write⟩, m_X6_write⟩ ?_
  refine AllG.cons ⟨by decide +kernel, ⟨false, fun z => Bool.noConfusion z, s_X6_wipe⟩, m_X6_wipe⟩ ?_
  refine AllG.cons ⟨by decide +kernel, ⟨false, fun z => Bool.noConfusion z, s_X6_fault⟩, m_X6_fault⟩ ?_
  refine AllG.cons ⟨by decide +kernel, ⟨false, fun z => Bool.noConfusion z, s_X6_lay⟩, m_X6_lay⟩ ?_
  refine AllG.cons ⟨by decide +kernel, ⟨false, fun z => Bool.noConfusion z, s_X6_room⟩, m_X6_room⟩ ?_
  refine AllG.cons ⟨by decide +kernel, ⟨false, fun z => Bool.noConfusion z, s_X6_house⟩, m_X6_house⟩ ?_
  refine AllG.cons ⟨by decide +kernel, ⟨false, fun z => Bool.noConfusion z, s_X6_wanted⟩, m_X6_wanted⟩ ?_
  refine AllG.cons ⟨by decide +kernel, ⟨false, fun z => Bool.noConfusion z, s_X6_pass⟩, m_X6_pass⟩ ?_
  refine AllG.cons ⟨by decide +kernel, ⟨false, fun z => Bool.noConfusion z, s_X6_pin⟩, m_X6_pin⟩ ?_
  refine AllG.cons ⟨by decide +kernel, ⟨false, fun z => Bool.noConfusion z, s_X6_sneeze⟩, m_X6_sneeze⟩ ?_
  refine AllG.cons ⟨by decide +kernel, ⟨false, fun z => Bool.noConfusion z, s_X6_mouse⟩, m_X6_mouse⟩ ?_
  refine AllG.cons ⟨by decide +kernel, ⟨false, fun z => Bool.noConfusion z, s_X6_chase⟩, m_X6_chase⟩ ?_
  refine AllG.cons ⟨by decide +kernel, ⟨false, fun z => Bool.noConfusion z, s_X6_want⟩, m_X6_want⟩ ?_
  refine AllG.cons ⟨by decide +kernel, ⟨false, fun z => Bool.noConfusion z, s_X6_undo⟩, m_X6_undo⟩ ?_
  refine AllG.cons ⟨by decide +kernel, ⟨false, fun z => Bool.noConfusion z, s_X6_behind⟩, m_X6_behind⟩ ?_
  refine AllG.cons ⟨by decide +kernel, ⟨false, fun z => Bool.noConfusion z, s_X6_when⟩, m_X6_when⟩ ?_
  refine AllG.cons ⟨by decide +kernel, ⟨false, fun z => Bool.noConfusion z, s_X6_rest⟩, m_X6_rest⟩ ?_
  refine AllG.cons ⟨by decide +kernel, ⟨false, fun z => Bool.noConfusion z, s_X6_met⟩, m_X6_met⟩ ?_
  refine AllG.cons ⟨by decide +kernel, ⟨false, fun z => Bool.noConfusion z, s_X6_pins⟩, m_X6_pins⟩ ?_
  refine AllG.cons ⟨by decide +kernel, ⟨false, fun z => Bool.noConfusion z, s_X6_one⟩, m_X6_one⟩ ?_
  refine AllG.cons ⟨by decide +kernel, ⟨false, fun z => Bool.noConfusion z, s_X6_harm⟩, m_X6_harm⟩ ?_
  refine AllG.cons ⟨by decide +kernel, ⟨false, fun z => Bool.noConfusion z, s_X6_seen⟩, m_X6_seen⟩ ?_
  refine AllG.cons ⟨by decide +kernel, ⟨false, fun z => Bool.noConfusion z, s_X6_forget⟩, m_X6_forget⟩ ?_
  refine AllG.cons ⟨by decide +kernel, ⟨false, fun z => Bool.noConfusion z, s_X6_kinds⟩, m_X6_kinds⟩ ?_
  refine AllG.cons ⟨by decide +kernel, ⟨false, fun z => Bool.noConfusion z, s_X6_stood⟩, m_X6_stood⟩ ?_
  refine AllG.cons ⟨by decide +kernel, ⟨false, fun z => Bool.noConfusion z, s_X6_tells⟩, m_X6_tells⟩ ?_
  refine AllG.cons ⟨by decide +kernel, ⟨false, fun z => Bool.noConfusion z, s_X6_likely⟩, m_X6_likely⟩ ?_
  refine AllG.cons ⟨by decide +kernel, ⟨false, fun z => Bool.noConfusion z, s_X6_century⟩, m_X6_century⟩ ?_
  refine AllG.cons ⟨by decide +kernel, ⟨false, fun z => Bool.noConfusion z, s_X6_keep⟩, m_X6_keep⟩ ?_
  refine AllG.cons ⟨by decide +kernel, ⟨false, fun z => Bool.noConfusion z, s_X6_back⟩, m_X6_back⟩ ?_
  refine AllG.cons ⟨by decide +kernel, ⟨false, fun z => Bool.noConfusion z, s_X6_count⟩, m_X6_count⟩ ?_
  refine AllG.cons ⟨by decide +kernel, ⟨false, fun z => Bool.noConfusion z, s_X6_setMouse⟩, m_X6_setMouse⟩ ?_
  refine AllG.cons ⟨by decide +kernel, ⟨false, fun z => Bool.noConfusion z, s_X6_orNone⟩, m_X6_orNone⟩ ?_
  refine AllG.cons ⟨by decide +kernel, ⟨false, fun z => Bool.noConfusion z, s_X6_isThing⟩, m_X6_isThing⟩ ?_
  refine AllG.cons ⟨by decide +kernel, ⟨false, fun z => Bool.noConfusion z, s_X6_within⟩, m_X6_within⟩ ?_
  refine AllG.cons ⟨by decide +kernel, ⟨false, fun z => Bool.noConfusion z, s_X6_power⟩, m_X6_power⟩ ?_
  refine AllG.cons ⟨by decide +kernel, ⟨false, fun z => Bool.noConfusion z, s_X6_commonDivisor⟩, m_X6_commonDivisor⟩ ?_
  refine AllG.cons ⟨by decide +kernel, ⟨false, fun z => Bool.noConfusion z, s_X7_in⟩, m_X7_in⟩ ?_
  refine AllG.cons ⟨by decide +kernel, ⟨false, fun z => Bool.noConfusion z, s_X7_has⟩, m_X7_has⟩ ?_
  refine AllG.cons ⟨by decide +kernel, ⟨false, fun z => Bool.noConfusion z, s_X7_bits⟩, m_X7_bits⟩ ?_
  refine AllG.cons ⟨by decide +kernel, ⟨true, fun _ => rfl, s_X7_init⟩, m_X7_init⟩ ?_
  refine AllG.cons ⟨by decide +kernel, ⟨false, fun z => Bool.noConfusion z, s_X7_first⟩, m_X7_first⟩ ?_
  refine AllG.cons ⟨by decide +kernel, ⟨false, fun z => Bool.noConfusion z, s_X7_isHouse⟩, m_X7_isHouse⟩ ?_
  refine AllG.cons ⟨by decide +kernel, ⟨false, fun z => Bool.noConfusion z, s_X7_isRoom⟩, m_X7_isRoom⟩ ?_
  refine AllG.cons ⟨by decide +kernel, ⟨false, fun z => Bool.noConfusion z, s_X7_write⟩, m_X7_write⟩ ?_
  refine AllG.cons ⟨by decide +kernel, ⟨false, fun z => Bool.noConfusion z, s_X7_wipe⟩, m_X7_wipe⟩ ?_
  refine AllG.cons ⟨by decide +kernel, ⟨false, fun z => Bool.noConfusion z, s_X7_here⟩, m_X7_here⟩ ?_
  refine AllG.cons ⟨by decide +kernel, ⟨false, fun z => Bool.noConfusion z, s_X7_figure⟩, m_X7_figure⟩ ?_
  refine AllG.cons ⟨by decide +kernel, ⟨false, fun z => Bool.noConfusion z, s_X7_sign⟩, m_X7_sign⟩ ?_
  refine AllG.cons ⟨by decide +kernel, ⟨false, fun z => Bool.noConfusion z, s_X7_readsHouse⟩, m_X7_readsHouse⟩ ?_
  refine AllG.cons ⟨by decide +kernel, ⟨false, fun z => Bool.noConfusion z, s_X7_readsMouse⟩, m_X7_readsMouse⟩ ?_
  refine AllG.cons ⟨by decide +kernel, ⟨false, fun z => Bool.noConfusion z, s_X7_readsWant⟩, m_X7_readsWant⟩ ?_
  refine AllG.cons ⟨by decide +kernel, ⟨false, fun z => Bool.noConfusion z, s_X7_readsItem⟩, m_X7_readsItem⟩ ?_
  refine AllG.cons ⟨by decide +kernel, ⟨false, fun z => Bool.noConfusion z, s_X7_fault⟩, m_X7_fault⟩ ?_
  refine AllG.cons ⟨by decide +kernel, ⟨false, fun z => Bool.noConfusion z, s_X7_lay⟩, m_X7_lay⟩ ?_
  refine AllG.cons ⟨by decide +kernel, ⟨false, fun z => Bool.noConfusion z, s_X7_room⟩, m_X7_room⟩ ?_
  refine AllG.cons ⟨by decide +kernel, ⟨false, fun z => Bool.noConfusion z, s_X7_house⟩, m_X7_house⟩ ?_
  refine AllG.cons ⟨by decide +kernel, ⟨false, fun z => Bool.noConfusion z, s_X7_wanted⟩, m_X7_wanted⟩ ?_
  refine AllG.cons ⟨by decide +kernel, ⟨false, fun z => Bool.noConfusion z, s_X7_thingThen⟩, m_X7_thingThen⟩ ?_
  refine AllG.cons ⟨by decide +kernel, ⟨false, fun z => Bool.noConfusion z, s_X7_passes⟩, m_X7_passes⟩ ?_
  refine AllG.cons ⟨by decide +kernel, ⟨false, fun z => Bool.noConfusion z, s_X7_goesOn⟩, m_X7_goesOn⟩ ?_
  refine AllG.cons ⟨by decide +kernel, ⟨false, fun z => Bool.noConfusion z, s_X7_metNow⟩, m_X7_metNow⟩ ?_
  refine AllG.cons ⟨by decide +kernel, ⟨false, fun z => Bool.noConfusion z, s_X7_wantedAll⟩, m_X7_wantedAll⟩ ?_
  refine AllG.cons ⟨by decide +kernel, ⟨false, fun z => Bool.noConfusion z, s_X7_mouseMany⟩, m_X7_mouseMany⟩ ?_
  refine AllG.cons ⟨by decide +kernel, ⟨false, fun z => Bool.noConfusion z, s_X7_lays⟩, m_X7_lays⟩ ?_
  refine AllG.cons ⟨by decide +kernel, ⟨false, fun z => Bool.noConfusion z, s_X7_takes⟩, m_X7_takes⟩ ?_
  refine AllG.cons ⟨by decide +kernel, ⟨false, fun z => Bool.noConfusion z, s_X7_notes⟩, m_X7_notes⟩ ?_
  refine AllG.cons ⟨by decide +kernel, ⟨false, fun z => Bool.noConfusion z, s_X7_pass⟩, m_X7_pass⟩ ?_
  refine AllG.cons ⟨by decide +kernel, ⟨false, fun z => Bool.noConfusion z, s_X7_pin⟩, m_X7_pin⟩ ?_
  refine AllG.cons ⟨by decide +kernel, ⟨false, fun z => Bool.noConfusion z, s_X7_sneezes⟩, m_X7_sneezes⟩ ?_
  refine AllG.cons ⟨by decide +kernel, ⟨false, fun z => Bool.noConfusion z, s_X7_sneeze⟩, m_X7_sneeze⟩ ?_
  refine AllG.cons ⟨by decide +kernel, ⟨false, fun z => Bool.noConfusion z, s_X7_mousing⟩, m_X7_mousing⟩ ?_
  refine AllG.cons ⟨by decide +kernel, ⟨false, fun z => Bool.noConfusion z, s_X7_mouse⟩, m_X7_mouse⟩ ?_
  refine AllG.cons ⟨by decide +kernel, ⟨false, fun z => Bool.noConfusion z, s_X7_chase⟩, m_X7_chase⟩ ?_
  refine AllG.cons ⟨by decide +kernel, ⟨false, fun z => Bool.noConfusion z, s_X7_want⟩, m_X7_want⟩ ?_
  refine AllG.cons ⟨by decide +kernel, ⟨false, fun z => Bool.noConfusion z, s_X7_undo⟩, m_X7_undo⟩ ?_
  refine AllG.cons ⟨by decide +kernel, ⟨false, fun z => Bool.noConfusion z, s_X7_puts⟩, m_X7_puts⟩ ?_
  refine AllG.cons ⟨by decide +kernel, ⟨false, fun z => Bool.noConfusion z, s_X7_puttingBack⟩, m_X7_puttingBack⟩ ?_
  refine AllG.cons ⟨by decide +kernel, ⟨false, fun z => Bool.noConfusion z, s_X7_behind⟩, m_X7_behind⟩ ?_
  refine AllG.cons ⟨by decide +kernel, ⟨false, fun z => Bool.noConfusion z, s_X7_when⟩, m_X7_when⟩ ?_
  refine AllG.cons ⟨by decide +kernel, ⟨false, fun z => Bool.noConfusion z, s_X7_rest⟩, m_X7_rest⟩ ?_
  refine AllG.cons ⟨by decide +kernel, ⟨false, fun z => Bool.noConfusion z, s_X7_metBehind⟩, m_X7_metBehind⟩ ?_
  refine AllG.cons ⟨by decide +kernel, ⟨false, fun z => Bool.noConfusion z, s_X7_met⟩, m_X7_met⟩ ?_
  refine AllG.cons ⟨by decide +kernel, ⟨false, fun z => Bool.noConfusion z, s_X7_pinsFor⟩, m_X7_pinsFor⟩ ?_
  refine AllG.cons ⟨by decide +kernel, ⟨false, fun z => Bool.noConfusion z, s_X7_pins⟩, m_X7_pins⟩ ?_
  refine AllG.cons ⟨by decide +kernel, ⟨false, fun z => Bool.noConfusion z, s_X7_one⟩, m_X7_one⟩ ?_
  refine AllG.cons ⟨by decide +kernel, ⟨false, fun z => Bool.noConfusion z, s_X7_harm⟩, m_X7_harm⟩ ?_
  refine AllG.cons ⟨by decide +kernel, ⟨false, fun z => Bool.noConfusion z, s_X7_seen⟩, m_X7_seen⟩ ?_
  refine AllG.cons ⟨by decide +kernel, ⟨false, fun z => Bool.noConfusion z, s_X7_forget⟩, m_X7_forget⟩ ?_
  refine AllG.cons ⟨by decide +kernel, ⟨false, fun z => Bool.noConfusion z, s_X7_isSo⟩, m_X7_isSo⟩ ?_
  refine AllG.cons ⟨by decide +kernel, ⟨false, fun z => Bool.noConfusion z, s_X7_kinds⟩, m_X7_kinds⟩ ?_
  refine AllG.cons ⟨by decide +kernel, ⟨false, fun z => Bool.noConfusion z, s_X7_stood⟩, m_X7_stood⟩ ?_
  refine AllG.cons ⟨by decide +kernel, ⟨false, fun z => Bool.noConfusion z, s_X7_rowBehind⟩, m_X7_rowBehind⟩ ?_
  refine AllG.cons ⟨by decide +kernel, ⟨false, fun z => Bool.noConfusion z, s_X7_unlike⟩, m_X7_unlike⟩ ?_
  refine AllG.cons ⟨by decide +kernel, ⟨false, fun z => Bool.noConfusion z, s_X7_tells⟩, m_X7_tells⟩ ?_
  refine AllG.cons ⟨by decide +kernel, ⟨false, fun z => Bool.noConfusion z, s_X7_common⟩, m_X7_common⟩ ?_
  refine AllG.cons ⟨by decide +kernel, ⟨false, fun z => Bool.noConfusion z, s_X7_likely⟩, m_X7_likely⟩ ?_
  refine AllG.cons ⟨by decide +kernel, ⟨false, fun z => Bool.noConfusion z, s_X7_century⟩, m_X7_century⟩ ?_
  refine AllG.cons ⟨by decide +kernel, ⟨false, fun z => Bool.noConfusion z, s_X7_keep⟩, m_X7_keep⟩ ?_
  refine AllG.cons ⟨by decide +kernel, ⟨false, fun z => Bool.noConfusion z, s_X7_back⟩, m_X7_back⟩ ?_
  refine AllG.cons ⟨by decide +kernel, ⟨false, fun z => Bool.noConfusion z, s_X7_count⟩, m_X7_count⟩ ?_
  refine AllG.cons ⟨by decide +kernel, ⟨false, fun z => Bool.noConfusion z, s_J_bitCount⟩, m_J_bitCount⟩ ?_
  refine AllG.cons ⟨by decide +kernel, ⟨false, fun z => Bool.noConfusion z, s_J_fill⟩, m_J_fill⟩ ?_
  trivial
theorem mt_len : MT.length = 183 := by decide +kernel
theorem ct_len : CT.length = 183 := by decide +kernel
theorem good_y (y : Nat) : GoodM (mt y) (mcode y) := by
  rcases Nat.lt_or_ge y 183 with h | h
  · have e1 : MT[y]? = some (mt y) := by
      unfold mt
      rw [List.getD_eq_getElem?_getD, List.getElem?_eq_getElem (by rw [mt_len]; exact h)]
      rfl
    have e2 : CT[y]? = some (mcode y) := by
      unfold mcode
      rw [List.getD_eq_getElem?_getD, List.getElem?_eq_getElem (by rw [ct_len]; exact h)]
      rfl
    exact AllG.get MT CT y _ _ all_good e1 e2
  · have e1 : mt y = (yX0_init, cX0_init, 1, none) := by
      unfold mt
      rw [List.getD_eq_getElem?_getD, List.getElem?_eq_none (by rw [mt_len]; exact h)]
      rfl
    have e2 : mcode y = [] := by
      unfold mcode
      rw [List.getD_eq_getElem?_getD, List.getElem?_eq_none (by rw [ct_len]; exact h)]
      rfl
    rw [e1, e2]
    exact ⟨by decide +kernel, ⟨true, fun _ => rfl, fun _ h => absurd h List.not_mem_nil⟩, fun _ h => absurd h List.not_mem_nil⟩
theorem mono_y (y : Nat) : ∀ q ∈ mcode y, Mono q.2 := (good_y y).2.2
theorem monoC : ∀ d, MonoC (callok d)
  | 0 => fun _ _ _ _ _ _ _ _ h => h
  | d + 1 => fun y mc ms av h Q Q' hQ w => ⟨w.1, wp_mono (mono_y y) (monoC d) (fun v h' c s z => ⟨z.1, z.2.1, z.2.2.elim (fun h'' z => ⟨h'', z.1, hQ v h'' z.2⟩)⟩) w.2⟩
theorem callok_ok (l : Launch) (D : va_G) (cI cN : ClassId) (ex : Nat → Nat) : ∀ d, Cok l D cI cN ex d (callok d)
  | 0 => fun _ _ _ _ _ _ w => w.elim
  | d + 1 => Cok_step (fun y => (good_y y).1) (fun y => (good_y y).2.1) (callok_ok l D cI cN ex d)
/-- n instructions at once -/
theorem go {mc ms d y : Nat} {Q : aR} (n : Nat) {pc : Nat} {lo : List (Option Value)} {st : List Value} {h : List aC} {c s : Nat} (w : runN (mc, ms, callok d) (mcode y) Q n pc lo st h c s) : wp (mc, ms, callok d) (mcode y) Q pc lo st h c s := runN_wp (mono_y y) (monoC d) n pc lo st h c s w
/-- a method begins -/
theorem beg {mc ms d y : Nat} {av : List Value} {h : List aC} {Q : Option Value → List aC → Prop} (hl : Nat.ble (argL av).length (mt y).2.2.1 = true) (w : wp (mc, ms, callok d) (mcode y) (fun v h' c s => c = mc ∧ s ≤ ms ∧ ∃ h'', hE h' h'' ∧ Q v h'') 0 (entryL (mt y).2.2.1 av) [] h 0 0) : callok (d + 1) y mc ms av h Q := ⟨Nat.le_of_ble_eq_true hl, w⟩
