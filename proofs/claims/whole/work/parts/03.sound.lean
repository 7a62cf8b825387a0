/-! the methods by number; what holds of the machine while one runs -/
def MT : List (MethodName × ByteArray × Nat × Option FieldType) := [(yX0_init, cX0_init, 1, none),
  (yX0_tellingDays, cX0_tellingDays, 2, (some .int)),
  (yX0_waysOf, cX0_waysOf, 11, (some .int)),
  (yX0_topBehind, cX0_topBehind, 6, (some .int)),
  (yX0_liveCentury, cX0_liveCentury, 4, none),
  (yX0_draw, cX0_draw, 4, (some .int)),
  (yX0_actBy, cX0_actBy, 4, none),
  (yX0_modulo, cX0_modulo, 2, (some .int)),
  (yX1_init, cX1_init, 1, none),
  (yX1_length, cX1_length, 1, (some .int)),
  (yX1_clear, cX1_clear, 1, none),
  (yX1_append, cX1_append, 2, (some .boolean)),
  (yX1_readInto, cX1_readInto, 5, (some .int)),
  (yX1_itemEnd, cX1_itemEnd, 3, (some .int)),
  (yX1_houseEnd, cX1_houseEnd, 7, (some .int)),
  (yX1_mouseEnd, cX1_mouseEnd, 4, (some .int)),
  (yX1_wishEnd, cX1_wishEnd, 5, (some .int)),
  (yX1_figuresFrom, cX1_figuresFrom, 3, (some .int)),
  (yX1_figureAt, cX1_figureAt, 3, (some .int)),
  (yX1_letterAt, cX1_letterAt, 2, (some .int)),
  (yX2_init, cX2_init, 1, none),
  (yX2_clear, cX2_clear, 1, none),
  (yX2_become, cX2_become, 2, none),
  (yX2_fits, cX2_fits, 2, (some .boolean)),
  (yX2_addHouse, cX2_addHouse, 3, none),
  (yX2_houses, cX2_houses, 1, (some .int)),
  (yX2_rooms, cX2_rooms, 1, (some .int)),
  (yX2_bottom, cX2_bottom, 1, (some .int)),
  (yX2_hasHouse, cX2_hasHouse, 2, (some .boolean)),
  (yX2_hasRoom, cX2_hasRoom, 2, (some .boolean)),
  (yX2_thing, cX2_thing, 4, (some .int)),
  (yX2_place, cX2_place, 5, none),
  (yX2_placeAll, cX2_placeAll, 4, none),
  (yX2_kind, cX2_kind, 2, (some .int)),
  (yX2_setKind, cX2_setKind, 3, none),
  (yX2_hasMouse, cX2_hasMouse, 2, (some .boolean)),
  (yX2_toggleMouse, cX2_toggleMouse, 2, none),
  (yX2_mice, cX2_mice, 1, (some .int)),
  (yX2_wish, cX2_wish, 2, (some .int)),
  (yX2_setWish, cX2_setWish, 3, none),
  (yX2_wishes, cX2_wishes, 3, (some .int)),
  (yX2_metRooms, cX2_metRooms, 3, (some .int)),
  (yX2_day, cX2_day, 1, (some .int)),
  (yX2_addDays, cX2_addDays, 2, none),
  (yX2_shift, cX2_shift, 4, none),
  (yX2_comeUp, cX2_comeUp, 3, (some .boolean)),
  (yX2_live, cX2_live, 4, none),
  (yX2_takeFromWithin, cX2_takeFromWithin, 5, (some .boolean)),
  (yX2_nextThing, cX2_nextThing, 5, (some .int)),
  (yX2_nearer, cX2_nearer, 2, (some .int)),
  (yX2_roomAfter, cX2_roomAfter, 2, (some .int)),
  (yX2_roomAbove, cX2_roomAbove, 6, (some .int)),
  (yX3_init, cX3_init, 1, none),
  (yX3_thingBehind, cX3_thingBehind, 5, (some .int)),
  (yX3_metBehind, cX3_metBehind, 3, (some .int)),
  (yX3_firstDayOf, cX3_firstDayOf, 5, (some .int)),
  (yX3_firstQuietDay, cX3_firstQuietDay, 3, (some .int)),
  (yX3_fewestPins, cX3_fewestPins, 11, (some .int)),
  (yX3_leastThingFor, cX3_leastThingFor, 3, (some .int)),
  (yX3_bestPin, cX3_bestPin, 12, (some .int)),
  (yX3_tryThings, cX3_tryThings, 5, none),
  (yX3_worstMouse, cX3_worstMouse, 8, (some .int)),
  (yX3_mostTelling, cX3_mostTelling, 9, (some .int)),
  (yX3_gatherValues, cX3_gatherValues, 7, none),
  (yX3_hasBit, cX3_hasBit, 2, (some .boolean)),
  (yX4_init, cX4_init, 3, none),
  (yX4_clear, cX4_clear, 1, none),
  (yX4_size, cX4_size, 1, (some .int)),
  (yX4_isFull, cX4_isFull, 1, (some .boolean)),
  (yX4_put, cX4_put, 2, none),
  (yX4_takeInto, cX4_takeInto, 2, (some .boolean)),
  (yX4_dropOldest, cX4_dropOldest, 3, none),
  (yX5_init, cX5_init, 1, none),
  (yX5_size, cX5_size, 1, (some .int)),
  (yX5_clear, cX5_clear, 1, none),
  (yX5_add, cX5_add, 5, (some .boolean)),
  (yX5_comeTrueIn, cX5_comeTrueIn, 4, (some .boolean)),
  (yX5_furthestDay, cX5_furthestDay, 3, (some .int)),
  (yX5_areSo, cX5_areSo, 4, (some .boolean)),
  (yX6_init, cX6_init, 2, none),
  (yX6_write, cX6_write, 2, (some .int)),
  (yX6_wipe, cX6_wipe, 2, (some .int)),
  (yX6_fault, cX6_fault, 1, (some .int)),
  (yX6_lay, cX6_lay, 1, (some .int)),
  (yX6_room, cX6_room, 3, (some .int)),
  (yX6_house, cX6_house, 3, (some .int)),
  (yX6_wanted, cX6_wanted, 2, (some .int)),
  (yX6_pass, cX6_pass, 2, (some .int)),
  (yX6_pin, cX6_pin, 5, (some .int)),
  (yX6_sneeze, cX6_sneeze, 2, (some .int)),
  (yX6_mouse, cX6_mouse, 2, (some .int)),
  (yX6_chase, cX6_chase, 2, (some .int)),
  (yX6_want, cX6_want, 4, (some .int)),
  (yX6_undo, cX6_undo, 1, (some .int)),
  (yX6_behind, cX6_behind, 4, (some .int)),
  (yX6_when, cX6_when, 3, (some .int)),
  (yX6_rest, cX6_rest, 1, (some .int)),
  (yX6_met, cX6_met, 2, (some .int)),
  (yX6_pins, cX6_pins, 3, (some .int)),
  (yX6_one, cX6_one, 3, (some .int)),
  (yX6_harm, cX6_harm, 3, (some .int)),
  (yX6_seen, cX6_seen, 5, (some .int)),
  (yX6_forget, cX6_forget, 2, (some .int)),
  (yX6_kinds, cX6_kinds, 4, (some .int)),
  (yX6_stood, cX6_stood, 4, (some .int)),
  (yX6_tells, cX6_tells, 4, (some .int)),
  (yX6_likely, cX6_likely, 10, (some .int)),
  (yX6_century, cX6_century, 4, (some .int)),
  (yX6_keep, cX6_keep, 1, (some .int)),
  (yX6_back, cX6_back, 1, (some .int)),
  (yX6_count, cX6_count, 2, (some .int)),
  (yX6_setMouse, cX6_setMouse, 3, (some .int)),
  (yX6_orNone, cX6_orNone, 1, (some .int)),
  (yX6_isThing, cX6_isThing, 1, (some .boolean)),
  (yX6_within, cX6_within, 3, (some .boolean)),
  (yX6_power, cX6_power, 4, (some .int)),
  (yX6_commonDivisor, cX6_commonDivisor, 6, (some .int)),
  (yX7_in, cX7_in, 3, (some .boolean)),
  (yX7_has, cX7_has, 2, (some .boolean)),
  (yX7_bits, cX7_bits, 3, (some .int)),
  (yX7_init, cX7_init, 1, none),
  (yX7_first, cX7_first, 5, none),
  (yX7_isHouse, cX7_isHouse, 2, (some .boolean)),
  (yX7_isRoom, cX7_isRoom, 2, (some .boolean)),
  (yX7_write, cX7_write, 2, (some .int)),
  (yX7_wipe, cX7_wipe, 2, (some .int)),
  (yX7_here, cX7_here, 1, (some .int)),
  (yX7_figure, cX7_figure, 3, (some .int)),
  (yX7_sign, cX7_sign, 2, (some .boolean)),
  (yX7_readsHouse, cX7_readsHouse, 3, (some .boolean)),
  (yX7_readsMouse, cX7_readsMouse, 2, (some .boolean)),
  (yX7_readsWant, cX7_readsWant, 3, (some .boolean)),
  (yX7_readsItem, cX7_readsItem, 2, (some .boolean)),
  (yX7_fault, cX7_fault, 2, (some .int)),
  (yX7_lay, cX7_lay, 2, (some .int)),
  (yX7_room, cX7_room, 3, (some .int)),
  (yX7_house, cX7_house, 3, (some .int)),
  (yX7_wanted, cX7_wanted, 2, (some .int)),
  (yX7_thingThen, cX7_thingThen, 5, (some .int)),
  (yX7_passes, cX7_passes, 4, (some .boolean)),
  (yX7_goesOn, cX7_goesOn, 3, none),
  (yX7_metNow, cX7_metNow, 3, (some .int)),
  (yX7_wantedAll, cX7_wantedAll, 3, (some .int)),
  (yX7_mouseMany, cX7_mouseMany, 3, (some .int)),
  (yX7_lays, cX7_lays, 4, none),
  (yX7_takes, cX7_takes, 4, none),
  (yX7_notes, cX7_notes, 2, none),
  (yX7_pass, cX7_pass, 2, (some .int)),
  (yX7_pin, cX7_pin, 5, (some .int)),
  (yX7_sneezes, cX7_sneezes, 4, none),
  (yX7_sneeze, cX7_sneeze, 2, (some .int)),
  (yX7_mousing, cX7_mousing, 3, (some .int)),
  (yX7_mouse, cX7_mouse, 2, (some .int)),
  (yX7_chase, cX7_chase, 2, (some .int)),
  (yX7_want, cX7_want, 4, (some .int)),
  (yX7_undo, cX7_undo, 1, (some .int)),
  (yX7_puts, cX7_puts, 1, none),
  (yX7_puttingBack, cX7_puttingBack, 1, none),
  (yX7_behind, cX7_behind, 5, (some .int)),
  (yX7_when, cX7_when, 5, (some .int)),
  (yX7_rest, cX7_rest, 2, (some .int)),
  (yX7_metBehind, cX7_metBehind, 3, (some .int)),
  (yX7_met, cX7_met, 2, (some .int)),
  (yX7_pinsFor, cX7_pinsFor, 11, (some .int)),
  (yX7_pins, cX7_pins, 4, (some .int)),
  (yX7_one, cX7_one, 11, (some .int)),
  (yX7_harm, cX7_harm, 7, (some .int)),
  (yX7_seen, cX7_seen, 5, (some .int)),
  (yX7_forget, cX7_forget, 2, (some .int)),
  (yX7_isSo, cX7_isSo, 4, (some .boolean)),
  (yX7_kinds, cX7_kinds, 5, (some .int)),
  (yX7_stood, cX7_stood, 6, (some .int)),
  (yX7_rowBehind, cX7_rowBehind, 5, (some .int)),
  (yX7_unlike, cX7_unlike, 10, (some .int)),
  (yX7_tells, cX7_tells, 8, (some .int)),
  (yX7_common, cX7_common, 10, (some .long)),
  (yX7_likely, cX7_likely, 14, (some .int)),
  (yX7_century, cX7_century, 10, (some .int)),
  (yX7_keep, cX7_keep, 1, (some .int)),
  (yX7_back, cX7_back, 1, (some .int)),
  (yX7_count, cX7_count, 2, (some .int)),
  (yJ6_bitCount_0f7a4, cJ6_bitCount_0f7a4, 1, (some .int)),
  (yJ7_fill_53178, cJ7_fill_53178, 4, none)]
def mt (y : Nat) : MethodName × ByteArray × Nat × Option FieldType := MT.getD y (yX0_init, cX0_init, 1, none)
def nestL : List (String × Nat × MethodName × String) := [(RX6, 9, yX1_init, RX6), (RX6, 18, yX2_init, RX6), (RX4, 21, yX2_init, RX6), (RX6, 40, yX5_init, RX6), (RX6, 47, yX3_init, RX6), (RX3, 11, yX2_init, RX6), (RX6, 54, yX0_init, RX6), (RX0, 11, yX2_init, RX6), (RX1, 47, yX6_within, RX6), (RX2, 46, yX6_within, RX6), (RX1, 80, yX6_isThing, RX6), (RX0, 38, yX6_power, RX6)]
/-- what a state must hold beside the tables: links among nest mates, the class of rows of nurseries -/
def XF (U : State) : Prop := (∀ q ∈ nestL, va_Nw (.methodLinkNest q.1 q.2.1 q.2.2.1 q.2.2.2) U) ∧ va_AO RX2 U
theorem XF.warm {s U : State} (hW : s.WarmedH U.vm) (h : XF s) : XF U := ⟨fun q hq => va_Nw.warmM hW (h.1 q hq), va_AO.moved hW.alike h.2⟩
theorem XF.same {s U : State} (hv : s.vm = U.vm) (h : XF s) : XF U := ⟨fun q hq => va_Nw.same rfl hv (h.1 q hq), va_AO.moved (by rw [hv]; exact Vm.Alike.refl _) h.2⟩
def rmD (d mc ms : Nat) : Room := { frames := d, cells := mc, slots := ms, locals := 40 * d }
def PcA (D : va_G) (cI cN : ClassId) (ad ex : Nat → Nat) (sz : Nat) (av : List Value) (h : List aC) : Array Value → State → Prop := va_Pc (av.map (tv ad ex)) (fun U => U.heap.size = sz ∧ va_P D cls (wF cI cN ad ex h) U.heap ∧ va_K D cls (tys cI cN) U ∧ XF U)
def QcA (D : va_G) (cI cN : ClassId) (ad ex : Nat → Nat) (n0 : Nat) (Q : Option Value → List aC → Prop) : Array Value → State → Outcome → State → Prop := fun _ st oc t => (∃ v h', oc = .returned (v.map (tv ad ex)) ∧ Q v h' ∧ h'.length = n0 ∧ va_P D cls (wF cI cN ad ex h') t.heap) ∧ va_F (fun q => ∃ k, q = ad k) st t
abbrev mws (y : Nat) : List Cond := .code (mt y).1 (mt y).2.1 (mt y).2.2.1 (mt y).2.2.2 :: gtbl
def Cok (l : Launch) (D : va_G) (cI cN : ClassId) (ex : Nat → Nat) (d : Nat) (C : callP) : Prop := ∀ y mc ms av h Q, C y mc ms av h Q → ∀ (ad : Nat → Nat) (sz : Nat), (∀ i j, ad i = ad j → i = j) → (∀ k, h.length ≤ k → ad k + h.length = sz + k) →
  Met l (mt y).1 (mws y) (rmD d mc ms) (PcA D cI cN ad ex sz av h) (QcA D cI cN ad ex (h.length + mc) Q) mc ms (fun q => ∃ k, q = ad k)
/-- the locals -/
def lvR (ad ex : Nat → Nat) (ls : Array Slot) (nL : Nat) (lo : List (Option Value)) : Prop := lo.length = nL ∧ ls.size = nL ∧ lv_wf ls ∧ ∀ (i : Nat) (v : Value), lo[i]? = some (some v) → ls[i]? = some (Slot.val (tv ad ex v))
def la (ad ex : Nat → Nat) (lo : List (Option Value)) : List (Nat × Value) := (List.range lo.length).filterMap (fun i => match lo[i]? with
  | some (some v) => some (i, tv ad ex v)
  | _ => none)
theorem la_mem {ad ex : Nat → Nat} {lo : List (Option Value)} {q : Nat × Value} (h : q ∈ la ad ex lo) : ∃ v, lo[q.1]? = some (some v) ∧ q.2 = tv ad ex v := by
  obtain ⟨i, -, hi⟩ := List.mem_filterMap.mp h
  split at hi
  · rename_i v e
    cases hi
    exact ⟨v, e, rfl⟩
  · cases hi
theorem la_in {ad ex : Nat → Nat} {lo : List (Option Value)} {i : Nat} {v : Value} (h : lo[i]? = some (some v)) : (i, tv ad ex v) ∈ la ad ex lo := by
  refine List.mem_filterMap.mpr ⟨i, List.mem_range.mpr (List.getElem?_eq_some_iff.mp h).1, ?_⟩
  rw [h]
theorem lvR.has {ad ex : Nat → Nat} {ls : Array Slot} {nL : Nat} {lo : List (Option Value)} (h : lvR ad ex ls nL lo) : lv_has ls nL (la ad ex lo) := by
  refine ⟨h.2.1, h.2.2.1, fun q hq => ?_⟩
  obtain ⟨v, h1, h2⟩ := la_mem hq
  rw [h2]
  exact h.2.2.2 _ _ h1
theorem lvR.place {ad ex : Nat → Nat} {ls : Array Slot} {nL i : Nat} {x : Int32} {lo : List (Option Value)} (_ : lvR ad ex ls nL lo) (e : lo[i]? = some (some (.int x))) : ∃ j : Nat, (la ad ex lo)[j]? = some (i, .int x) := List.getElem?_of_mem (la_in (ad := ad) (ex := ex) e)
theorem okS_lt {lo : List (Option Value)} {i : Nat} (h : okS lo i = true) : i < lo.length := by
  unfold okS at h
  simp only [Bool.and_eq_true, decide_eq_true_eq] at h
  exact h.1
theorem okS_prev {ad ex : Nat → Nat} {lo : List (Option Value)} {j : Nat} {v : Value} (h : okS lo (j + 1) = true) (e : lo[j]? = some (some v)) : (tv ad ex v).category = 1 := by
  unfold okS at h
  simp only [Bool.and_eq_true, decide_eq_true_eq, e] at h
  cases v <;> first | rfl | (exact Bool.noConfusion h.2)
theorem lvR.lt {ad ex : Nat → Nat} {ls : Array Slot} {nL i : Nat} {lo : List (Option Value)} (h : lvR ad ex ls nL lo) (e : okS lo i = true) : i < nL := by rw [← h.1]; exact okS_lt e
theorem lvR.lt2 {ad ex : Nat → Nat} {ls : Array Slot} {nL i : Nat} {lo : List (Option Value)} (h : lvR ad ex ls nL lo) (e : (okS lo i && decide (i + 1 < lo.length)) = true) : i + 1 < nL := by
  simp only [Bool.and_eq_true, decide_eq_true_eq] at e
  rw [← h.1]; exact e.2
theorem lvR.st1 {ad ex : Nat → Nat} {ls ls' : Array Slot} {nL i : Nat} {v : Value} {lo : List (Option Value)} (h : lvR ad ex ls nL lo) (e : okS lo i = true) (h' : lv_has ls' nL ((i, tv ad ex v) :: (la ad ex lo).filter (fun q => !(q.1 == i) && !(q.1 + 1 == i && q.2.category == 2)))) : lvR ad ex ls' nL (lo.set i (some v)) := by
  refine ⟨by rw [List.length_set]; exact h.1, h'.1, h'.2.1, fun j w hj => ?_⟩
  rw [List.getElem?_set] at hj
  by_cases hij : i = j
  · subst hij
    rw [if_pos rfl, if_pos (okS_lt e)] at hj
    cases hj
    exact h'.2.2 (i, tv ad ex v) List.mem_cons_self
  · rw [if_neg hij] at hj
    refine h'.2.2 (j, tv ad ex w) (List.mem_cons_of_mem _ (List.mem_filter.mpr ⟨la_in hj, ?_⟩))
    have h1 : (j == i) = false := by simpa using fun z => hij z.symm
    by_cases hp : j + 1 = i
    · subst hp
      have h2 := okS_prev (ad := ad) (ex := ex) e hj
      simp [h1, h2]
    · have h2 : (j + 1 == i) = false := by simpa using hp
      simp [h1, h2]
theorem lvR.st2 {ad ex : Nat → Nat} {ls ls' : Array Slot} {nL i : Nat} {v : Value} {lo : List (Option Value)} (h : lvR ad ex ls nL lo) (e : (okS lo i && decide (i + 1 < lo.length)) = true) (h' : lv_has ls' nL ((i, tv ad ex v) :: (la ad ex lo).filter (fun q => !(q.1 == i) && (!(q.1 == i + 1) && !(q.1 + 1 == i && q.2.category == 2))))) : lvR ad ex ls' nL ((lo.set i (some v)).set (i + 1) none) := by
  simp only [Bool.and_eq_true, decide_eq_true_eq] at e
  obtain ⟨e, -⟩ := e
  refine ⟨by rw [List.length_set, List.length_set]; exact h.1, h'.1, h'.2.1, fun j w hj => ?_⟩
  rw [List.getElem?_set] at hj
  by_cases hq : i + 1 = j
  · rw [if_pos hq] at hj
    split at hj <;> cases hj
  · rw [if_neg hq, List.getElem?_set] at hj
    by_cases hij : i = j
    · subst hij
      rw [if_pos rfl, if_pos (okS_lt e)] at hj
      cases hj
      exact h'.2.2 (i, tv ad ex v) List.mem_cons_self
    · rw [if_neg hij] at hj
      refine h'.2.2 (j, tv ad ex w) (List.mem_cons_of_mem _ (List.mem_filter.mpr ⟨la_in hj, ?_⟩))
      have h1 : (j == i) = false := by simpa using fun z => hij z.symm
      have h3 : (j == i + 1) = false := by simpa using fun z => hq z.symm
      by_cases hp : j + 1 = i
      · subst hp
        have h2 := okS_prev (ad := ad) (ex := ex) e hj
        simp [h1, h2, h3]
      · have h2 : (j + 1 == i) = false := by simpa using hp
        simp [h1, h2, h3]
/-- the heap -/
def Rl (s : State) (D : va_G) (cI cN : ClassId) (ad ex : Nat → Nat) (n0 : Nat) (A : Nat → Prop) (h : List aC) (c0 : Nat) (H : Heap) (locs : List Loc) : Prop := va_P D cls (wF cI cN ad ex h) H ∧ h.length = n0 + c0 ∧ va_S A s.heap H locs
def Sm (p : Program) (l : Launch) (e : Env) (R : Room) (s : State) (m : MethodId) (args : Array Value) (below : List Frame) (meth : Method) (c : Code) (D : va_G) (cI cN : ClassId) (ad ex : Nat → Nat) (n0 : Nat) (A : Nat → Prop) (nL : Nat) (Qw : State → Prop) : aP :=
  fun pc lo st h c0 s0 => ∀ (H : Heap) (locs : List Loc) (ls : Array Slot), Rl s D cI cN ad ex n0 A h c0 H locs → lvR ad ex ls nL lo → W p l e R s m args below meth c H locs c0 s0 Qw (F0 m pc ls (st.map (tv ad ex)))
def FX (p : Program) (R : Room) (s : State) (m : MethodId) (args : Array Value) (meth : Method) (c : Code) (D : va_G) (cI cN : ClassId) (ad : Nat → Nat) (n0 : Nat) (A : Nat → Prop) (nL : Nat) (own : String) (cc : ByteArray) (ini : Bool) (K : aK) (d : Nat) : Prop :=
  p.tables.exec = Jvm.exec ∧ c.code = cc ∧ c.maxLocals = nL ∧ s.vm.findClass own = some m.cls ∧ (∀ w ∈ gtbl, w.before args s = true) ∧ va_K D cls (tys cI cN) s ∧ XF s ∧ (∀ i j, ad i = ad j → i = j) ∧ (∀ k, n0 ≤ k → ad k + n0 = s.heap.size + k) ∧ (∀ k, A (ad k)) ∧ (∀ q, s.heap.size ≤ q → A q) ∧ (ini = true → meth.name = "<init>") ∧ d + 1 ≤ R.frames ∧ 40 * d + 40 ≤ R.locals ∧ K.1 ≤ R.cells ∧ K.2.1 ≤ R.slots
def RT (p : Program) (l : Launch) (e : Env) (R : Room) (s : State) (m : MethodId) (args : Array Value) (below : List Frame) (meth : Method) (c : Code) (D : va_G) (cI cN : ClassId) (ad ex : Nat → Nat) (n0 : Nat) (A : Nat → Prop) (Qw : State → Prop) (cc : ByteArray) (rt : Option FieldType) (Q : aR) : Prop :=
  (∀ (x : Int32) h c0 s0 H locs ls pc, (rt = some .int ∨ (rt = some .boolean ∧ (x = 0 ∨ x = 1))) → decode cc pc = .ok (.ireturn, 1) → Q (some (.int x)) h c0 s0 → Rl s D cI cN ad ex n0 A h c0 H locs → W p l e R s m args below meth c H locs c0 s0 Qw (F0 m pc ls [.int x])) ∧
  (∀ h c0 s0 H locs ls pc, rt = none → decode cc pc = .ok (.return_, 1) → Q none h c0 s0 → Rl s D cI cN ad ex n0 A h c0 H locs → W p l e R s m args below meth c H locs c0 s0 Qw (F0 m pc ls [])) ∧
  (∀ (x : Int64) h c0 s0 H locs ls pc, rt = some .long → decode cc pc = .ok (.lreturn, 1) → Q (some (.long x)) h c0 s0 → Rl s D cI cN ad ex n0 A h c0 H locs → W p l e R s m args below meth c H locs c0 s0 Qw (F0 m pc ls [.long x]))
/-- the machine does what the pure instruction says -/
def Snd (own : String) (cc : ByteArray) (rt : Option FieldType) (ini : Bool) (pc : Nat) (i : aI) : Prop :=
  ∀ (p : Program) (l : Launch) (e : Env) (R : Room) (s : State) (m : MethodId) (args : Array Value) (below : List Frame) (meth : Method) (c : Code) (D : va_G) (cI cN : ClassId) (ad ex : Nat → Nat) (n0 : Nat) (A : Nat → Prop) (nL : Nat) (Qw : State → Prop) (K : aK) (Q : aR) (d : Nat),
    FX p R s m args meth c D cI cN ad n0 A nL own cc ini K d → Cok l D cI cN ex d K.2.2 → RT p l e R s m args below meth c D cI cN ad ex n0 A Qw cc rt Q →
    ∀ lo st h c0 s0, i K (Sm p l e R s m args below meth c D cI cN ad ex n0 A nL Qw) Q pc lo st h c0 s0 → Sm p l e R s m args below meth c D cI cN ad ex n0 A nL Qw pc lo st h c0 s0

theorem snd_iconst {own : String} {cc : ByteArray} {rt : Option FieldType} {ini : Bool} {pc : Nat} {k : Int} {v : Int32} (hd : decode cc pc = .ok (.iconst k, 1)) (hv : Int32.ofInt k = v) : Snd own cc rt ini pc (i_push (.int v) 1) := by
  intro p l e R s m args below meth c D cI cN ad ex n0 A nL Qw K Q d F hC hT lo st h c0 s0 w
  unfold i_push at w
  intro H locs ls hr hl
  exact lv_iconst F.1 F.2.1 hd hv (w H locs ls hr hl)
theorem snd_bipush {own : String} {cc : ByteArray} {rt : Option FieldType} {ini : Bool} {pc : Nat} {k : Int} {v : Int32} (hd : decode cc pc = .ok (.bipush k, 2)) (hv : (Int8.ofInt k).toInt32 = v) : Snd own cc rt ini pc (i_push (.int v) 2) := by
  intro p l e R s m args below meth c D cI cN ad ex n0 A nL Qw K Q d F hC hT lo st h c0 s0 w
  unfold i_push at w
  intro H locs ls hr hl
  exact lv_bipush F.1 F.2.1 hd hv (w H locs ls hr hl)
theorem snd_sipush {own : String} {cc : ByteArray} {rt : Option FieldType} {ini : Bool} {pc : Nat} {k : Int} {v : Int32} (hd : decode cc pc = .ok (.sipush k, 3)) (hv : (Int16.ofInt k).toInt32 = v) : Snd own cc rt ini pc (i_push (.int v) 3) := by
  intro p l e R s m args below meth c D cI cN ad ex n0 A nL Qw K Q d F hC hT lo st h c0 s0 w
  unfold i_push at w
  intro H locs ls hr hl
  exact lv_sipush F.1 F.2.1 hd hv (w H locs ls hr hl)
theorem snd_lconst {own : String} {cc : ByteArray} {rt : Option FieldType} {ini : Bool} {pc : Nat} {k : Fin 2} {v : Int64} (hd : decode cc pc = .ok (.lconst k, 1)) (hv : Int64.ofNat (k : Nat) = v) : Snd own cc rt ini pc (i_push (.long v) 1) := by
  intro p l e R s m args below meth c D cI cN ad ex n0 A nL Qw K Q d F hC hT lo st h c0 s0 w
  unfold i_push at w
  intro H locs ls hr hl
  exact lv_lconst F.1 F.2.1 hd hv (w H locs ls hr hl)
theorem snd_ldcw {own : String} {cc : ByteArray} {rt : Option FieldType} {ini : Bool} {pc : Nat} {k : Nat} {v : Int32} (hd : decode cc pc = .ok (.ldc_w k, 3)) (hw : Cond.constant own k v ∈ lw_tbl) : Snd own cc rt ini pc (i_push (.int v) 3) := by
  intro p l e R s m args below meth c D cI cN ad ex n0 A nL Qw K Q d F hC hT lo st h c0 s0 w
  unfold i_push at w
  intro H locs ls hr hl
  exact lv_ldcw F.1 F.2.1 F.2.2.2.1 (F.2.2.2.2.1 _ (gt_in hw rfl)) hd (w H locs ls hr hl)
theorem snd_ldc {own : String} {cc : ByteArray} {rt : Option FieldType} {ini : Bool} {pc : Nat} {k : Nat} {v : Int32} (hd : decode cc pc = .ok (.ldc k, 2)) (hw : Cond.constant own k v ∈ lw_tbl) : Snd own cc rt ini pc (i_push (.int v) 2) := by
  intro p l e R s m args below meth c D cI cN ad ex n0 A nL Qw K Q d F hC hT lo st h c0 s0 w
  unfold i_push at w
  intro H locs ls hr hl
  exact lv_ldc F.1 F.2.1 F.2.2.2.1 (F.2.2.2.2.1 _ (gt_in hw rfl)) hd (w H locs ls hr hl)
theorem snd_ldc2 {own : String} {cc : ByteArray} {rt : Option FieldType} {ini : Bool} {pc : Nat} {k : Nat} {v : Int64} (hd : decode cc pc = .ok (.ldc2_w k, 3)) (hw : Cond.constantLong own k v ∈ lw_tbl) : Snd own cc rt ini pc (i_push (.long v) 3) := by
  intro p l e R s m args below meth c D cI cN ad ex n0 A nL Qw K Q d F hC hT lo st h c0 s0 w
  unfold i_push at w
  intro H locs ls hr hl
  exact lv_ldc2 F.1 F.2.1 F.2.2.2.1 (F.2.2.2.2.1 _ (gt_in hw rfl)) hd (w H locs ls hr hl)
theorem snd_iload_n {own : String} {cc : ByteArray} {rt : Option FieldType} {ini : Bool} {pc : Nat} {i : Nat} {k : Fin 4} (hd : decode cc pc = .ok (.iload_n k, 1)) (hk : (k : Nat) = i) : Snd own cc rt ini pc (i_iload i 1) := by
  intro p l e R s m args below meth c D cI cN ad ex n0 A nL Qw K Q d F hC hT lo st h c0 s0 w
  unfold i_iload at w
  split at w
  · rename_i x e1
    intro H locs ls hr hl
    exact lv_iload_n F.1 F.2.1 hd hk (hl.2.2.2 _ _ e1) (w H locs ls hr hl)
  · exact w.elim
theorem snd_iload {own : String} {cc : ByteArray} {rt : Option FieldType} {ini : Bool} {pc : Nat} {i : Nat} (hd : decode cc pc = .ok (.iload i, 2)) : Snd own cc rt ini pc (i_iload i 2) := by
  intro p l e R s m args below meth c D cI cN ad ex n0 A nL Qw K Q d F hC hT lo st h c0 s0 w
  unfold i_iload at w
  split at w
  · rename_i x e1
    intro H locs ls hr hl
    exact lv_iload F.1 F.2.1 hd (hl.2.2.2 _ _ e1) (w H locs ls hr hl)
  · exact w.elim
theorem snd_lload_n {own : String} {cc : ByteArray} {rt : Option FieldType} {ini : Bool} {pc : Nat} {i : Nat} {k : Fin 4} (hd : decode cc pc = .ok (.lload_n k, 1)) (hk : (k : Nat) = i) : Snd own cc rt ini pc (i_lload i 1) := by
  intro p l e R s m args below meth c D cI cN ad ex n0 A nL Qw K Q d F hC hT lo st h c0 s0 w
  unfold i_lload at w
  split at w
  · rename_i x e1
    intro H locs ls hr hl
    exact lv_lload_n F.1 F.2.1 hd hk (hl.2.2.2 _ _ e1) (w H locs ls hr hl)
  · exact w.elim
theorem snd_lload {own : String} {cc : ByteArray} {rt : Option FieldType} {ini : Bool} {pc : Nat} {i : Nat} (hd : decode cc pc = .ok (.lload i, 2)) : Snd own cc rt ini pc (i_lload i 2) := by
  intro p l e R s m args below meth c D cI cN ad ex n0 A nL Qw K Q d F hC hT lo st h c0 s0 w
  unfold i_lload at w
  split at w
  · rename_i x e1
    intro H locs ls hr hl
    exact lv_lload F.1 F.2.1 hd (hl.2.2.2 _ _ e1) (w H locs ls hr hl)
  · exact w.elim
theorem snd_aload_n {own : String} {cc : ByteArray} {rt : Option FieldType} {ini : Bool} {pc : Nat} {i : Nat} {k : Fin 4} (hd : decode cc pc = .ok (.aload_n k, 1)) (hk : (k : Nat) = i) : Snd own cc rt ini pc (i_aload i 1) := by
  intro p l e R s m args below meth c D cI cN ad ex n0 A nL Qw K Q d F hC hT lo st h c0 s0 w
  unfold i_aload at w
  split at w
  · rename_i x e1
    intro H locs ls hr hl
    exact lv_aload_n F.1 F.2.1 hd hk (hl.2.2.2 _ _ e1) (w H locs ls hr hl)
  · rename_i x e1
    intro H locs ls hr hl
    exact lv_aload_n F.1 F.2.1 hd hk (hl.2.2.2 _ _ e1) (w H locs ls hr hl)
  · exact w.elim
theorem snd_aload {own : String} {cc : ByteArray} {rt : Option FieldType} {ini : Bool} {pc : Nat} {i : Nat} (hd : decode cc pc = .ok (.aload i, 2)) : Snd own cc rt ini pc (i_aload i 2) := by
  intro p l e R s m args below meth c D cI cN ad ex n0 A nL Qw K Q d F hC hT lo st h c0 s0 w
  unfold i_aload at w
  split at w
  · rename_i x e1
    intro H locs ls hr hl
    exact lv_aload F.1 F.2.1 hd (hl.2.2.2 _ _ e1) (w H locs ls hr hl)
  · rename_i x e1
    intro H locs ls hr hl
    exact lv_aload F.1 F.2.1 hd (hl.2.2.2 _ _ e1) (w H locs ls hr hl)
  · exact w.elim
theorem snd_istore_n {own : String} {cc : ByteArray} {rt : Option FieldType} {ini : Bool} {pc : Nat} {i : Nat} {k : Fin 4} (hd : decode cc pc = .ok (.istore_n k, 1)) (hk : (k : Nat) = i) : Snd own cc rt ini pc (i_istore i 1) := by
  intro p l e R s m args below meth c D cI cN ad ex n0 A nL Qw K Q d F hC hT lo st h c0 s0 w
  unfold i_istore at w
  split at w
  · rename_i x t e1
    intro H locs ls hr hl
    exact lv_istore_n F.1 F.2.1 hd hk hl.has (hl.lt e1) rfl (fun ls' h' => w H locs ls' hr (hl.st1 e1 h'))
  · exact w.elim
theorem snd_istore {own : String} {cc : ByteArray} {rt : Option FieldType} {ini : Bool} {pc : Nat} {i : Nat} (hd : decode cc pc = .ok (.istore i, 2)) : Snd own cc rt ini pc (i_istore i 2) := by
  intro p l e R s m args below meth c D cI cN ad ex n0 A nL Qw K Q d F hC hT lo st h c0 s0 w
  unfold i_istore at w
  split at w
  · rename_i x t e1
    intro H locs ls hr hl
    exact lv_istore F.1 F.2.1 hd hl.has (hl.lt e1) rfl (fun ls' h' => w H locs ls' hr (hl.st1 e1 h'))
  · exact w.elim
theorem snd_astore_n {own : String} {cc : ByteArray} {rt : Option FieldType} {ini : Bool} {pc : Nat} {i : Nat} {k : Fin 4} (hd : decode cc pc = .ok (.astore_n k, 1)) (hk : (k : Nat) = i) : Snd own cc rt ini pc (i_astore i 1) := by
  intro p l e R s m args below meth c D cI cN ad ex n0 A nL Qw K Q d F hC hT lo st h c0 s0 w
  unfold i_astore at w
  split at w
  · rename_i x t e1
    intro H locs ls hr hl
    exact lv_astore_n F.1 F.2.1 hd hk hl.has (hl.lt e1) rfl (fun ls' h' => w H locs ls' hr (hl.st1 e1 h'))
  · exact w.elim
theorem snd_astore {own : String} {cc : ByteArray} {rt : Option FieldType} {ini : Bool} {pc : Nat} {i : Nat} (hd : decode cc pc = .ok (.astore i, 2)) : Snd own cc rt ini pc (i_astore i 2) := by
  intro p l e R s m args below meth c D cI cN ad ex n0 A nL Qw K Q d F hC hT lo st h c0 s0 w
  unfold i_astore at w
  split at w
  · rename_i x t e1
    intro H locs ls hr hl
    exact lv_astore F.1 F.2.1 hd hl.has (hl.lt e1) rfl (fun ls' h' => w H locs ls' hr (hl.st1 e1 h'))
  · exact w.elim
theorem snd_lstore_n {own : String} {cc : ByteArray} {rt : Option FieldType} {ini : Bool} {pc : Nat} {i : Nat} {k : Fin 4} (hd : decode cc pc = .ok (.lstore_n k, 1)) (hk : (k : Nat) = i) : Snd own cc rt ini pc (i_lstore i 1) := by
  intro p l e R s m args below meth c D cI cN ad ex n0 A nL Qw K Q d F hC hT lo st h c0 s0 w
  unfold i_lstore at w
  split at w
  · rename_i x t e1
    intro H locs ls hr hl
    exact lv_lstore_n F.1 F.2.1 hd hk hl.has (hl.lt2 e1) rfl (fun ls' h' => w H locs ls' hr (hl.st2 e1 h'))
  · exact w.elim
theorem snd_lstore {own : String} {cc : ByteArray} {rt : Option FieldType} {ini : Bool} {pc : Nat} {i : Nat} (hd : decode cc pc = .ok (.lstore i, 2)) : Snd own cc rt ini pc (i_lstore i 2) := by
  intro p l e R s m args below meth c D cI cN ad ex n0 A nL Qw K Q d F hC hT lo st h c0 s0 w
  unfold i_lstore at w
  split at w
  · rename_i x t e1
    intro H locs ls hr hl
    exact lv_lstore F.1 F.2.1 hd hl.has (hl.lt2 e1) rfl (fun ls' h' => w H locs ls' hr (hl.st2 e1 h'))
  · exact w.elim
theorem snd_iinc {own : String} {cc : ByteArray} {rt : Option FieldType} {ini : Bool} {pc : Nat} {i : Nat} {k : Int} {n : Int32} (hd : decode cc pc = .ok (.iinc i k, 3)) (hn : Int32.ofInt k = n) : Snd own cc rt ini pc (i_iinc i n) := by
  intro p l e R s m args below meth c D cI cN ad ex n0 A nL Qw K Q d F hC hT lo st h c0 s0 w
  unfold i_iinc at w
  split at w
  · rename_i x e1 e2
    intro H locs ls hr hl
    obtain ⟨j, hj⟩ := hl.place e1
    exact lv_iinc F.1 F.2.1 hd hl.has hj (by rw [hn]) (hl.lt e2) rfl (fun ls' h' => w H locs ls' hr (hl.st1 e2 h'))
  · exact w.elim
theorem snd_iadd {own : String} {cc : ByteArray} {rt : Option FieldType} {ini : Bool} {pc : Nat}  (hd : decode cc pc = .ok (.iadd, 1)) : Snd own cc rt ini pc (i_bin (fun x y => x + y)) := by
  intro p l e R s m args below meth c D cI cN ad ex n0 A nL Qw K Q d F hC hT lo st h c0 s0 w
  unfold i_bin at w
  split at w
  · intro H locs ls hr hl
    exact lv_iadd F.1 F.2.1 hd (w H locs ls hr hl)
  · exact w.elim
theorem snd_isub {own : String} {cc : ByteArray} {rt : Option FieldType} {ini : Bool} {pc : Nat}  (hd : decode cc pc = .ok (.isub, 1)) : Snd own cc rt ini pc (i_bin (fun x y => x - y)) := by
  intro p l e R s m args below meth c D cI cN ad ex n0 A nL Qw K Q d F hC hT lo st h c0 s0 w
  unfold i_bin at w
  split at w
  · intro H locs ls hr hl
    exact lv_isub F.1 F.2.1 hd (w H locs ls hr hl)
  · exact w.elim
theorem snd_imul {own : String} {cc : ByteArray} {rt : Option FieldType} {ini : Bool} {pc : Nat}  (hd : decode cc pc = .ok (.imul, 1)) : Snd own cc rt ini pc (i_bin (fun x y => x * y)) := by
  intro p l e R s m args below meth c D cI cN ad ex n0 A nL Qw K Q d F hC hT lo st h c0 s0 w
  unfold i_bin at w
  split at w
  · intro H locs ls hr hl
    exact lv_imul F.1 F.2.1 hd (w H locs ls hr hl)
  · exact w.elim
theorem snd_iand {own : String} {cc : ByteArray} {rt : Option FieldType} {ini : Bool} {pc : Nat}  (hd : decode cc pc = .ok (.iand, 1)) : Snd own cc rt ini pc (i_bin (fun x y => x &&& y)) := by
  intro p l e R s m args below meth c D cI cN ad ex n0 A nL Qw K Q d F hC hT lo st h c0 s0 w
  unfold i_bin at w
  split at w
  · intro H locs ls hr hl
    exact lv_iand F.1 F.2.1 hd (w H locs ls hr hl)
  · exact w.elim
theorem snd_ior {own : String} {cc : ByteArray} {rt : Option FieldType} {ini : Bool} {pc : Nat}  (hd : decode cc pc = .ok (.ior, 1)) : Snd own cc rt ini pc (i_bin (fun x y => x ||| y)) := by
  intro p l e R s m args below meth c D cI cN ad ex n0 A nL Qw K Q d F hC hT lo st h c0 s0 w
  unfold i_bin at w
  split at w
  · intro H locs ls hr hl
    exact lv_ior F.1 F.2.1 hd (w H locs ls hr hl)
  · exact w.elim
theorem snd_ixor {own : String} {cc : ByteArray} {rt : Option FieldType} {ini : Bool} {pc : Nat}  (hd : decode cc pc = .ok (.ixor, 1)) : Snd own cc rt ini pc (i_bin (fun x y => x ^^^ y)) := by
  intro p l e R s m args below meth c D cI cN ad ex n0 A nL Qw K Q d F hC hT lo st h c0 s0 w
  unfold i_bin at w
  split at w
  · intro H locs ls hr hl
    exact lv_ixor F.1 F.2.1 hd (w H locs ls hr hl)
  · exact w.elim
theorem snd_ishl {own : String} {cc : ByteArray} {rt : Option FieldType} {ini : Bool} {pc : Nat}  (hd : decode cc pc = .ok (.ishl, 1)) : Snd own cc rt ini pc (i_bin (fun x y => x <<< (y &&& 31))) := by
  intro p l e R s m args below meth c D cI cN ad ex n0 A nL Qw K Q d F hC hT lo st h c0 s0 w
  unfold i_bin at w
  split at w
  · intro H locs ls hr hl
    exact lv_ishl F.1 F.2.1 hd (w H locs ls hr hl)
  · exact w.elim
theorem snd_ishr {own : String} {cc : ByteArray} {rt : Option FieldType} {ini : Bool} {pc : Nat}  (hd : decode cc pc = .ok (.ishr, 1)) : Snd own cc rt ini pc (i_bin (fun x y => x >>> (y &&& 31))) := by
  intro p l e R s m args below meth c D cI cN ad ex n0 A nL Qw K Q d F hC hT lo st h c0 s0 w
  unfold i_bin at w
  split at w
  · intro H locs ls hr hl
    exact lv_ishr F.1 F.2.1 hd (w H locs ls hr hl)
  · exact w.elim
theorem snd_iushr {own : String} {cc : ByteArray} {rt : Option FieldType} {ini : Bool} {pc : Nat}  (hd : decode cc pc = .ok (.iushr, 1)) : Snd own cc rt ini pc (i_bin (fun x y => (x.toUInt32 >>> (y.toUInt32 &&& Int32.toUInt32 31)).toInt32)) := by
  intro p l e R s m args below meth c D cI cN ad ex n0 A nL Qw K Q d F hC hT lo st h c0 s0 w
  unfold i_bin at w
  split at w
  · intro H locs ls hr hl
    exact lv_iushr F.1 F.2.1 hd rfl (w H locs ls hr hl)
  · exact w.elim
theorem snd_idiv {own : String} {cc : ByteArray} {rt : Option FieldType} {ini : Bool} {pc : Nat}  (hd : decode cc pc = .ok (.idiv, 1)) : Snd own cc rt ini pc (i_div (fun x y => x / y)) := by
  intro p l e R s m args below meth c D cI cN ad ex n0 A nL Qw K Q d F hC hT lo st h c0 s0 w
  unfold i_div at w
  split at w
  · intro H locs ls hr hl
    exact lv_idiv F.1 F.2.1 hd w.1 (w.2 H locs ls hr hl)
  · exact w.elim
theorem snd_irem {own : String} {cc : ByteArray} {rt : Option FieldType} {ini : Bool} {pc : Nat}  (hd : decode cc pc = .ok (.irem, 1)) : Snd own cc rt ini pc (i_div (fun x y => x - x / y * y)) := by
  intro p l e R s m args below meth c D cI cN ad ex n0 A nL Qw K Q d F hC hT lo st h c0 s0 w
  unfold i_div at w
  split at w
  · intro H locs ls hr hl
    exact lv_irem F.1 F.2.1 hd w.1 (w.2 H locs ls hr hl)
  · exact w.elim
theorem snd_ladd {own : String} {cc : ByteArray} {rt : Option FieldType} {ini : Bool} {pc : Nat}  (hd : decode cc pc = .ok (.ladd, 1)) : Snd own cc rt ini pc (i_lbin (fun x y => x + y)) := by
  intro p l e R s m args below meth c D cI cN ad ex n0 A nL Qw K Q d F hC hT lo st h c0 s0 w
  unfold i_lbin at w
  split at w
  · intro H locs ls hr hl
    exact lv_ladd F.1 F.2.1 hd (w H locs ls hr hl)
  · exact w.elim
theorem snd_lmul {own : String} {cc : ByteArray} {rt : Option FieldType} {ini : Bool} {pc : Nat}  (hd : decode cc pc = .ok (.lmul, 1)) : Snd own cc rt ini pc (i_lbin (fun x y => x * y)) := by
  intro p l e R s m args below meth c D cI cN ad ex n0 A nL Qw K Q d F hC hT lo st h c0 s0 w
  unfold i_lbin at w
  split at w
  · intro H locs ls hr hl
    exact lv_lmul F.1 F.2.1 hd (w H locs ls hr hl)
  · exact w.elim
theorem snd_ldiv {own : String} {cc : ByteArray} {rt : Option FieldType} {ini : Bool} {pc : Nat}  (hd : decode cc pc = .ok (.ldiv, 1)) : Snd own cc rt ini pc (i_ldiv (fun x y => x / y)) := by
  intro p l e R s m args below meth c D cI cN ad ex n0 A nL Qw K Q d F hC hT lo st h c0 s0 w
  unfold i_ldiv at w
  split at w
  · intro H locs ls hr hl
    exact lv_ldiv F.1 F.2.1 hd w.1 (w.2 H locs ls hr hl)
  · exact w.elim
theorem snd_lrem {own : String} {cc : ByteArray} {rt : Option FieldType} {ini : Bool} {pc : Nat}  (hd : decode cc pc = .ok (.lrem, 1)) : Snd own cc rt ini pc (i_ldiv (fun x y => x - x / y * y)) := by
  intro p l e R s m args below meth c D cI cN ad ex n0 A nL Qw K Q d F hC hT lo st h c0 s0 w
  unfold i_ldiv at w
  split at w
  · intro H locs ls hr hl
    exact lv_lrem F.1 F.2.1 hd w.1 (w.2 H locs ls hr hl)
  · exact w.elim
theorem snd_lcmp {own : String} {cc : ByteArray} {rt : Option FieldType} {ini : Bool} {pc : Nat}  (hd : decode cc pc = .ok (.lcmp, 1)) : Snd own cc rt ini pc (i_lcmp) := by
  intro p l e R s m args below meth c D cI cN ad ex n0 A nL Qw K Q d F hC hT lo st h c0 s0 w
  unfold i_lcmp at w
  split at w
  · intro H locs ls hr hl
    exact W.lcmp F.1 F.2.1 hd (w H locs ls hr hl)
  · exact w.elim
theorem snd_i2l {own : String} {cc : ByteArray} {rt : Option FieldType} {ini : Bool} {pc : Nat}  (hd : decode cc pc = .ok (.i2l, 1)) : Snd own cc rt ini pc (i_i2l) := by
  intro p l e R s m args below meth c D cI cN ad ex n0 A nL Qw K Q d F hC hT lo st h c0 s0 w
  unfold i_i2l at w
  split at w
  · intro H locs ls hr hl
    exact lv_i2l F.1 F.2.1 hd rfl (w H locs ls hr hl)
  · exact w.elim
theorem snd_l2i {own : String} {cc : ByteArray} {rt : Option FieldType} {ini : Bool} {pc : Nat}  (hd : decode cc pc = .ok (.l2i, 1)) : Snd own cc rt ini pc (i_l2i) := by
  intro p l e R s m args below meth c D cI cN ad ex n0 A nL Qw K Q d F hC hT lo st h c0 s0 w
  unfold i_l2i at w
  split at w
  · intro H locs ls hr hl
    exact lv_l2i F.1 F.2.1 hd rfl (w H locs ls hr hl)
  · exact w.elim
theorem snd_dup {own : String} {cc : ByteArray} {rt : Option FieldType} {ini : Bool} {pc : Nat}  (hd : decode cc pc = .ok (.dup, 1)) : Snd own cc rt ini pc (i_dup) := by
  intro p l e R s m args below meth c D cI cN ad ex n0 A nL Qw K Q d F hC hT lo st h c0 s0 w
  unfold i_dup at w
  split at w
  · intro H locs ls hr hl
    exact lv_dup F.1 F.2.1 hd rfl (w H locs ls hr hl)
  · intro H locs ls hr hl
    exact lv_dup F.1 F.2.1 hd rfl (w H locs ls hr hl)
  · exact w.elim
theorem snd_pop {own : String} {cc : ByteArray} {rt : Option FieldType} {ini : Bool} {pc : Nat}  (hd : decode cc pc = .ok (.pop, 1)) : Snd own cc rt ini pc (i_pop) := by
  intro p l e R s m args below meth c D cI cN ad ex n0 A nL Qw K Q d F hC hT lo st h c0 s0 w
  unfold i_pop at w
  split at w
  · intro H locs ls hr hl
    exact lv_pop F.1 F.2.1 hd rfl (w H locs ls hr hl)
  · exact w.elim
theorem snd_dup2 {own : String} {cc : ByteArray} {rt : Option FieldType} {ini : Bool} {pc : Nat}  (hd : decode cc pc = .ok (.dup2, 1)) : Snd own cc rt ini pc (i_dup2) := by
  intro p l e R s m args below meth c D cI cN ad ex n0 A nL Qw K Q d F hC hT lo st h c0 s0 w
  unfold i_dup2 at w
  split at w
  · intro H locs ls hr hl
    exact lv_dup2_11 F.1 F.2.1 hd rfl rfl (w H locs ls hr hl)
  · exact w.elim
theorem snd_if_eq {own : String} {cc : ByteArray} {rt : Option FieldType} {ini : Bool} {pc : Nat} {k : Int} {tgt : Nat} (hd : decode cc pc = .ok (.ifCond .eq k, 3)) (ht : (pc : Int) + k = (tgt : Int)) : Snd own cc rt ini pc (i_if (fun x => x = 0) tgt (pc + 3)) := by
  intro p l e R s m args below meth c D cI cN ad ex n0 A nL Qw K Q d F hC hT lo st h c0 s0 w
  unfold i_if at w
  split at w
  · intro H locs ls hr hl
    exact lv_if_eq F.1 F.2.1 hd ht (fun z => w.1 z H locs ls hr hl) (fun z => w.2 z H locs ls hr hl)
  · exact w.elim
theorem snd_if_ne {own : String} {cc : ByteArray} {rt : Option FieldType} {ini : Bool} {pc : Nat} {k : Int} {tgt : Nat} (hd : decode cc pc = .ok (.ifCond .ne k, 3)) (ht : (pc : Int) + k = (tgt : Int)) : Snd own cc rt ini pc (i_if (fun x => x = 0) (pc + 3) tgt) := by
  intro p l e R s m args below meth c D cI cN ad ex n0 A nL Qw K Q d F hC hT lo st h c0 s0 w
  unfold i_if at w
  split at w
  · intro H locs ls hr hl
    exact lv_if_ne F.1 F.2.1 hd ht (fun z => w.2 z H locs ls hr hl) (fun z => w.1 z H locs ls hr hl)
  · exact w.elim
theorem snd_if_lt {own : String} {cc : ByteArray} {rt : Option FieldType} {ini : Bool} {pc : Nat} {k : Int} {tgt : Nat} (hd : decode cc pc = .ok (.ifCond .lt k, 3)) (ht : (pc : Int) + k = (tgt : Int)) : Snd own cc rt ini pc (i_if (fun x => x < 0) tgt (pc + 3)) := by
  intro p l e R s m args below meth c D cI cN ad ex n0 A nL Qw K Q d F hC hT lo st h c0 s0 w
  unfold i_if at w
  split at w
  · intro H locs ls hr hl
    exact lv_if_lt F.1 F.2.1 hd ht (fun z => w.1 z H locs ls hr hl) (fun z => w.2 z H locs ls hr hl)
  · exact w.elim
theorem snd_if_ge {own : String} {cc : ByteArray} {rt : Option FieldType} {ini : Bool} {pc : Nat} {k : Int} {tgt : Nat} (hd : decode cc pc = .ok (.ifCond .ge k, 3)) (ht : (pc : Int) + k = (tgt : Int)) : Snd own cc rt ini pc (i_if (fun x => x < 0) (pc + 3) tgt) := by
  intro p l e R s m args below meth c D cI cN ad ex n0 A nL Qw K Q d F hC hT lo st h c0 s0 w
  unfold i_if at w
  split at w
  · intro H locs ls hr hl
    exact lv_if_ge F.1 F.2.1 hd ht (fun z => w.2 (Int32.not_lt.mpr z) H locs ls hr hl) (fun z => w.1 (Int32.not_le.mp z) H locs ls hr hl)
  · exact w.elim
theorem snd_if_gt {own : String} {cc : ByteArray} {rt : Option FieldType} {ini : Bool} {pc : Nat} {k : Int} {tgt : Nat} (hd : decode cc pc = .ok (.ifCond .gt k, 3)) (ht : (pc : Int) + k = (tgt : Int)) : Snd own cc rt ini pc (i_if (fun x => 0 < x) tgt (pc + 3)) := by
  intro p l e R s m args below meth c D cI cN ad ex n0 A nL Qw K Q d F hC hT lo st h c0 s0 w
  unfold i_if at w
  split at w
  · intro H locs ls hr hl
    exact lv_if_gt F.1 F.2.1 hd ht (fun z => w.1 z H locs ls hr hl) (fun z => w.2 z H locs ls hr hl)
  · exact w.elim
theorem snd_if_le {own : String} {cc : ByteArray} {rt : Option FieldType} {ini : Bool} {pc : Nat} {k : Int} {tgt : Nat} (hd : decode cc pc = .ok (.ifCond .le k, 3)) (ht : (pc : Int) + k = (tgt : Int)) : Snd own cc rt ini pc (i_if (fun x => 0 < x) (pc + 3) tgt) := by
  intro p l e R s m args below meth c D cI cN ad ex n0 A nL Qw K Q d F hC hT lo st h c0 s0 w
  unfold i_if at w
  split at w
  · intro H locs ls hr hl
    exact lv_if_le F.1 F.2.1 hd ht (fun z => w.2 (Int32.not_lt.mpr z) H locs ls hr hl) (fun z => w.1 (Int32.not_le.mp z) H locs ls hr hl)
  · exact w.elim
theorem snd_icmp_eq {own : String} {cc : ByteArray} {rt : Option FieldType} {ini : Bool} {pc : Nat} {k : Int} {tgt : Nat} (hd : decode cc pc = .ok (.if_icmp .eq k, 3)) (ht : (pc : Int) + k = (tgt : Int)) : Snd own cc rt ini pc (i_icmp (fun x y => x = y) tgt (pc + 3)) := by
  intro p l e R s m args below meth c D cI cN ad ex n0 A nL Qw K Q d F hC hT lo st h c0 s0 w
  unfold i_icmp at w
  split at w
  · intro H locs ls hr hl
    exact lv_icmp_eq F.1 F.2.1 hd ht (fun z => w.1 z H locs ls hr hl) (fun z => w.2 z H locs ls hr hl)
  · exact w.elim
theorem snd_icmp_ne {own : String} {cc : ByteArray} {rt : Option FieldType} {ini : Bool} {pc : Nat} {k : Int} {tgt : Nat} (hd : decode cc pc = .ok (.if_icmp .ne k, 3)) (ht : (pc : Int) + k = (tgt : Int)) : Snd own cc rt ini pc (i_icmp (fun x y => x = y) (pc + 3) tgt) := by
  intro p l e R s m args below meth c D cI cN ad ex n0 A nL Qw K Q d F hC hT lo st h c0 s0 w
  unfold i_icmp at w
  split at w
  · intro H locs ls hr hl
    exact lv_icmp_ne F.1 F.2.1 hd ht (fun z => w.2 z H locs ls hr hl) (fun z => w.1 z H locs ls hr hl)
  · exact w.elim
theorem snd_icmp_lt {own : String} {cc : ByteArray} {rt : Option FieldType} {ini : Bool} {pc : Nat} {k : Int} {tgt : Nat} (hd : decode cc pc = .ok (.if_icmp .lt k, 3)) (ht : (pc : Int) + k = (tgt : Int)) : Snd own cc rt ini pc (i_icmp (fun x y => x < y) tgt (pc + 3)) := by
  intro p l e R s m args below meth c D cI cN ad ex n0 A nL Qw K Q d F hC hT lo st h c0 s0 w
  unfold i_icmp at w
  split at w
  · intro H locs ls hr hl
    exact lv_icmp_lt F.1 F.2.1 hd ht (fun z => w.1 z H locs ls hr hl) (fun z => w.2 z H locs ls hr hl)
  · exact w.elim
theorem snd_icmp_ge {own : String} {cc : ByteArray} {rt : Option FieldType} {ini : Bool} {pc : Nat} {k : Int} {tgt : Nat} (hd : decode cc pc = .ok (.if_icmp .ge k, 3)) (ht : (pc : Int) + k = (tgt : Int)) : Snd own cc rt ini pc (i_icmp (fun x y => x < y) (pc + 3) tgt) := by
  intro p l e R s m args below meth c D cI cN ad ex n0 A nL Qw K Q d F hC hT lo st h c0 s0 w
  unfold i_icmp at w
  split at w
  · intro H locs ls hr hl
    exact lv_icmp_ge F.1 F.2.1 hd ht (fun z => w.2 (Int32.not_lt.mpr z) H locs ls hr hl) (fun z => w.1 (Int32.not_le.mp z) H locs ls hr hl)
  · exact w.elim
theorem snd_icmp_gt {own : String} {cc : ByteArray} {rt : Option FieldType} {ini : Bool} {pc : Nat} {k : Int} {tgt : Nat} (hd : decode cc pc = .ok (.if_icmp .gt k, 3)) (ht : (pc : Int) + k = (tgt : Int)) : Snd own cc rt ini pc (i_icmp (fun x y => y < x) tgt (pc + 3)) := by
  intro p l e R s m args below meth c D cI cN ad ex n0 A nL Qw K Q d F hC hT lo st h c0 s0 w
  unfold i_icmp at w
  split at w
  · intro H locs ls hr hl
    exact lv_icmp_gt F.1 F.2.1 hd ht (fun z => w.1 z H locs ls hr hl) (fun z => w.2 z H locs ls hr hl)
  · exact w.elim
theorem snd_icmp_le {own : String} {cc : ByteArray} {rt : Option FieldType} {ini : Bool} {pc : Nat} {k : Int} {tgt : Nat} (hd : decode cc pc = .ok (.if_icmp .le k, 3)) (ht : (pc : Int) + k = (tgt : Int)) : Snd own cc rt ini pc (i_icmp (fun x y => y < x) (pc + 3) tgt) := by
  intro p l e R s m args below meth c D cI cN ad ex n0 A nL Qw K Q d F hC hT lo st h c0 s0 w
  unfold i_icmp at w
  split at w
  · intro H locs ls hr hl
    exact lv_icmp_le F.1 F.2.1 hd ht (fun z => w.2 (Int32.not_lt.mpr z) H locs ls hr hl) (fun z => w.1 (Int32.not_le.mp z) H locs ls hr hl)
  · exact w.elim
theorem snd_goto {own : String} {cc : ByteArray} {rt : Option FieldType} {ini : Bool} {pc : Nat} {k : Int} {tgt : Nat} (hd : decode cc pc = .ok (.goto k, 3)) (ht : (pc : Int) + k = (tgt : Int)) : Snd own cc rt ini pc (i_goto tgt) := by
  intro p l e R s m args below meth c D cI cN ad ex n0 A nL Qw K Q d F hC hT lo st h c0 s0 w
  unfold i_goto at w
  intro H locs ls hr hl
  exact lv_goto F.1 F.2.1 hd ht (w H locs ls hr hl)
theorem snd_tsw {own : String} {cc : ByteArray} {rt : Option FieldType} {ini : Bool} {pc : Nat} {dk lw hi : Int} {offs : Array Int} {len df : Nat} {tg : List Nat} (hd : decode cc pc = .ok (.tableswitch dk lw hi offs, len)) (h1 : (pc : Int) + dk = (df : Int)) (h2 : offs.toList.map (fun o => (pc : Int) + o) = tg.map (fun (a : Nat) => (a : Int))) (h3 : hi - lw + 1 = tg.length) : Snd own cc rt ini pc (i_tsw lw hi tg df) := by
  intro p l e R s m args below meth c D cI cN ad ex n0 A nL Qw K Q d F hC hT lo st h c0 s0 w
  unfold i_tsw at w
  split at w
  · rename_i x t
    intro H locs ls hr hl
    by_cases ho : x.toInt < lw ∨ hi < x.toInt
    · exact lv_tableOut F.1 F.2.1 hd ho h1 (w.1 ho H locs ls hr hl)
    · have g1 : ¬ x.toInt < lw := fun z => ho (Or.inl z)
      have g2 : ¬ hi < x.toInt := fun z => ho (Or.inr z)
      have hj : (x.toInt - lw).toNat < tg.length := by omega
      have e1 : tg[(x.toInt - lw).toNat]? = some tg[(x.toInt - lw).toNat] := List.getElem?_eq_getElem hj
      have e2 : (offs.toList.map (fun o => (pc : Int) + o))[(x.toInt - lw).toNat]? = some ((tg[(x.toInt - lw).toNat] : Nat) : Int) := by rw [h2, List.getElem?_map, e1]; rfl
      rw [List.getElem?_map] at e2
      obtain ⟨o, e3, e4⟩ := Option.map_eq_some_iff.mp e2
      exact lv_tableIn F.1 F.2.1 hd g1 g2 (by rw [← Array.getElem?_toList]; exact e3) e4 (w.2 _ _ e1 (by omega) H locs ls hr hl)
  · exact w.elim
theorem lsw_off {x : Int} : ∀ (ps : List (Int × Int)) (dk : Int) (pc : Nat), (∃ q ∈ ps, x = q.1 ∧ Op.lookupswitch.offset ps dk x = q.2) ∨ ((∀ q ∈ ps, x ≠ q.1) ∧ Op.lookupswitch.offset ps dk x = dk)
  | [], dk, pc => Or.inr ⟨fun q h => absurd h List.not_mem_nil, rfl⟩
  | (a, o) :: r, dk, pc => by
    rw [Op.lookupswitch.offset_cons]
    by_cases h : a = x
    · rw [if_pos h]
      exact Or.inl ⟨(a, o), List.mem_cons_self, h.symm, rfl⟩
    · rw [if_neg h]
      rcases lsw_off r dk pc with ⟨q, h1, h2, h3⟩ | ⟨h1, h2⟩
      · exact Or.inl ⟨q, List.mem_cons_of_mem _ h1, h2, h3⟩
      · refine Or.inr ⟨fun q hq => ?_, h2⟩
        rcases List.mem_cons.mp hq with rfl | hq
        · exact fun z => h z.symm
        · exact h1 q hq
theorem snd_lsw {own : String} {cc : ByteArray} {rt : Option FieldType} {ini : Bool} {pc : Nat} {dk : Int} {prs : Array (Int × Int)} {len df : Nat} {ps : List (Int × Nat)} (hd : decode cc pc = .ok (.lookupswitch dk prs, len)) (hp : (prs.toList.zip (prs.toList.drop 1)).all (fun (a, next) => a.1 < next.1) = true) (h1 : (pc : Int) + dk = (df : Int)) (h2 : prs.toList.map (fun o => (o.1, (pc : Int) + o.2)) = ps.map (fun a => (a.1, (a.2 : Int)))) : Snd own cc rt ini pc (i_lsw ps df) := by
  intro p l e R s m args below meth c D cI cN ad ex n0 A nL Qw K Q d F hC hT lo st h c0 s0 w
  unfold i_lsw at w
  split at w
  · rename_i x t
    intro H locs ls hr hl
    rcases lsw_off (x := x.toInt) prs.toList dk pc with ⟨q, g1, g2, g3⟩ | ⟨g1, g2⟩
    · have e1 : (q.1, (pc : Int) + q.2) ∈ ps.map (fun a => (a.1, (a.2 : Int))) := by rw [← h2]; exact List.mem_map.mpr ⟨q, g1, rfl⟩
      obtain ⟨a, ha, e2⟩ := List.mem_map.mp e1
      have e3 : a.1 = q.1 := (Prod.mk.inj e2).1
      have e4 : (a.2 : Int) = (pc : Int) + q.2 := (Prod.mk.inj e2).2
      exact lv_lookup F.1 F.2.1 hd hp g3 e4.symm (w.2 a ha (by rw [e3]; exact g2) H locs ls hr hl)
    · refine lv_lookup F.1 F.2.1 hd hp g2 h1 (w.1 (fun a ha z => ?_) H locs ls hr hl)
      have e1 : (a.1, (a.2 : Int)) ∈ prs.toList.map (fun o => (o.1, (pc : Int) + o.2)) := by rw [h2]; exact List.mem_map.mpr ⟨a, ha, rfl⟩
      obtain ⟨q, hq, e2⟩ := List.mem_map.mp e1
      exact g1 q hq (by rw [z]; exact (Prod.mk.inj e2).1.symm)
  · exact w.elim
/-- what a class's fields need -/
def Fld (ci k : Nat) (own : String) (idx : Nat) (fin : Bool) (ty : FieldType) : Prop := ∃ (C : String) (T : u_T) (N : Nat) (ty0 : Nat → FieldType), cls[ci]? = some (C, T, N) ∧ k < N ∧ Cond.fieldLink own idx (T k).1 (T k).2.1 (T k).2.2.1 ∈ lw_tbl ∧ (∀ w ∈ u_ws C T N, w ∈ gtbl) ∧ (∀ k, k < N → parseFieldDescriptor (T k).2.2.1 = some (ty0 k)) ∧ (∀ a, a < N → ∀ b, b < N → a ≠ b → (T a).2.1 ≠ (T b).2.1) ∧ (T k).2.2.2 = fin ∧ (T k).1 = own ∧ parseFieldDescriptor (T k).2.2.1 = some ty
theorem Rl.set {s : State} {D : va_G} {cI cN : ClassId} {ad ex : Nat → Nat} {n0 c0 : Nat} {A : Nat → Prop} {h : List aC} {H H1 : Heap} {locs locs1 : List Loc} {k : Nat} {c : aC} (hr : Rl s D cI cN ad ex n0 A h c0 H locs) (hP : va_P D cls ((wF cI cN ad ex h).set k (ad k, tc cI cN ad ex c)) H1) (hS : va_S A s.heap H1 locs1) : Rl s D cI cN ad ex n0 A (h.set k c) c0 H1 locs1 :=
  ⟨by rw [wF_set]; exact hP, by rw [List.length_set]; exact hr.2.1, hS⟩
theorem Rl.D {p : Program} {R : Room} {s : State} {m : MethodId} {args : Array Value} {meth : Method} {c : Code} {D : va_G} {cI cN : ClassId} {ad ex : Nat → Nat} {n0 nL d : Nat} {A : Nat → Prop} {own : String} {cc : ByteArray} {ini : Bool} {K : aK} {h : List aC} (F : FX p R s m args meth c D cI cN ad n0 A nL own cc ini K d) : va_D A (wF cI cN ad ex h) := wF_D F.2.2.2.2.2.2.2.1 F.2.2.2.2.2.2.2.2.2.1
theorem tc_ao_set {cI cN : ClassId} {ad ex : Nat → Nat} {ci k : Nat} {fs : List Value} {v : Value} : tc cI cN ad ex (ao ci (fs.set k v)) = .inr (ci, (fs.map (tv ad ex)).set k (tv ad ex v)) := by
  show Sum.inr (ci, (fs.set k v).map (tv ad ex)) = _
  rw [List.map_set]
theorem snd_get {own : String} {cc : ByteArray} {rt : Option FieldType} {ini : Bool} {pc ci k idx : Nat} {fin : Bool} {ty : FieldType} (hf : Fld ci k own idx fin ty) (hd : decode cc pc = .ok (.getfield idx, 3)) : Snd own cc rt ini pc (i_get ci k) := by
  obtain ⟨C, T, N, ty0, f1, f2, f3, f4, f5, f6, f7, f8, f9⟩ := hf
  intro p l e R s m args below meth c D cI cN ad ex n0 A nL Qw K Q d F hC hT lo st h c0 s0 w
  unfold i_get at w
  split at w
  · rename_i a t
    split at w
    · rename_i cj fs e1
      split at w
      · rename_i v e2 e3
        have e2 : cj = ci := by simpa using e2
        subst e2
        intro H locs ls hr hl
        exact va_get (v := tv ad ex v) F.1 F.2.1 F.2.2.2.2.1 f4 F.2.2.2.1 F.2.2.2.2.2.1 hr.1 a (wF_at e1) f1 k f2 (F.2.2.2.2.1 _ (gt_in f3 rfl)) (fun _ z => z) (by rw [List.getElem?_map, e3]; rfl) hd (w H locs ls hr hl)
      · exact w.elim
    · exact w.elim
  · exact w.elim
theorem snd_put {own : String} {cc : ByteArray} {rt : Option FieldType} {ini : Bool} {pc ci k idx : Nat} (hf : Fld ci k own idx false .int) (hd : decode cc pc = .ok (.putfield idx, 3)) : Snd own cc rt ini pc (i_put ci k) := by
  obtain ⟨C, T, N, ty0, f1, f2, f3, f4, f5, f6, f7, f8, f9⟩ := hf
  intro p l e R s m args below meth c D cI cN ad ex n0 A nL Qw K Q d F hC hT lo st h c0 s0 w
  unfold i_put at w
  split at w
  · rename_i x a t
    split at w
    · rename_i cj fs e1
      split at w
      · rename_i e2 e3
        have e2 : cj = ci := by simpa using e2
        have e3 : k < fs.length := by simpa using e3
        subst e2
        intro H locs ls hr hl
        exact va_put (v := .int x) (ty := .int) F.1 F.2.1 F.2.2.2.2.1 f4 ty0 f5 f6 F.2.2.2.1 F.2.2.2.2.2.1 hr.1 (Rl.D F) hr.2.2 a (wF_at e1) f1 k f2 (F.2.2.2.2.1 _ (gt_in f3 rfl)) (fun _ z => z) f7 f9 rfl rfl (by rw [List.length_map]; exact e3) hd (fun H1 locs1 hP hD hS => w H1 locs1 ls (hr.set (by rw [tc_ao_set]; exact hP) hS) hl)
      · exact w.elim
    · exact w.elim
  · exact w.elim
theorem snd_putR {own : String} {cc : ByteArray} {rt : Option FieldType} {pc ci k idx : Nat} {ty : FieldType} (hf : Fld ci k own idx true ty) (hty : (∃ n, ty = .object n) ∨ ∃ t, ty = .array t) (hd : decode cc pc = .ok (.putfield idx, 3)) : Snd own cc rt true pc (i_putR ci k) := by
  obtain ⟨C, T, N, ty0, f1, f2, f3, f4, f5, f6, f7, f8, f9⟩ := hf
  intro p l e R s m args below meth c D cI cN ad ex n0 A nL Qw K Q d F hC hT lo st h c0 s0 w
  unfold i_putR at w
  split at w
  · rename_i x a t
    split at w
    · rename_i cj fs e1
      split at w
      · rename_i e2 e3
        have e2 : cj = ci := by simpa using e2
        have e3 : k < fs.length := by simpa using e3
        subst e2
        intro H locs ls hr hl
        exact va_putF (v := .ref (ad x)) (ty := ty) F.1 F.2.1 F.2.2.2.2.1 f4 ty0 f5 f6 F.2.2.2.1 F.2.2.2.2.2.1 hr.1 (Rl.D F) hr.2.2 a (wF_at e1) f1 k f2 (F.2.2.2.2.1 _ (gt_in f3 rfl)) (fun _ z => z) f7 (F.2.2.2.2.2.2.2.2.2.2.2.1 rfl) f8 f9 (by rcases hty with ⟨n, rfl⟩ | ⟨n, rfl⟩ <;> rfl) (by rcases hty with ⟨n, rfl⟩ | ⟨n, rfl⟩ <;> rfl) (by rw [List.length_map]; exact e3) hd (fun H1 locs1 hP hD hS => w H1 locs1 ls (hr.set (by rw [tc_ao_set]; exact hP) hS) hl)
      · exact w.elim
    · exact w.elim
  · exact w.elim
theorem snd_iald {own : String} {cc : ByteArray} {rt : Option FieldType} {ini : Bool} {pc : Nat} (hd : decode cc pc = .ok (.iaload, 1)) : Snd own cc rt ini pc i_iald := by
  intro p l e R s m args below meth c D cI cN ad ex n0 A nL Qw K Q d F hC hT lo st h c0 s0 w
  unfold i_iald at w
  split at w
  · rename_i i a t
    split at w
    · rename_i n f e1
      obtain ⟨k, rfl, ⟨w0, w1⟩, w⟩ := w
      intro H locs ls hr hl
      refine va_iald F.1 F.2.1 F.2.2.2.2.2.1 hr.1 a 0 (wF_at e1) rfl (vp_in_nI w0 (by omega)) hd ?_
      rw [nI_clamp (by omega)]
      exact w H locs ls hr hl
    · exact w.elim
  · exact w.elim
theorem snd_iast {own : String} {cc : ByteArray} {rt : Option FieldType} {ini : Bool} {pc : Nat} (hd : decode cc pc = .ok (.iastore, 1)) : Snd own cc rt ini pc i_iast := by
  intro p l e R s m args below meth c D cI cN ad ex n0 A nL Qw K Q d F hC hT lo st h c0 s0 w
  unfold i_iast at w
  split at w
  · rename_i x i a t
    split at w
    · rename_i n f e1
      obtain ⟨k, rfl, ⟨w0, w1⟩, w⟩ := w
      intro H locs ls hr hl
      refine va_iast F.1 F.2.1 F.2.2.2.2.2.1 hr.1 (Rl.D F) hr.2.2 a 0 (wF_at e1) rfl (vp_in_nI w0 (by omega)) hd (fun H1 locs1 hP hD hS => ?_)
      rw [nI_clamp (by omega)] at hP
      exact w H1 locs1 ls (hr.set hP hS) hl
    · exact w.elim
  · exact w.elim
theorem snd_alen {own : String} {cc : ByteArray} {rt : Option FieldType} {ini : Bool} {pc : Nat} (hd : decode cc pc = .ok (.arraylength, 1)) : Snd own cc rt ini pc i_alen := by
  intro p l e R s m args below meth c D cI cN ad ex n0 A nL Qw K Q d F hC hT lo st h c0 s0 w
  unfold i_alen at w
  split at w
  · rename_i a t
    split at w
    · rename_i n f e1
      intro H locs ls hr hl
      exact va_alen F.1 F.2.1 F.2.2.2.2.2.1 hr.1 a 0 (wF_at e1) rfl rfl hd (w H locs ls hr hl)
    · rename_i n f e1
      intro H locs ls hr hl
      exact va_alen F.1 F.2.1 F.2.2.2.2.2.1 hr.1 a 1 (wF_at e1) rfl rfl hd (w H locs ls hr hl)
    · exact w.elim
  · exact w.elim
theorem snd_aald {own : String} {cc : ByteArray} {rt : Option FieldType} {ini : Bool} {pc : Nat} (hd : decode cc pc = .ok (.aaload, 1)) : Snd own cc rt ini pc i_aald := by
  intro p l e R s m args below meth c D cI cN ad ex n0 A nL Qw K Q d F hC hT lo st h c0 s0 w
  unfold i_aald at w
  split at w
  · rename_i i a t
    split at w
    · rename_i n g e1
      obtain ⟨k, rfl, ⟨w0, w1⟩, r, hg, w2⟩ := w
      intro H locs ls hr hl
      refine va_aldq F.1 F.2.1 F.2.2.2.2.2.1 hr.1 a 1 (wF_at e1) rfl (vp_in_nI w0 (by omega)) hd ?_
      rw [nI_clamp (by omega)]
      have e2 : va_rf ((g k).map ad) = .ref (ad r) := by rw [hg]; rfl
      show W _ _ _ _ _ _ _ _ _ _ _ _ _ _ _ (F0 m (pc + 1) ls (va_rf ((g k).map ad) :: t.map (tv ad ex)))
      rw [e2]
      exact w2 H locs ls hr hl
    · exact w.elim
  · exact w.elim
theorem snd_aast {own : String} {cc : ByteArray} {rt : Option FieldType} {ini : Bool} {pc : Nat} (hd : decode cc pc = .ok (.aastore, 1)) : Snd own cc rt ini pc i_aast := by
  intro p l e R s m args below meth c D cI cN ad ex n0 A nL Qw K Q d F hC hT lo st h c0 s0 w
  unfold i_aast at w
  split at w
  · rename_i v i a t
    split at w
    · rename_i n g e1
      obtain ⟨k, rfl, ⟨w0, w1⟩, ⟨fs, e2⟩, w2⟩ := w
      intro H locs ls hr hl
      refine va_astq (r := (RX2, TX2, 7)) F.1 F.2.1 F.2.2.2.2.2.1 hr.1 (Rl.D F) hr.2.2 a 1 v 2 (wF_at e1) rfl (wF_at e2) rfl (vp_in_nI w0 (by omega)) hd (fun H1 locs1 hP hD hS => w2 H1 locs1 ls (hr.set ?_ hS) hl)
      rw [nI_clamp (by omega)] at hP
      have e3 : (fun j => (va_up g k (some v) j).map ad) = va_up (fun j => (g j).map ad) k (some (ad v)) := by
        funext j
        unfold va_up
        by_cases hj : j = k
        · simp [hj]
        · simp [hj]
      show va_P D cls ((wF cI cN ad ex h).set a (ad a, .inl (cN, n, .inr (.inr (.inr (.inr (fun j => (va_up g k (some v) j).map ad))))))) H1
      rw [e3]
      exact hP
    · exact w.elim
  · exact w.elim
theorem cat_tv (ad ex : Nat → Nat) (v : Value) : (tv ad ex v).category = v.category := by cases v <;> rfl
theorem cats_tv (ad ex : Nat → Nat) (t : List Value) : ((t.map (tv ad ex)).map fun v => v.category).sum = (t.map fun v => v.category).sum := by
  rw [List.map_map]
  congr 1
  exact List.map_congr_left (fun v _ => cat_tv ad ex v)
theorem snd_copy {own : String} {cc : ByteArray} {rt : Option FieldType} {ini : Bool} {pc idx : Nat} (h1 : Cond.methodLink own idx arraycopyName ∈ lw_tbl) (h2 : Cond.native arraycopyName ∈ lw_tbl) (h3 : Cond.static arraycopyName ∈ lw_tbl) (h4 : Cond.initialized "java/lang/System" ∈ lw_tbl) (hd : decode cc pc = .ok (.invokestatic idx, 3)) : Snd own cc rt ini pc i_copy := by
  intro p l e R s m args below meth c D cI cN ad ex n0 A nL Qw K Q d F hC hT lo st h c0 s0 w
  unfold i_copy at w
  split at w
  · rename_i n dp b sp a t
    split at w
    · rename_i n0' f n1 g e1 e2
      obtain ⟨⟨rfl, rfl, rfl, rfl, g5, g6⟩, w⟩ := w
      intro H locs ls hr hl
      have h9 := F.2.2.2.2.2.2.2.2.2.2.2.2.2.1
      have h7 := F.2.2.2.2.2.2.2.2.2.2.2.2.1
      have h8 : nativeFrameWords "java/lang/System" "arraycopy" 5 = 7 := by decide
      have z0 : (nI 0).toNatClampNeg = 0 := by decide
      have zn : (nI n1).toNatClampNeg = n1 := nI_clamp (by omega)
      have eC : ∀ c1 : ClassId, vp_cell c1 (n1, .inl (va_cpy f g 0 0 n1)) = vp_cell c1 (n1, .inl f) := fun c1 => by
        rw [vp_cell_i, vp_cell_i]
        unfold arrV
        congr 2
        funext j
        have := j.isLt
        simp [va_cpy, this]
      refine va_copyi (ty := .int) F.1 F.2.1 (by rw [F.2.2.1, hl.2.1]) F.2.2.2.1 (F.2.2.2.2.1 _ (gt_in h1 rfl)) (F.2.2.2.2.1 _ (gt_in h2 rfl)) (F.2.2.2.2.1 _ (gt_in h3 rfl)) (F.2.2.2.2.1 _ (gt_in h4 rfl)) F.2.2.2.2.2.1 hr.1 (Rl.D F) hr.2.2 a b 0 0 (wF_at e1) (wF_at e2) rfl rfl rfl (nI_pos (by omega)) (nI_pos (by omega)) (nI_pos (by omega)) (by rw [z0, zn]; omega) (by rw [z0, zn]; omega) (fun _ _ => rfl) (by omega) (by rw [cats_tv, h8]; omega) hd (fun H1 locs1 hP hD hS => w H1 locs1 ls (hr.set (fun k q hk => ?_) hS) hl)
      rw [z0, zn] at hP
      by_cases hkb : k = b
      · subst hkb
        have hlt : k < (wF cI cN ad ex h).length := (List.getElem?_eq_some_iff.mp (wF_at (cI := cI) (cN := cN) (ad := ad) (ex := ex) e2)).1
        rw [List.getElem?_set_self hlt] at hk
        cases hk
        have h5 := hP k _ (List.getElem?_set_self hlt)
        show H1[ad k]? = some (vp_cell cI (n1, .inl f))
        rw [← eC]
        exact h5
      · rw [List.getElem?_set_ne (Ne.symm hkb)] at hk
        exact hP k q (by rw [List.getElem?_set_ne (Ne.symm hkb)]; exact hk)
    · exact w.elim
  · exact w.elim
theorem snd_max {own : String} {cc : ByteArray} {rt : Option FieldType} {ini : Bool} {pc idx : Nat} (h1 : Cond.methodLink own idx Lib.Math.max.name ∈ lw_tbl) (h2 : Cond.static Lib.Math.max.name ∈ lw_tbl) (h3 : Cond.initialized "java/lang/Math" ∈ lw_tbl) (h4 : Cond.code Lib.Math.max.name Lib.Math.max.code 2 (some .int) ∈ lw_tbl) (hd : decode cc pc = .ok (.invokestatic idx, 3)) : Snd own cc rt ini pc i_max := by
  intro p l e R s m args below meth c D cI cN ad ex n0 A nL Qw K Q d F hC hT lo st h c0 s0 w
  unfold i_max at w
  split at w
  · obtain ⟨⟨w1, w2, w3⟩, w⟩ := w
    intro H locs ls hr hl
    have h9 := F.2.2.2.2.2.2.2.2.2.2.2.2.2.1
    have h7 := F.2.2.2.2.2.2.2.2.2.2.2.2.1
    have h5 := F.2.2.2.2.2.2.2.2.2.2.2.2.2.2
    exact va_mmax F.1 F.2.1 (by rw [F.2.2.1, hl.2.1]) F.2.2.2.1 (F.2.2.2.2.1 _ (gt_in h1 rfl)) (F.2.2.2.2.1 _ (gt_in h2 rfl)) (F.2.2.2.2.1 _ (gt_in h3 rfl)) (F.2.2.2.2.1 _ (gt_in h4 rfl)) (by omega) (by rw [cats_tv]; omega) (Nat.le_trans w2 h5.1) (Nat.le_trans w3 h5.2) hd (w H locs ls hr hl)
  · exact w.elim
theorem snd_obj {own : String} {cc : ByteArray} {rt : Option FieldType} {ini : Bool} {pc idx : Nat} (h1 : Cond.methodLink own idx objectInit ∈ lw_tbl) (h2 : Cond.instanceMethod objectInit ∈ lw_tbl) (h3 : Cond.code objectInit ⟨#[0xb1]⟩ 1 none ∈ lw_tbl) (hd : decode cc pc = .ok (.invokespecial idx, 3)) : Snd own cc rt ini pc i_obj := by
  intro p l e R s m args below meth c D cI cN ad ex n0 A nL Qw K Q d F hC hT lo st h c0 s0 w
  unfold i_obj at w
  split at w
  · obtain ⟨w1, w⟩ := w
    intro H locs ls hr hl
    exact W.objInit F.1 F.2.1 F.2.2.2.1 (F.2.2.2.2.1 _ (gt_in h1 rfl)) (F.2.2.2.2.1 _ (gt_in h2 rfl)) (F.2.2.2.2.1 _ (gt_in h3 rfl)) rfl (by rw [F.2.2.1]; exact hl.2.1) rfl hd (by have := F.2.2.2.2.2.2.2.2.2.2.2.2.1; omega) (by have h9 := F.2.2.2.2.2.2.2.2.2.2.2.2.2.1; show 2 * 0 + _ + 12 ≤ _; rw [cats_tv]; omega) (w H locs ls hr hl)
  · exact w.elim

