/-! THE REFERENCE: copies, days -/
def cpT (c g : Nat → Int32) (b k : Nat) : Nat → Int32 := fun j => if b ≤ j ∧ j < b + k then g (j - b) else c j
theorem cpT_0 {c g : Nat → Int32} {b : Nat} : cpT c g b 0 = c := by
  funext j
  unfold cpT
  rw [if_neg (by omega)]
theorem cpT_s {c g : Nat → Int32} {b k : Nat} : upd (cpT c g b k) (b + k) (g k) = cpT c g b (k + 1) := by
  funext j
  unfold cpT upd
  by_cases e : j = b + k
  · rw [if_pos e, if_pos (by omega), e, show b + k - b = k by omega]
  · rw [if_neg e]
    show (if b ≤ j ∧ j < b + k then g (j - b) else c j) = _
    by_cases q : b ≤ j ∧ j < b + k
    · rw [if_pos q, if_pos (by omega)]
    · rw [if_neg q, if_neg (by omega)]
theorem cpT_in {c g : Nat → Int32} {b k i : Nat} (h : i < k) : cpT c g b k (b + i) = g i := by
  unfold cpT
  rw [if_pos (by omega), show b + i - b = i by omega]
theorem cpT_out {c g : Nat → Int32} {b k j : Nat} (h : j < b ∨ b + k ≤ j) : cpT c g b k j = c j := by
  unfold cpT
  rw [if_neg (by omega)]
def cyT (kd th : Nat → Int32) (M H R a : Nat) : Nat → Int32 := dyN kd th M R (if a < H then a else H - 1)
theorem cyT_row {kd th : Nat → Int32} {M H R a : Nat} (ha : a < H) (hR : R ≤ 5) : cpT (cyT kd th M H R a) (ttM kd (cyT kd th M H R a) M H R a) (5 * a) R = cyT kd th M H R (a + 1) := by
  have e0 : cyT kd th M H R a = dyN kd th M R a := by unfold cyT; rw [if_pos ha]
  by_cases c : a + 1 = H
  · have e1 : cyT kd th M H R (a + 1) = dyN kd th M R a := by unfold cyT; rw [if_neg (by omega), show H - 1 = a by omega]
    rw [e1, e0]
    funext j
    unfold cpT ttM
    by_cases q : 5 * a ≤ j ∧ j < 5 * a + R
    · rw [if_pos q, if_pos (Or.inl c), show 5 * a + (j - 5 * a) = j by omega]
    · rw [if_neg q]
  · have e1 : cyT kd th M H R (a + 1) = dyN kd th M R (a + 1) := by unfold cyT; rw [if_pos (by omega)]
    rw [e1, e0]
    by_cases m : M.testBit a = true
    · rw [dyN_mouse m]
      funext j
      unfold cpT ttM
      by_cases q : 5 * a ≤ j ∧ j < 5 * a + R
      · rw [if_pos q, if_pos (Or.inr m), show 5 * a + (j - 5 * a) = j by omega]
      · rw [if_neg q]
    · rw [← dyN_row m hR]
      funext j
      unfold cpT ttM rowT
      by_cases q : 5 * a ≤ j ∧ j < 5 * a + R
      · rw [if_pos q, if_pos q, if_neg (fun z => z.elim c m)]
      · rw [if_neg q, if_neg q]
theorem cyT_low {kd th : Nat → Int32} {M H R a j : Nat} (ha : a < H) (h : 5 * a ≤ j) : cyT kd th M H R a j = th j := by
  unfold cyT
  rw [if_pos ha, dyN_low h]
theorem cyT_0 {kd th : Nat → Int32} {M H R : Nat} (h : 0 < H) : cyT kd th M H R 0 = th := by
  unfold cyT
  rw [if_pos h, dyN_0]
theorem cyT_e {kd th : Nat → Int32} {M H R : Nat} : cyT kd th M H R H = dayT kd th M H R := by
  unfold cyT
  rw [if_neg (by omega)]
section MD
variable {d : Nat} {hs rm dy sn ln po rh rr pn kn : Int32} {kd th mc wn sd sp st tx rk rt rm2 rw2 row past pu pin rows kept : Nat → Int32} {wi : Nat → Int32} {H R M a b n m k : Nat} {x y v w u : Int32} {Q : Option Value → List aC → Prop}

theorem m_passes (h6 : H ≤ 6) (h5 : R ≤ 5) (h0 : 0 < H) (hm : ∀ k, k < H → mc k = nI (if M.testBit k = true then 1 else 0)) (hQ : ∀ (r : Int32) (row : Nat → Int32), (r = 0 ∨ r = 1) → (r = 0 ↔ dayT kd th M H R = th) → Q (some (.int r)) (mw (nI H) (nI R) (dy + 1) sn ln po rh rr pn kn kd (dayT kd th M H R) mc wn sd sp st tx rk rt rm2 rw2 row past pu pin rows kept)) : callok (d + 2) 139 0 0 [.ref 0] (mw (nI H) (nI R) dy sn ln po rh rr pn kn kd th mc wn sd sp st tx rk rt rm2 rw2 row past pu pin rows kept) Q := by
  refine beg rfl (gs [4] ?_)
  have key := up (W := fun a => ∀ (r : Int32) (row : Nat → Int32) (v3 : Option Value), (r = 0 ∨ r = 1) → (r = 0 ↔ (cyT kd th M H R a) = th) → wp (0, 0, callok (d + 1)) (mcode 139) (qE 0 0 Q) 4 [some (.ref 0), some (.int r), some (.int (nI a)), v3] [] (mw (nI H) (nI R) dy sn ln po rh rr pn kn kd (cyT kd th M H R a) mc wn sd sp st tx rk rt rm2 rw2 row past pu pin rows kept) 0 0) H ?_ ?_
  · have h9 := key 0 row none (Or.inl rfl) ⟨fun _ => cyT_0 h0, fun _ => rfl⟩
    rw [cyT_0 h0] at h9
    exact h9
  · intro r row v3 h1 h2
    refine gs [4] ?_
    refine br_f ((nI_nlt (by omega) (by omega))) ?_
    rw [cyT_e] at h2 ⊢
    exact And.intro h1 (fin0 (hQ r row h1 h2))
  · intro a ha ih r row v3 h1 h2
    have k2 := up (W := fun k => ∀ (r : Int32), (r = 0 ∨ r = 1) → (r = 0 ↔ cpT (cyT kd th M H R a) (ttM kd (cyT kd th M H R a) M H R a) (5 * a) k = th) → wp (0, 0, callok (d + 1)) (mcode 139) (qE 0 0 Q) 42 [some (.ref 0), some (.int r), some (.int (nI a)), some (.int (nI k))] [] (mw (nI H) (nI R) dy sn ln po rh rr pn kn kd (cpT (cyT kd th M H R a) (ttM kd (cyT kd th M H R a) M H R a) (5 * a) k) mc wn sd sp st tx rk rt rm2 rw2 (cpT row (ttM kd (cyT kd th M H R a) M H R a) 0 R) past pu pin rows kept) 0 0) R ?_ ?_
    · have k1 := up (W := fun k => wp (0, 0, callok (d + 1)) (mcode 139) (qE 0 0 Q) 14 [some (.ref 0), some (.int r), some (.int (nI a)), some (.int (nI k))] [] (mw (nI H) (nI R) dy sn ln po rh rr pn kn kd (cyT kd th M H R a) mc wn sd sp st tx rk rt rm2 rw2 (cpT row (ttM kd (cyT kd th M H R a) M H R a) 0 k) past pu pin rows kept) 0 0) R ?_ ?_
      · rw [cpT_0] at k1
        refine gs [14] ?_
        refine br_t ((nI_lt ha (by omega))) ?_
        exact k1
      · refine gs [42] ?_
        refine br_f ((nI_nlt (by omega) (by omega))) ?_
        have h9 := k2 r h1 (by rw [cpT_0]; exact h2)
        rw [cpT_0] at h9
        exact h9
      · intro k hk ih1
        refine gs [14] ?_
        refine br_t ((nI_lt hk (by omega))) ?_
        refine Exists.intro [0, 1, 2, 3, 4, 5, 6, 7, 8, 9, 10, 11, 12, 13, 14, 15, 16, 17, 18] (Exists.intro [.ref 0, .int (nI a), .int (nI k)] (Exists.intro ((mw (nI H) (nI R) dy sn ln po rh rr pn kn kd (cyT kd th M H R a) mc wn sd sp st tx rk rt rm2 rw2 (cpT row (ttM kd (cyT kd th M H R a) M H R a) 0 k) past pu pin rows kept)) (Exists.intro 0 (Exists.intro 0 (And.intro ⟨rfl, rfl, Nat.le_of_ble_eq_true rfl, rfl, rfl, rfl, ⟨0, _, rfl, rfl⟩⟩ (And.intro (Nat.le_refl _) (And.intro (Nat.le_refl _) ?_)))))))
        refine m_thingThen (M := M) h6 h5 hm rfl rfl ha hk ?_
        rw [q_all rfl]
        refine Exists.intro (k) (And.intro (rfl) (And.intro ⟨by omega, by omega⟩ ?_))
        rw [nI_succ, ← cpT_s, Nat.zero_add] at ih1
        exact ih1
    · intro r h1 h2
      refine gs [4, 42] ?_
      refine br_f ((nI_nlt (by omega) (by omega))) ?_
      have h9 := ih r (cpT row (ttM kd (cyT kd th M H R a) M H R a) 0 R) (some (.int (nI R))) h1 (by rw [← cyT_row ha h5]; exact h2)
      rw [← cyT_row ha h5, nI_succ] at h9
      exact h9
    · intro k hk ih1 r h1 h2
      have er : cpT row (ttM kd (cyT kd th M H R a) M H R a) 0 R k = (ttM kd (cyT kd th M H R a) M H R a) k := by
        have := cpT_in (c := row) (g := (ttM kd (cyT kd th M H R a) M H R a)) (b := 0) hk
        rwa [Nat.zero_add] at this
      have et : cpT (cyT kd th M H R a) (ttM kd (cyT kd th M H R a) M H R a) (5 * a) k (5 * a + k) = th (5 * a + k) := by rw [cpT_out (by omega), cyT_low ha (by omega)]
      have es : cpT (cyT kd th M H R a) (ttM kd (cyT kd th M H R a) M H R a) (5 * a) (k + 1) = th ↔ (cpT (cyT kd th M H R a) (ttM kd (cyT kd th M H R a) M H R a) (5 * a) k = th ∧ th (5 * a + k) = (ttM kd (cyT kd th M H R a) M H R a) k) := by
        constructor
        · intro z
          have z1 : th (5 * a + k) = (ttM kd (cyT kd th M H R a) M H R a) k := by rw [← cpT_in (c := (cyT kd th M H R a)) (g := (ttM kd (cyT kd th M H R a) M H R a)) (b := 5 * a) (Nat.lt_succ_self k), z]
          refine ⟨?_, z1⟩
          funext j
          by_cases e : j = 5 * a + k
          · rw [e, et]
          · have z2 := congrFun z j
            rw [← cpT_s, up_n _ _ e] at z2
            exact z2
        · intro z
          rw [← cpT_s, z.1, ← z.2]
          funext j
          by_cases e : j = 5 * a + k
          · rw [e, up_s]
          · rw [up_n _ _ e]
      refine gs [42] ?_
      refine br_t ((nI_lt hk (by omega))) ?_
      rw [nI_succ, ← cpT_s] at ih1
      refine br_c (fun c => ?_) (fun c => ?_)
      · refine Exists.intro (5 * a + k) (And.intro (j5 a k) (And.intro ⟨by omega, by omega⟩ ?_))
        refine Exists.intro (k) (And.intro (rfl) (And.intro ⟨by omega, by omega⟩ ?_))
        rw [et, er]
        refine br_c (fun c2 => ?_) (fun c2 => ?_)
        · refine Exists.intro (k) (And.intro (rfl) (And.intro ⟨by omega, by omega⟩ ?_))
          rw [er]
          refine Exists.intro (5 * a + k) (And.intro (j5 a k) (And.intro ⟨by omega, by omega⟩ ?_))
          exact ih1 0 (Or.inl rfl) ⟨fun _ => by rw [cpT_s]; exact es.mpr ⟨h2.mp c, c2⟩, fun _ => rfl⟩
        · refine Exists.intro (k) (And.intro (rfl) (And.intro ⟨by omega, by omega⟩ ?_))
          rw [er]
          refine Exists.intro (5 * a + k) (And.intro (j5 a k) (And.intro ⟨by omega, by omega⟩ ?_))
          exact ih1 1 (Or.inr rfl) ⟨fun z => absurd z (by decide), fun z => absurd (es.mp (by rw [← cpT_s]; exact z)).2 c2⟩
      · refine Exists.intro (k) (And.intro (rfl) (And.intro ⟨by omega, by omega⟩ ?_))
        rw [er]
        refine Exists.intro (5 * a + k) (And.intro (j5 a k) (And.intro ⟨by omega, by omega⟩ ?_))
        exact ih1 1 (Or.inr rfl) ⟨fun z => absurd z (by decide), fun z => absurd (h2.mpr (es.mp (by rw [← cpT_s]; exact z)).1) c⟩
theorem m_goesOn (h6 : H ≤ 6) (h5 : R ≤ 5) (h0 : 0 < H) (hm : ∀ k, k < H → mc k = nI (if M.testBit k = true then 1 else 0)) (hx : x = nI n) (hn : n ≤ 1000) (hQ : ∀ row : Nat → Int32, Q none (mw (nI H) (nI R) (dy + nI n) sn ln po rh rr pn kn kd (itT kd M H R n th) mc wn sd sp st tx rk rt rm2 rw2 row past pu pin rows kept)) : callok (d + 3) 140 0 0 [.ref 0, .int x] (mw (nI H) (nI R) dy sn ln po rh rr pn kn kd th mc wn sd sp st tx rk rt rm2 rw2 row past pu pin rows kept) Q := by
  subst hx
  refine beg rfl (gs [2] ?_)
  have key := up (W := fun k => ∀ row : Nat → Int32, wp (0, 0, callok (d + 2)) (mcode 140) (qE 0 0 Q) 2 [some (.ref 0), some (.int (nI n)), some (.int (nI k))] [] (mw (nI H) (nI R) (dy + nI k) sn ln po rh rr pn kn kd (itT kd M H R k th) mc wn sd sp st tx rk rt rm2 rw2 row past pu pin rows kept) 0 0) n ?_ ?_
  · have h9 := key row
    rw [show dy + nI 0 = dy from Int32.add_zero dy] at h9
    exact h9
  · intro row
    refine gs [2] ?_
    refine br_f ((nI_nlt (by omega) (by omega))) ?_
    exact fin0 (hQ row)
  · intro k hk ih row
    refine gs [2] ?_
    refine br_t ((nI_lt hk (by omega))) ?_
    refine Exists.intro [0, 1, 2, 3, 4, 5, 6, 7, 8, 9, 10, 11, 12, 13, 14, 15, 16, 17, 18] (Exists.intro [.ref 0] (Exists.intro ((mw (nI H) (nI R) (dy + nI k) sn ln po rh rr pn kn kd (itT kd M H R k th) mc wn sd sp st tx rk rt rm2 rw2 row past pu pin rows kept)) (Exists.intro 0 (Exists.intro 0 (And.intro ⟨rfl, rfl, Nat.le_of_ble_eq_true rfl, rfl, rfl, rfl, ⟨0, _, rfl, rfl⟩⟩ (And.intro (Nat.le_refl _) (And.intro (Nat.le_refl _) ?_)))))))
    refine m_passes h6 h5 h0 hm (fun r row h1 h2 => ?_)
    rw [q_all rfl]
    have h9 := ih row
    rw [nI_succ, itT_succ, ← Int32.add_assoc] at h9
    exact h9
abbrev lyF (f : Nat → Int32) (k : Nat) (dy : Int32) (th mc wn : Nat → Int32) : Nat → Int32 := cpT (cpT (cpT (upd f k dy) th (k + 1) 30) mc (k + 31) 6) wn (k + 37) 5
theorem m_lays_past (hx : x = nI k) (hk : k + 42 ≤ 336) (hQ : Q none (mw hs rm dy sn ln po rh rr pn kn kd th mc wn sd sp st tx rk rt rm2 rw2 row (lyF past k dy th mc wn) pu pin rows kept)) : callok (d + 1) 144 0 0 [.ref 0, .ref 14, .int x] (mw hs rm dy sn ln po rh rr pn kn kd th mc wn sd sp st tx rk rt rm2 rw2 row past pu pin rows kept) Q := by
  subst hx
  refine beg rfl (gs [9] ?_)
  refine Exists.intro (k) (And.intro (rfl) (And.intro ⟨by omega, by omega⟩ ?_))
  have l3 := up (W := fun i => wp (0, 0, callok d) (mcode 144) (qE 0 0 Q) 64 [some (.ref 0), some (.ref 14), some (.int (nI k)), some (.int (nI i))] [] (mw hs rm dy sn ln po rh rr pn kn kd th mc wn sd sp st tx rk rt rm2 rw2 row (cpT (cpT (cpT (upd past k dy) th (k + 1) 30) mc (k + 31) 6) wn (k + 37) i) pu pin rows kept) 0 0) 5 ?_ ?_
  · rw [cpT_0] at l3
    have l2 := up (W := fun i => wp (0, 0, callok d) (mcode 144) (qE 0 0 Q) 36 [some (.ref 0), some (.ref 14), some (.int (nI k)), some (.int (nI i))] [] (mw hs rm dy sn ln po rh rr pn kn kd th mc wn sd sp st tx rk rt rm2 rw2 row (cpT (cpT (upd past k dy) th (k + 1) 30) mc (k + 31) i) pu pin rows kept) 0 0) 6 ?_ ?_
    · rw [cpT_0] at l2
      have l1 := up (W := fun i => wp (0, 0, callok d) (mcode 144) (qE 0 0 Q) 9 [some (.ref 0), some (.ref 14), some (.int (nI k)), some (.int (nI i))] [] (mw hs rm dy sn ln po rh rr pn kn kd th mc wn sd sp st tx rk rt rm2 rw2 row (cpT (upd past k dy) th (k + 1) i) pu pin rows kept) 0 0) 30 ?_ ?_
      · rw [cpT_0] at l1
        exact l1
      · refine gs [36] ?_
        refine br_f ((by decide)) ?_
        exact l2
      · intro i hi ih
        refine gs [9] ?_
        refine br_t ((show nI i < (30 : Int32) from nI_lt (b := 30) hi (by omega))) ?_
        have e : nI k + 1 + nI i = nI (k + 1 + i) := by rw [show (1 : Int32) = nI 1 from rfl, nI_add, nI_add]
        refine Exists.intro (i) (And.intro (rfl) (And.intro ⟨by omega, by omega⟩ ?_))
        refine Exists.intro (k + 1 + i) (And.intro (e) (And.intro ⟨by omega, by omega⟩ ?_))
        rw [nI_succ, ← cpT_s] at ih
        exact ih
    · refine gs [64] ?_
      refine br_f ((by decide)) ?_
      exact l3
    · intro i hi ih
      refine gs [36] ?_
      refine br_t ((show nI i < (6 : Int32) from nI_lt (b := 6) hi (by omega))) ?_
      have e : nI k + 31 + nI i = nI (k + 31 + i) := by rw [show (31 : Int32) = nI 31 from rfl, nI_add, nI_add]
      refine Exists.intro (i) (And.intro (rfl) (And.intro ⟨by omega, by omega⟩ ?_))
      refine Exists.intro (k + 31 + i) (And.intro (e) (And.intro ⟨by omega, by omega⟩ ?_))
      rw [nI_succ, ← cpT_s] at ih
      exact ih
  · refine gs [64] ?_
    refine br_f ((by decide)) ?_
    exact fin0 (hQ)
  · intro i hi ih
    refine gs [64] ?_
    refine br_t ((show nI i < (5 : Int32) from nI_lt (b := 5) hi (by omega))) ?_
    have e : nI k + 37 + nI i = nI (k + 37 + i) := by rw [show (37 : Int32) = nI 37 from rfl, nI_add, nI_add]
    refine Exists.intro (i) (And.intro (rfl) (And.intro ⟨by omega, by omega⟩ ?_))
    refine Exists.intro (k + 37 + i) (And.intro (e) (And.intro ⟨by omega, by omega⟩ ?_))
    rw [nI_succ, ← cpT_s] at ih
    exact ih
theorem m_lays_pu (hx : x = nI k) (hk : k + 42 ≤ 42) (hQ : Q none (mw hs rm dy sn ln po rh rr pn kn kd th mc wn sd sp st tx rk rt rm2 rw2 row past (lyF pu k dy th mc wn) pin rows kept)) : callok (d + 1) 144 0 0 [.ref 0, .ref 15, .int x] (mw hs rm dy sn ln po rh rr pn kn kd th mc wn sd sp st tx rk rt rm2 rw2 row past pu pin rows kept) Q := by
  subst hx
  refine beg rfl (gs [9] ?_)
  refine Exists.intro (k) (And.intro (rfl) (And.intro ⟨by omega, by omega⟩ ?_))
  have l3 := up (W := fun i => wp (0, 0, callok d) (mcode 144) (qE 0 0 Q) 64 [some (.ref 0), some (.ref 15), some (.int (nI k)), some (.int (nI i))] [] (mw hs rm dy sn ln po rh rr pn kn kd th mc wn sd sp st tx rk rt rm2 rw2 row past (cpT (cpT (cpT (upd pu k dy) th (k + 1) 30) mc (k + 31) 6) wn (k + 37) i) pin rows kept) 0 0) 5 ?_ ?_
  · rw [cpT_0] at l3
    have l2 := up (W := fun i => wp (0, 0, callok d) (mcode 144) (qE 0 0 Q) 36 [some (.ref 0), some (.ref 15), some (.int (nI k)), some (.int (nI i))] [] (mw hs rm dy sn ln po rh rr pn kn kd th mc wn sd sp st tx rk rt rm2 rw2 row past (cpT (cpT (upd pu k dy) th (k + 1) 30) mc (k + 31) i) pin rows kept) 0 0) 6 ?_ ?_
    · rw [cpT_0] at l2
      have l1 := up (W := fun i => wp (0, 0, callok d) (mcode 144) (qE 0 0 Q) 9 [some (.ref 0), some (.ref 15), some (.int (nI k)), some (.int (nI i))] [] (mw hs rm dy sn ln po rh rr pn kn kd th mc wn sd sp st tx rk rt rm2 rw2 row past (cpT (upd pu k dy) th (k + 1) i) pin rows kept) 0 0) 30 ?_ ?_
      · rw [cpT_0] at l1
        exact l1
      · refine gs [36] ?_
        refine br_f ((by decide)) ?_
        exact l2
      · intro i hi ih
        refine gs [9] ?_
        refine br_t ((show nI i < (30 : Int32) from nI_lt (b := 30) hi (by omega))) ?_
        have e : nI k + 1 + nI i = nI (k + 1 + i) := by rw [show (1 : Int32) = nI 1 from rfl, nI_add, nI_add]
        refine Exists.intro (i) (And.intro (rfl) (And.intro ⟨by omega, by omega⟩ ?_))
        refine Exists.intro (k + 1 + i) (And.intro (e) (And.intro ⟨by omega, by omega⟩ ?_))
        rw [nI_succ, ← cpT_s] at ih
        exact ih
    · refine gs [64] ?_
      refine br_f ((by decide)) ?_
      exact l3
    · intro i hi ih
      refine gs [36] ?_
      refine br_t ((show nI i < (6 : Int32) from nI_lt (b := 6) hi (by omega))) ?_
      have e : nI k + 31 + nI i = nI (k + 31 + i) := by rw [show (31 : Int32) = nI 31 from rfl, nI_add, nI_add]
      refine Exists.intro (i) (And.intro (rfl) (And.intro ⟨by omega, by omega⟩ ?_))
      refine Exists.intro (k + 31 + i) (And.intro (e) (And.intro ⟨by omega, by omega⟩ ?_))
      rw [nI_succ, ← cpT_s] at ih
      exact ih
  · refine gs [64] ?_
    refine br_f ((by decide)) ?_
    exact fin0 (hQ)
  · intro i hi ih
    refine gs [64] ?_
    refine br_t ((show nI i < (5 : Int32) from nI_lt (b := 5) hi (by omega))) ?_
    have e : nI k + 37 + nI i = nI (k + 37 + i) := by rw [show (37 : Int32) = nI 37 from rfl, nI_add, nI_add]
    refine Exists.intro (i) (And.intro (rfl) (And.intro ⟨by omega, by omega⟩ ?_))
    refine Exists.intro (k + 37 + i) (And.intro (e) (And.intro ⟨by omega, by omega⟩ ?_))
    rw [nI_succ, ← cpT_s] at ih
    exact ih
theorem m_lays_kept (hx : x = nI k) (hk : k + 42 ≤ 84) (hQ : Q none (mw hs rm dy sn ln po rh rr pn kn kd th mc wn sd sp st tx rk rt rm2 rw2 row past pu pin rows (lyF kept k dy th mc wn))) : callok (d + 1) 144 0 0 [.ref 0, .ref 18, .int x] (mw hs rm dy sn ln po rh rr pn kn kd th mc wn sd sp st tx rk rt rm2 rw2 row past pu pin rows kept) Q := by
  subst hx
  refine beg rfl (gs [9] ?_)
  refine Exists.intro (k) (And.intro (rfl) (And.intro ⟨by omega, by omega⟩ ?_))
  have l3 := up (W := fun i => wp (0, 0, callok d) (mcode 144) (qE 0 0 Q) 64 [some (.ref 0), some (.ref 18), some (.int (nI k)), some (.int (nI i))] [] (mw hs rm dy sn ln po rh rr pn kn kd th mc wn sd sp st tx rk rt rm2 rw2 row past pu pin rows (cpT (cpT (cpT (upd kept k dy) th (k + 1) 30) mc (k + 31) 6) wn (k + 37) i)) 0 0) 5 ?_ ?_
  · rw [cpT_0] at l3
    have l2 := up (W := fun i => wp (0, 0, callok d) (mcode 144) (qE 0 0 Q) 36 [some (.ref 0), some (.ref 18), some (.int (nI k)), some (.int (nI i))] [] (mw hs rm dy sn ln po rh rr pn kn kd th mc wn sd sp st tx rk rt rm2 rw2 row past pu pin rows (cpT (cpT (upd kept k dy) th (k + 1) 30) mc (k + 31) i)) 0 0) 6 ?_ ?_
    · rw [cpT_0] at l2
      have l1 := up (W := fun i => wp (0, 0, callok d) (mcode 144) (qE 0 0 Q) 9 [some (.ref 0), some (.ref 18), some (.int (nI k)), some (.int (nI i))] [] (mw hs rm dy sn ln po rh rr pn kn kd th mc wn sd sp st tx rk rt rm2 rw2 row past pu pin rows (cpT (upd kept k dy) th (k + 1) i)) 0 0) 30 ?_ ?_
      · rw [cpT_0] at l1
        exact l1
      · refine gs [36] ?_
        refine br_f ((by decide)) ?_
        exact l2
      · intro i hi ih
        refine gs [9] ?_
        refine br_t ((show nI i < (30 : Int32) from nI_lt (b := 30) hi (by omega))) ?_
        have e : nI k + 1 + nI i = nI (k + 1 + i) := by rw [show (1 : Int32) = nI 1 from rfl, nI_add, nI_add]
        refine Exists.intro (i) (And.intro (rfl) (And.intro ⟨by omega, by omega⟩ ?_))
        refine Exists.intro (k + 1 + i) (And.intro (e) (And.intro ⟨by omega, by omega⟩ ?_))
        rw [nI_succ, ← cpT_s] at ih
        exact ih
    · refine gs [64] ?_
      refine br_f ((by decide)) ?_
      exact l3
    · intro i hi ih
      refine gs [36] ?_
      refine br_t ((show nI i < (6 : Int32) from nI_lt (b := 6) hi (by omega))) ?_
      have e : nI k + 31 + nI i = nI (k + 31 + i) := by rw [show (31 : Int32) = nI 31 from rfl, nI_add, nI_add]
      refine Exists.intro (i) (And.intro (rfl) (And.intro ⟨by omega, by omega⟩ ?_))
      refine Exists.intro (k + 31 + i) (And.intro (e) (And.intro ⟨by omega, by omega⟩ ?_))
      rw [nI_succ, ← cpT_s] at ih
      exact ih
  · refine gs [64] ?_
    refine br_f ((by decide)) ?_
    exact fin0 (hQ)
  · intro i hi ih
    refine gs [64] ?_
    refine br_t ((show nI i < (5 : Int32) from nI_lt (b := 5) hi (by omega))) ?_
    have e : nI k + 37 + nI i = nI (k + 37 + i) := by rw [show (37 : Int32) = nI 37 from rfl, nI_add, nI_add]
    refine Exists.intro (i) (And.intro (rfl) (And.intro ⟨by omega, by omega⟩ ?_))
    refine Exists.intro (k + 37 + i) (And.intro (e) (And.intro ⟨by omega, by omega⟩ ?_))
    rw [nI_succ, ← cpT_s] at ih
    exact ih
end MD
