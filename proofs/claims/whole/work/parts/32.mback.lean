/-! THE REFERENCE: putting back, notes -/
section MF
variable {d : Nat} {hs rm dy sn ln po rh rr pn kn : Int32} {kd th mc wn sd sp st tx rk rt rm2 rw2 row past pu pin rows kept : Nat → Int32} {wi : Nat → Int32} {H R M a b n m k S : Nat} {x y v w u : Int32} {dy' : Int32} {th' mc' wn' pu' : Nat → Int32} {Q : Option Value → List aC → Prop}
theorem mw_E (h1 : ∀ j, j < 30 → th j = th' j) (h2 : ∀ j, j < 6 → mc j = mc' j) (h3 : ∀ j, j < 5 → wn j = wn' j) : hE (mw hs rm dy sn ln po rh rr pn kn kd th mc wn sd sp st tx rk rt rm2 rw2 row past pu pin rows kept) (mw hs rm dy sn ln po rh rr pn kn kd th' mc' wn' sd sp st tx rk rt rm2 rw2 row past pu pin rows kept) := ⟨rfl, ⟨rfl, fun _ _ => rfl⟩, ⟨rfl, h1⟩, ⟨rfl, h2⟩, ⟨rfl, h3⟩, hE_rf _⟩
theorem cp0 {c g : Nat → Int32} {n j : Nat} (h : j < n) : cpT c g 0 n j = g j := by
  have := cpT_in (c := c) (g := g) (b := 0) h
  rwa [Nat.zero_add] at this
theorem ly_d {f : Nat → Int32} : lyF f k dy th mc wn k = dy := by
  rw [lyF, cpT_out (by omega), cpT_out (by omega), cpT_out (by omega), up_s]
theorem ly_t {f : Nat → Int32} {i : Nat} (h : i < 30) : lyF f k dy th mc wn (k + 1 + i) = th i := by
  rw [lyF, cpT_out (by omega), cpT_out (by omega), cpT_in h]
theorem ly_m {f : Nat → Int32} {i : Nat} (h : i < 6) : lyF f k dy th mc wn (k + 31 + i) = mc i := by
  rw [lyF, cpT_out (by omega), cpT_in h]
theorem ly_w {f : Nat → Int32} {i : Nat} (h : i < 5) : lyF f k dy th mc wn (k + 37 + i) = wn i := by
  rw [lyF, cpT_in h]
theorem ly_o {f : Nat → Int32} {j : Nat} (h : j < k ∨ k + 42 ≤ j) : lyF f k dy th mc wn j = f j := by
  rw [lyF, cpT_out (by omega), cpT_out (by omega), cpT_out (by omega), up_n _ _ (by omega)]
theorem m_takes_past (hx : x = nI k) (hk : k + 42 ≤ 336) (hQ : Q none (mw hs rm (past k) sn ln po rh rr pn kn kd (fun i => past (k + 1 + i)) (fun i => past (k + 31 + i)) (fun i => past (k + 37 + i)) sd sp st tx rk rt rm2 rw2 row past pu pin rows kept)) : callok (d + 1) 145 0 0 [.ref 0, .ref 14, .int x] (mw hs rm dy sn ln po rh rr pn kn kd th mc wn sd sp st tx rk rt rm2 rw2 row past pu pin rows kept) Q := by
  subst hx
  refine beg rfl (gs [9] ?_)
  refine Exists.intro (k) (And.intro (rfl) (And.intro ⟨by omega, by omega⟩ ?_))
  have l3 := up (W := fun i => wp (0, 0, callok d) (mcode 145) (qE 0 0 Q) 64 [some (.ref 0), some (.ref 14), some (.int (nI k)), some (.int (nI i))] [] (mw hs rm (past k) sn ln po rh rr pn kn kd (cpT th (fun i => past (k + 1 + i)) 0 30) (cpT mc (fun i => past (k + 31 + i)) 0 6) (cpT wn (fun i => past (k + 37 + i)) 0 i) sd sp st tx rk rt rm2 rw2 row past pu pin rows kept) 0 0) 5 ?_ ?_
  · rw [cpT_0] at l3
    have l2 := up (W := fun i => wp (0, 0, callok d) (mcode 145) (qE 0 0 Q) 36 [some (.ref 0), some (.ref 14), some (.int (nI k)), some (.int (nI i))] [] (mw hs rm (past k) sn ln po rh rr pn kn kd (cpT th (fun i => past (k + 1 + i)) 0 30) (cpT mc (fun i => past (k + 31 + i)) 0 i) wn sd sp st tx rk rt rm2 rw2 row past pu pin rows kept) 0 0) 6 ?_ ?_
    · rw [cpT_0] at l2
      have l1 := up (W := fun i => wp (0, 0, callok d) (mcode 145) (qE 0 0 Q) 9 [some (.ref 0), some (.ref 14), some (.int (nI k)), some (.int (nI i))] [] (mw hs rm (past k) sn ln po rh rr pn kn kd (cpT th (fun i => past (k + 1 + i)) 0 i) mc wn sd sp st tx rk rt rm2 rw2 row past pu pin rows kept) 0 0) 30 ?_ ?_
      · rw [cpT_0] at l1
        exact l1
      · refine gs [36] ?_
        refine br_f ((by decide)) ?_
        exact l2
      · intro i hi ih
        refine gs [9] ?_
        refine br_t ((show nI i < (30 : Int32) from nI_lt (b := 30) hi (by omega))) ?_
        have e : nI k + 1 + nI i = nI (k + 1 + i) := by rw [show (1 : Int32) = nI 1 from rfl, nI_add, nI_add]
        refine Exists.intro (k + 1 + i) (And.intro (e) (And.intro ⟨by omega, by omega⟩ ?_))
        refine Exists.intro (i) (And.intro (rfl) (And.intro ⟨by omega, by omega⟩ ?_))
        rw [nI_succ, ← cpT_s (k := i), Nat.zero_add] at ih
        exact ih
    · refine gs [64] ?_
      refine br_f ((by decide)) ?_
      exact l3
    · intro i hi ih
      refine gs [36] ?_
      refine br_t ((show nI i < (6 : Int32) from nI_lt (b := 6) hi (by omega))) ?_
      have e : nI k + 31 + nI i = nI (k + 31 + i) := by rw [show (31 : Int32) = nI 31 from rfl, nI_add, nI_add]
      refine Exists.intro (k + 31 + i) (And.intro (e) (And.intro ⟨by omega, by omega⟩ ?_))
      refine Exists.intro (i) (And.intro (rfl) (And.intro ⟨by omega, by omega⟩ ?_))
      rw [nI_succ, ← cpT_s (k := i), Nat.zero_add] at ih
      exact ih
  · refine gs [64] ?_
    refine br_f ((by decide)) ?_
    exact finE (mw_E (fun j hj => cp0 hj) (fun j hj => cp0 hj) (fun j hj => cp0 hj)) hQ
  · intro i hi ih
    refine gs [64] ?_
    refine br_t ((show nI i < (5 : Int32) from nI_lt (b := 5) hi (by omega))) ?_
    have e : nI k + 37 + nI i = nI (k + 37 + i) := by rw [show (37 : Int32) = nI 37 from rfl, nI_add, nI_add]
    refine Exists.intro (k + 37 + i) (And.intro (e) (And.intro ⟨by omega, by omega⟩ ?_))
    refine Exists.intro (i) (And.intro (rfl) (And.intro ⟨by omega, by omega⟩ ?_))
    rw [nI_succ, ← cpT_s (k := i), Nat.zero_add] at ih
    exact ih
theorem m_takes_pu (hx : x = nI k) (hk : k + 42 ≤ 42) (hQ : Q none (mw hs rm (pu k) sn ln po rh rr pn kn kd (fun i => pu (k + 1 + i)) (fun i => pu (k + 31 + i)) (fun i => pu (k + 37 + i)) sd sp st tx rk rt rm2 rw2 row past pu pin rows kept)) : callok (d + 1) 145 0 0 [.ref 0, .ref 15, .int x] (mw hs rm dy sn ln po rh rr pn kn kd th mc wn sd sp st tx rk rt rm2 rw2 row past pu pin rows kept) Q := by
  subst hx
  refine beg rfl (gs [9] ?_)
  refine Exists.intro (k) (And.intro (rfl) (And.intro ⟨by omega, by omega⟩ ?_))
  have l3 := up (W := fun i => wp (0, 0, callok d) (mcode 145) (qE 0 0 Q) 64 [some (.ref 0), some (.ref 15), some (.int (nI k)), some (.int (nI i))] [] (mw hs rm (pu k) sn ln po rh rr pn kn kd (cpT th (fun i => pu (k + 1 + i)) 0 30) (cpT mc (fun i => pu (k + 31 + i)) 0 6) (cpT wn (fun i => pu (k + 37 + i)) 0 i) sd sp st tx rk rt rm2 rw2 row past pu pin rows kept) 0 0) 5 ?_ ?_
  · rw [cpT_0] at l3
    have l2 := up (W := fun i => wp (0, 0, callok d) (mcode 145) (qE 0 0 Q) 36 [some (.ref 0), some (.ref 15), some (.int (nI k)), some (.int (nI i))] [] (mw hs rm (pu k) sn ln po rh rr pn kn kd (cpT th (fun i => pu (k + 1 + i)) 0 30) (cpT mc (fun i => pu (k + 31 + i)) 0 i) wn sd sp st tx rk rt rm2 rw2 row past pu pin rows kept) 0 0) 6 ?_ ?_
    · rw [cpT_0] at l2
      have l1 := up (W := fun i => wp (0, 0, callok d) (mcode 145) (qE 0 0 Q) 9 [some (.ref 0), some (.ref 15), some (.int (nI k)), some (.int (nI i))] [] (mw hs rm (pu k) sn ln po rh rr pn kn kd (cpT th (fun i => pu (k + 1 + i)) 0 i) mc wn sd sp st tx rk rt rm2 rw2 row past pu pin rows kept) 0 0) 30 ?_ ?_
      · rw [cpT_0] at l1
        exact l1
      · refine gs [36] ?_
        refine br_f ((by decide)) ?_
        exact l2
      · intro i hi ih
        refine gs [9] ?_
        refine br_t ((show nI i < (30 : Int32) from nI_lt (b := 30) hi (by omega))) ?_
        have e : nI k + 1 + nI i = nI (k + 1 + i) := by rw [show (1 : Int32) = nI 1 from rfl, nI_add, nI_add]
        refine Exists.intro (k + 1 + i) (And.intro (e) (And.intro ⟨by omega, by omega⟩ ?_))
        refine Exists.intro (i) (And.intro (rfl) (And.intro ⟨by omega, by omega⟩ ?_))
        rw [nI_succ, ← cpT_s (k := i), Nat.zero_add] at ih
        exact ih
    · refine gs [64] ?_
      refine br_f ((by decide)) ?_
      exact l3
    · intro i hi ih
      refine gs [36] ?_
      refine br_t ((show nI i < (6 : Int32) from nI_lt (b := 6) hi (by omega))) ?_
      have e : nI k + 31 + nI i = nI (k + 31 + i) := by rw [show (31 : Int32) = nI 31 from rfl, nI_add, nI_add]
      refine Exists.intro (k + 31 + i) (And.intro (e) (And.intro ⟨by omega, by omega⟩ ?_))
      refine Exists.intro (i) (And.intro (rfl) (And.intro ⟨by omega, by omega⟩ ?_))
      rw [nI_succ, ← cpT_s (k := i), Nat.zero_add] at ih
      exact ih
  · refine gs [64] ?_
    refine br_f ((by decide)) ?_
    exact finE (mw_E (fun j hj => cp0 hj) (fun j hj => cp0 hj) (fun j hj => cp0 hj)) hQ
  · intro i hi ih
    refine gs [64] ?_
    refine br_t ((show nI i < (5 : Int32) from nI_lt (b := 5) hi (by omega))) ?_
    have e : nI k + 37 + nI i = nI (k + 37 + i) := by rw [show (37 : Int32) = nI 37 from rfl, nI_add, nI_add]
    refine Exists.intro (k + 37 + i) (And.intro (e) (And.intro ⟨by omega, by omega⟩ ?_))
    refine Exists.intro (i) (And.intro (rfl) (And.intro ⟨by omega, by omega⟩ ?_))
    rw [nI_succ, ← cpT_s (k := i), Nat.zero_add] at ih
    exact ih
theorem m_takes_kept (hx : x = nI k) (hk : k + 42 ≤ 84) (hQ : Q none (mw hs rm (kept k) sn ln po rh rr pn kn kd (fun i => kept (k + 1 + i)) (fun i => kept (k + 31 + i)) (fun i => kept (k + 37 + i)) sd sp st tx rk rt rm2 rw2 row past pu pin rows kept)) : callok (d + 1) 145 0 0 [.ref 0, .ref 18, .int x] (mw hs rm dy sn ln po rh rr pn kn kd th mc wn sd sp st tx rk rt rm2 rw2 row past pu pin rows kept) Q := by
  subst hx
  refine beg rfl (gs [9] ?_)
  refine Exists.intro (k) (And.intro (rfl) (And.intro ⟨by omega, by omega⟩ ?_))
  have l3 := up (W := fun i => wp (0, 0, callok d) (mcode 145) (qE 0 0 Q) 64 [some (.ref 0), some (.ref 18), some (.int (nI k)), some (.int (nI i))] [] (mw hs rm (kept k) sn ln po rh rr pn kn kd (cpT th (fun i => kept (k + 1 + i)) 0 30) (cpT mc (fun i => kept (k + 31 + i)) 0 6) (cpT wn (fun i => kept (k + 37 + i)) 0 i) sd sp st tx rk rt rm2 rw2 row past pu pin rows kept) 0 0) 5 ?_ ?_
  · rw [cpT_0] at l3
    have l2 := up (W := fun i => wp (0, 0, callok d) (mcode 145) (qE 0 0 Q) 36 [some (.ref 0), some (.ref 18), some (.int (nI k)), some (.int (nI i))] [] (mw hs rm (kept k) sn ln po rh rr pn kn kd (cpT th (fun i => kept (k + 1 + i)) 0 30) (cpT mc (fun i => kept (k + 31 + i)) 0 i) wn sd sp st tx rk rt rm2 rw2 row past pu pin rows kept) 0 0) 6 ?_ ?_
    · rw [cpT_0] at l2
      have l1 := up (W := fun i => wp (0, 0, callok d) (mcode 145) (qE 0 0 Q) 9 [some (.ref 0), some (.ref 18), some (.int (nI k)), some (.int (nI i))] [] (mw hs rm (kept k) sn ln po rh rr pn kn kd (cpT th (fun i => kept (k + 1 + i)) 0 i) mc wn sd sp st tx rk rt rm2 rw2 row past pu pin rows kept) 0 0) 30 ?_ ?_
      · rw [cpT_0] at l1
        exact l1
      · refine gs [36] ?_
        refine br_f ((by decide)) ?_
        exact l2
      · intro i hi ih
        refine gs [9] ?_
        refine br_t ((show nI i < (30 : Int32) from nI_lt (b := 30) hi (by omega))) ?_
        have e : nI k + 1 + nI i = nI (k + 1 + i) := by rw [show (1 : Int32) = nI 1 from rfl, nI_add, nI_add]
        refine Exists.intro (k + 1 + i) (And.intro (e) (And.intro ⟨by omega, by omega⟩ ?_))
        refine Exists.intro (i) (And.intro (rfl) (And.intro ⟨by omega, by omega⟩ ?_))
        rw [nI_succ, ← cpT_s (k := i), Nat.zero_add] at ih
        exact ih
    · refine gs [64] ?_
      refine br_f ((by decide)) ?_
      exact l3
    · intro i hi ih
      refine gs [36] ?_
      refine br_t ((show nI i < (6 : Int32) from nI_lt (b := 6) hi (by omega))) ?_
      have e : nI k + 31 + nI i = nI (k + 31 + i) := by rw [show (31 : Int32) = nI 31 from rfl, nI_add, nI_add]
      refine Exists.intro (k + 31 + i) (And.intro (e) (And.intro ⟨by omega, by omega⟩ ?_))
      refine Exists.intro (i) (And.intro (rfl) (And.intro ⟨by omega, by omega⟩ ?_))
      rw [nI_succ, ← cpT_s (k := i), Nat.zero_add] at ih
      exact ih
  · refine gs [64] ?_
    refine br_f ((by decide)) ?_
    exact finE (mw_E (fun j hj => cp0 hj) (fun j hj => cp0 hj) (fun j hj => cp0 hj)) hQ
  · intro i hi ih
    refine gs [64] ?_
    refine br_t ((show nI i < (5 : Int32) from nI_lt (b := 5) hi (by omega))) ?_
    have e : nI k + 37 + nI i = nI (k + 37 + i) := by rw [show (37 : Int32) = nI 37 from rfl, nI_add, nI_add]
    refine Exists.intro (k + 37 + i) (And.intro (e) (And.intro ⟨by omega, by omega⟩ ?_))
    refine Exists.intro (i) (And.intro (rfl) (And.intro ⟨by omega, by omega⟩ ?_))
    rw [nI_succ, ← cpT_s (k := i), Nat.zero_add] at ih
    exact ih
theorem m_puts (hQ : Q none (mw hs rm dy sn ln po rh rr pn kn kd th mc wn sd sp st tx rk rt rm2 rw2 row past (lyF pu 0 dy th mc wn) pin rows kept)) : callok (d + 2) 156 0 0 [.ref 0] (mw hs rm dy sn ln po rh rr pn kn kd th mc wn sd sp st tx rk rt rm2 rw2 row past pu pin rows kept) Q := by
  refine beg rfl (gs [] ?_)
  refine Exists.intro [0, 1, 2, 3, 4, 5, 6, 7, 8, 9, 10, 11, 12, 13, 14, 15, 16, 17, 18] (Exists.intro [.ref 0, .ref 15, .int 0] (Exists.intro ((mw hs rm dy sn ln po rh rr pn kn kd th mc wn sd sp st tx rk rt rm2 rw2 row past pu pin rows kept)) (Exists.intro 0 (Exists.intro 0 (And.intro ⟨rfl, rfl, Nat.le_of_ble_eq_true rfl, rfl, rfl, rfl, ⟨0, _, rfl, rfl⟩⟩ (And.intro (Nat.le_refl _) (And.intro (Nat.le_refl _) ?_)))))))
  refine m_lays_pu (k := 0) rfl (by omega) ?_
  rw [q_all rfl]
  exact fin0 (hQ)
theorem m_puttingBack (hQ : Q none (mw hs rm dy' sn ln po rh rr pn kn kd th' mc' wn' sd sp st tx rk rt rm2 rw2 row past (lyF pu' 0 dy' th' mc' wn') pin rows kept)) : callok (d + 2) 157 0 0 [.ref 0] (mw hs rm dy sn ln po rh rr pn kn kd th mc wn sd sp st tx rk rt rm2 rw2 row past (lyF pu' 0 dy' th' mc' wn') pin rows kept) Q := by
  refine beg rfl (gs [] ?_)
  refine Exists.intro [0, 1, 2, 3, 4, 5, 6, 7, 8, 9, 10, 11, 12, 13, 14, 15, 16, 17, 18] (Exists.intro [.ref 0, .ref 15, .int 0] (Exists.intro ((mw hs rm dy sn ln po rh rr pn kn kd th mc wn sd sp st tx rk rt rm2 rw2 row past (lyF pu' 0 dy' th' mc' wn') pin rows kept)) (Exists.intro 0 (Exists.intro 0 (And.intro ⟨rfl, rfl, Nat.le_of_ble_eq_true rfl, rfl, rfl, rfl, ⟨0, _, rfl, rfl⟩⟩ (And.intro (Nat.le_refl _) (And.intro (Nat.le_refl _) ?_)))))))
  refine m_takes_pu (k := 0) rfl (by omega) ?_
  rw [q_all rfl, ly_d]
  exact finE (mw_E (fun j hj => ly_t hj) (fun j hj => ly_m hj) (fun j hj => ly_w hj)) hQ
theorem m_metBehind (h6 : H ≤ 6) (h5 : R ≤ 5) (h0 : 0 < H) (hm : ∀ k, k < H → mc k = nI (if M.testBit k = true then 1 else 0)) (hx : x = nI n) (hn : n ≤ 1000) (hw : ∀ k, k < R → ((¬ wn k = -4 ∧ itT kd M H R n th k = wn k) ↔ wi k = itT kd M H R n th k)) (hQ : ∀ row pu : Nat → Int32, Q (some (.int (nI (metN wi (itT kd M H R n th) R)))) (mw (nI H) (nI R) dy sn ln po rh rr pn kn kd th mc wn sd sp st tx rk rt rm2 rw2 row past pu pin rows kept)) : callok (d + 4) 161 0 0 [.ref 0, .int x] (mw (nI H) (nI R) dy sn ln po rh rr pn kn kd th mc wn sd sp st tx rk rt rm2 rw2 row past pu pin rows kept) Q := by
  refine beg rfl (gs [] ?_)
  refine Exists.intro [0, 1, 2, 3, 4, 5, 6, 7, 8, 9, 10, 11, 12, 13, 14, 15, 16, 17, 18] (Exists.intro [.ref 0] (Exists.intro ((mw (nI H) (nI R) dy sn ln po rh rr pn kn kd th mc wn sd sp st tx rk rt rm2 rw2 row past pu pin rows kept)) (Exists.intro 0 (Exists.intro 0 (And.intro ⟨rfl, rfl, Nat.le_of_ble_eq_true rfl, rfl, rfl, rfl, ⟨0, _, rfl, rfl⟩⟩ (And.intro (Nat.le_refl _) (And.intro (Nat.le_refl _) ?_)))))))
  refine m_puts ?_
  rw [q_all rfl]
  refine Exists.intro [0, 1, 2, 3, 4, 5, 6, 7, 8, 9, 10, 11, 12, 13, 14, 15, 16, 17, 18] (Exists.intro [.ref 0, .int x] (Exists.intro ((mw (nI H) (nI R) dy sn ln po rh rr pn kn kd th mc wn sd sp st tx rk rt rm2 rw2 row past (lyF pu 0 dy th mc wn) pin rows kept)) (Exists.intro 0 (Exists.intro 0 (And.intro ⟨rfl, rfl, Nat.le_of_ble_eq_true rfl, rfl, rfl, rfl, ⟨0, _, rfl, rfl⟩⟩ (And.intro (Nat.le_refl _) (And.intro (Nat.le_refl _) ?_)))))))
  refine m_goesOn h6 h5 h0 hm hx hn (fun row => ?_)
  rw [q_all rfl]
  refine Exists.intro [0, 1, 2, 3, 4, 5, 6, 7, 8, 9, 10, 11, 12, 13, 14, 15, 16, 17, 18] (Exists.intro [.ref 0] (Exists.intro ((mw (nI H) (nI R) (dy + nI n) sn ln po rh rr pn kn kd (itT kd M H R n th) mc wn sd sp st tx rk rt rm2 rw2 row past (lyF pu 0 dy th mc wn) pin rows kept)) (Exists.intro 0 (Exists.intro 0 (And.intro ⟨rfl, rfl, Nat.le_of_ble_eq_true rfl, rfl, rfl, rfl, ⟨0, _, rfl, rfl⟩⟩ (And.intro (Nat.le_refl _) (And.intro (Nat.le_refl _) ?_)))))))
  refine m_metNow h5 hw ?_
  rw [q_all rfl]
  refine Exists.intro [0, 1, 2, 3, 4, 5, 6, 7, 8, 9, 10, 11, 12, 13, 14, 15, 16, 17, 18] (Exists.intro [.ref 0] (Exists.intro ((mw (nI H) (nI R) (dy + nI n) sn ln po rh rr pn kn kd (itT kd M H R n th) mc wn sd sp st tx rk rt rm2 rw2 row past (lyF pu 0 dy th mc wn) pin rows kept)) (Exists.intro 0 (Exists.intro 0 (And.intro ⟨rfl, rfl, Nat.le_of_ble_eq_true rfl, rfl, rfl, rfl, ⟨0, _, rfl, rfl⟩⟩ (And.intro (Nat.le_refl _) (And.intro (Nat.le_refl _) ?_)))))))
  refine m_puttingBack ?_
  rw [q_all rfl]
  exact fin0 (hQ row (lyF pu 0 dy th mc wn))
/-- what was is noted -/
def shF (f : Nat → Int32) : Nat → Int32 := cpT f (fun j => f (j + 42)) 0 294
def ntF (f : Nat → Int32) (S : Nat) (dy : Int32) (th mc wn : Nat → Int32) : Nat → Int32 := if S < 8 then lyF f (42 * S) dy th mc wn else lyF (shF f) (42 * 7) dy th mc wn
theorem m_notes (hS : S ≤ 8) (hQ : Q none (mw hs rm dy sn ln po rh rr (nI (ps 8 S)) kn kd th mc wn sd sp st tx rk rt rm2 rw2 row (ntF past S dy th mc wn) pu pin rows kept)) : callok (d + 2) 146 0 0 [.ref 0] (mw hs rm dy sn ln po rh rr (nI S) kn kd th mc wn sd sp st tx rk rt rm2 rw2 row past pu pin rows kept) Q := by
  refine beg rfl (gs [11] ?_)
  unfold ntF at hQ
  refine br_c (fun c => ?_) (fun c => ?_)
  · have hs8 : S = 8 := (nI_eq (b := 8) (by omega) (by omega)).mp c
    subst hs8
    rw [if_neg (by omega)] at hQ
    have l1 := up (W := fun i => wp (0, 0, callok (d + 1)) (mcode 146) (qE 0 0 Q) 11 [some (.ref 0), some (.int (nI i))] [] (mw hs rm dy sn ln po rh rr (nI 8) kn kd th mc wn sd sp st tx rk rt rm2 rw2 row (cpT past (fun j => past (j + 42)) 0 i) pu pin rows kept) 0 0) 294 ?_ ?_
    · rw [cpT_0] at l1
      exact l1
    · refine gs [11] ?_
      refine br_f ((by decide)) ?_
      refine Exists.intro [0, 1, 2, 3, 4, 5, 6, 7, 8, 9, 10, 11, 12, 13, 14, 15, 16, 17, 18] (Exists.intro [.ref 0, .ref 14, .int (42 * (nI 8 - 1))] (Exists.intro ((mw hs rm dy sn ln po rh rr (nI 8 - 1) kn kd th mc wn sd sp st tx rk rt rm2 rw2 row (shF past) pu pin rows kept)) (Exists.intro 0 (Exists.intro 0 (And.intro ⟨rfl, rfl, Nat.le_of_ble_eq_true rfl, rfl, rfl, rfl, ⟨0, _, rfl, rfl⟩⟩ (And.intro (Nat.le_refl _) (And.intro (Nat.le_refl _) ?_)))))))
      refine m_lays_past (k := 42 * 7) rfl (by omega) ?_
      rw [q_all rfl]
      exact fin0 (hQ)
    · intro i hi ih
      refine gs [11] ?_
      refine br_t ((show nI i < (294 : Int32) from nI_lt (b := 294) hi (by omega))) ?_
      have e : nI i + 42 = nI (i + 42) := nI_add i 42
      refine Exists.intro (i + 42) (And.intro (e) (And.intro ⟨by omega, by omega⟩ ?_))
      refine Exists.intro (i) (And.intro (rfl) (And.intro ⟨by omega, by omega⟩ ?_))
      rw [cpT_out (by omega)]
      rw [nI_succ, ← cpT_s (k := i), Nat.zero_add] at ih
      exact ih
  · have hs8 : S < 8 := by
      rcases Nat.lt_or_ge S 8 with h | h
      · exact h
      · exact absurd (show nI S = 8 by rw [show S = 8 by omega]; rfl) c
    rw [if_pos hs8] at hQ
    have e : 42 * nI S = nI (42 * S) := by rw [show (42 : Int32) = nI 42 from rfl, pk_mul]
    refine Exists.intro [0, 1, 2, 3, 4, 5, 6, 7, 8, 9, 10, 11, 12, 13, 14, 15, 16, 17, 18] (Exists.intro [.ref 0, .ref 14, .int (42 * nI S)] (Exists.intro ((mw hs rm dy sn ln po rh rr (nI S) kn kd th mc wn sd sp st tx rk rt rm2 rw2 row past pu pin rows kept)) (Exists.intro 0 (Exists.intro 0 (And.intro ⟨rfl, rfl, Nat.le_of_ble_eq_true rfl, rfl, rfl, rfl, ⟨0, _, rfl, rfl⟩⟩ (And.intro (Nat.le_refl _) (And.intro (Nat.le_refl _) ?_)))))))
    refine m_lays_past (k := 42 * S) e (by omega) ?_
    rw [q_all rfl]
    have hq : ps 8 S = S + 1 := by unfold ps; rw [if_pos hs8]
    rw [hq, nI_succ] at hQ
    exact fin0 (hQ)
end MF
