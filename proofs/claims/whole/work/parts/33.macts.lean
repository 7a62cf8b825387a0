/-! THE REFERENCE: its acts -/
theorem xor_bit {M H a : Nat} {mc : Nat → Int32} {v : Int32} (hm : ∀ k, k < H → mc k = nI (if M.testBit k = true then 1 else 0)) (hv : v = nI (if M.testBit a = true then 0 else 1)) : ∀ k, k < H → upd mc a v k = nI (if (M ^^^ 2 ^ a).testBit k = true then 1 else 0) := by
  intro k hk
  by_cases e : k = a
  · subst e
    rw [up_s, hv, Nat.testBit_xor, Nat.testBit_two_pow_self]
    cases M.testBit k <;> rfl
  · rw [up_n _ _ e, hm k hk, Nat.testBit_xor, Nat.testBit_two_pow_of_ne (fun z => e z.symm)]
    cases M.testBit k <;> rfl
section ME
variable {d : Nat} {hs rm dy sn ln po rh rr pn kn : Int32} {kd th mc wn sd sp st tx rk rt rm2 rw2 row past pu pin rows kept : Nat → Int32} {wi : Nat → Int32} {H R M a b n m k L S S2 S8 : Nat} {x y v w u : Int32} {Q : Option Value → List aC → Prop}
theorem m_sneezes (h1 : 0 < R) (h5 : R ≤ 5) (ha : a < 6) (hx : x = nI a) (hQ : Q none (mw (nI H) (nI R) dy (nI S) (nI L) po rh rr (nI S8) (nI S2) kd (shT th R a) mc wn sd sp st tx rk rt rm2 rw2 row past pu pin rows kept)) : callok (d + 1) 149 0 0 [.ref 0, .int x] (mw (nI H) (nI R) dy (nI S) (nI L) po rh rr (nI S8) (nI S2) kd th mc wn sd sp st tx rk rt rm2 rw2 row past pu pin rows kept) Q := by
  subst hx
  have e1 : 5 * nI a + nI R - 1 = nI (5 * a + (R - 1)) := by rw [j5, nI_m1 (by omega), show 5 * a + R - 1 = 5 * a + (R - 1) by omega]
  have er : nI R - 1 = nI (R - 1) := nI_m1 h1
  refine beg rfl (gs [23] ?_)
  refine Exists.intro (5 * a + (R - 1)) (And.intro (e1) (And.intro ⟨by omega, by omega⟩ ?_))
  have key := dn (W := fun k => k < R → wp (0, 0, callok d) (mcode 149) (qE 0 0 Q) 23 [some (.ref 0), some (.int (nI a)), some (.int (th (5 * a + (R - 1)))), some (.int (nI k))] [] (mw (nI H) (nI R) dy (nI S) (nI L) po rh rr (nI S8) (nI S2) kd (shS th R a k) mc wn sd sp st tx rk rt rm2 rw2 row past pu pin rows kept) 0 0) ?_ ?_ (R - 1)
  · have h1 := key (by omega)
    rw [shS_top, ← er] at h1
    exact h1
  · intro _
    refine gs [23] ?_
    refine br_f ((show ¬ 0 < nI 0 by decide)) ?_
    have e5 : 5 * nI a = nI (5 * a) := by rw [show (5 : Int32) = nI 5 from rfl, pk_mul]
    refine Exists.intro (5 * a) (And.intro (e5) (And.intro ⟨by omega, by omega⟩ ?_))
    rw [shS_end h1]
    exact fin0 (hQ)
  · intro k ih hk
    refine gs [23] ?_
    refine br_t ((show (0 : Int32) < nI (k + 1) from nI_lt (a := 0) (by omega) (by omega))) ?_
    have e2 : 5 * nI a + nI (k + 1) - 1 = nI (5 * a + k) := by rw [j5, nI_m1 (by omega), show 5 * a + (k + 1) - 1 = 5 * a + k by omega]
    refine Exists.intro (5 * a + k) (And.intro (e2) (And.intro ⟨by omega, by omega⟩ ?_))
    refine Exists.intro (5 * a + (k + 1)) (And.intro (j5 a (k + 1)) (And.intro ⟨by omega, by omega⟩ ?_))
    rw [shS_step (by omega)]
    have h9 := ih (by omega)
    rw [← pk_m1 k] at h9
    exact h9
theorem y_write (hL : L ≤ 200) (hB : ¬ (¬ x < 32 ∧ ¬ 126 < x) → Q (some (.int (-1))) (mw (nI H) (nI R) dy (nI S) (nI L) po rh rr (nI S8) (nI S2) kd th mc wn sd sp st tx rk rt rm2 rw2 row past pu pin rows kept)) (hT : L < 200 → Q (some (.int (nI (L + 1)))) (mw (nI H) (nI R) dy (nI S) (nI (L + 1)) po rh rr (nI S8) (nI S2) kd th mc wn sd sp st (upd tx L x) rk rt rm2 rw2 row past pu pin rows kept)) (hF : ¬ L < 200 → Q (some (.int (-3))) (mw (nI H) (nI R) dy (nI S) (nI L) po rh rr (nI S8) (nI S2) kd th mc wn sd sp st tx rk rt rm2 rw2 row past pu pin rows kept)) : callok (d + 2) 124 0 0 [.ref 0, .int x] (mw (nI H) (nI R) dy (nI S) (nI L) po rh rr (nI S8) (nI S2) kd th mc wn sd sp st tx rk rt rm2 rw2 row past pu pin rows kept) Q := by
  refine beg rfl (gs [] ?_)
  refine Exists.intro [] (Exists.intro [.int x, .int 32, .int 126] (Exists.intro ([]) (Exists.intro 0 (Exists.intro 0 (And.intro ⟨rfl, rfl, Nat.le_of_ble_eq_true rfl, rfl, rfl, rfl, trivial⟩ (And.intro (Nat.le_refl _) (And.intro (Nat.le_refl _) ?_)))))))
  refine m_in (fun c c2 => ?_) (fun c => ?_)
  · rw [p_nil]
    refine br_f ((by decide)) ?_
    refine br_c (fun c3 => ?_) (fun c3 => ?_)
    · have := (nI_eq (b := 200) (by omega) (by omega)).mp c3
      exact fin0 (hF (by omega))
    · have hl : L < 200 := by
        rcases Nat.lt_or_ge L 200 with h | h
        · exact h
        · exact absurd (show nI L = 200 by rw [show L = 200 by omega]; rfl) c3
      refine Exists.intro (L) (And.intro (rfl) (And.intro ⟨by omega, by omega⟩ ?_))
      have hq := hT hl
      rw [nI_succ] at hq
      exact fin0 (hq)
  · rw [p_nil]
    refine br_t ((rfl)) ?_
    exact fin0 (hB c)
theorem y_wipe (hQ : Q (some (.int (nI L))) (mw (nI H) (nI R) dy (nI S) 0 po rh rr (nI S8) (nI S2) kd th mc wn sd sp st tx rk rt rm2 rw2 row past pu pin rows kept)) : callok (d + 1) 125 0 0 [.ref 0] (mw (nI H) (nI R) dy (nI S) (nI L) po rh rr (nI S8) (nI S2) kd th mc wn sd sp st tx rk rt rm2 rw2 row past pu pin rows kept) Q := by
  refine beg rfl (gs [] ?_)
  exact fin0 (hQ)
theorem y_room (h6 : H ≤ 6) (h0 : 0 < H) (h5 : R ≤ 5) (h1 : 0 < R) (hT : ∀ a b, a < H → b < R → x = nI a → y = nI b → Q (some (.int (th (5 * a + b)))) (mw (nI H) (nI R) dy (nI S) (nI L) po rh rr (nI S8) (nI S2) kd th mc wn sd sp st tx rk rt rm2 rw2 row past pu pin rows kept)) (hF : ¬ (inR x H ∧ inR y R) → Q (some (.int (-1))) (mw (nI H) (nI R) dy (nI S) (nI L) po rh rr (nI S8) (nI S2) kd th mc wn sd sp st tx rk rt rm2 rw2 row past pu pin rows kept)) : callok (d + 3) 135 0 0 [.ref 0, .int x, .int y] (mw (nI H) (nI R) dy (nI S) (nI L) po rh rr (nI S8) (nI S2) kd th mc wn sd sp st tx rk rt rm2 rw2 row past pu pin rows kept) Q := by
  refine beg rfl (gs [] ?_)
  refine Exists.intro [0, 1, 2, 3, 4, 5, 6, 7, 8, 9, 10, 11, 12, 13, 14, 15, 16, 17, 18] (Exists.intro [.ref 0, .int x] (Exists.intro ((mw (nI H) (nI R) dy (nI S) (nI L) po rh rr (nI S8) (nI S2) kd th mc wn sd sp st tx rk rt rm2 rw2 row past pu pin rows kept)) (Exists.intro 0 (Exists.intro 0 (And.intro ⟨rfl, rfl, Nat.le_of_ble_eq_true rfl, rfl, rfl, rfl, ⟨0, _, rfl, rfl⟩⟩ (And.intro (Nat.le_refl _) (And.intro (Nat.le_refl _) ?_)))))))
  refine m_isHouse h6 h0 (fun c => ?_) (fun c => ?_)
  · rw [q_all rfl]
    refine br_f ((by decide)) ?_
    refine Exists.intro [0, 1, 2, 3, 4, 5, 6, 7, 8, 9, 10, 11, 12, 13, 14, 15, 16, 17, 18] (Exists.intro [.ref 0, .int y] (Exists.intro ((mw (nI H) (nI R) dy (nI S) (nI L) po rh rr (nI S8) (nI S2) kd th mc wn sd sp st tx rk rt rm2 rw2 row past pu pin rows kept)) (Exists.intro 0 (Exists.intro 0 (And.intro ⟨rfl, rfl, Nat.le_of_ble_eq_true rfl, rfl, rfl, rfl, ⟨0, _, rfl, rfl⟩⟩ (And.intro (Nat.le_refl _) (And.intro (Nat.le_refl _) ?_)))))))
    refine m_isRoom h5 h1 (fun c2 => ?_) (fun c2 => ?_)
    · rw [q_all rfl]
      refine br_f ((by decide)) ?_
      obtain ⟨a, ha, rfl⟩ := inR_of c (by omega)
      obtain ⟨b, hb, rfl⟩ := inR_of c2 (by omega)
      refine Exists.intro (5 * a + b) (And.intro (j5 a b) (And.intro ⟨by omega, by omega⟩ ?_))
      exact fin0 (hT a b ha hb rfl rfl)
    · rw [q_all rfl]
      refine br_t ((rfl)) ?_
      exact fin0 (hF (fun z => c2 z.2))
  · rw [q_all rfl]
    refine br_t ((rfl)) ?_
    exact fin0 (hF (fun z => c z.1))
theorem y_house (h6 : H ≤ 6) (h0 : 0 < H) (h0' : ∀ a, a < H → x = nI a → y = 0 → Q (some (.int (kd a))) (mw (nI H) (nI R) dy (nI S) (nI L) po rh rr (nI S8) (nI S2) kd th mc wn sd sp st tx rk rt rm2 rw2 row past pu pin rows kept)) (h1' : ∀ a, a < H → x = nI a → y = 1 → Q (some (.int (mc a))) (mw (nI H) (nI R) dy (nI S) (nI L) po rh rr (nI S8) (nI S2) kd th mc wn sd sp st tx rk rt rm2 rw2 row past pu pin rows kept)) (hF : ¬ (inR x H ∧ ¬ y < 0 ∧ ¬ 1 < y) → Q (some (.int (-1))) (mw (nI H) (nI R) dy (nI S) (nI L) po rh rr (nI S8) (nI S2) kd th mc wn sd sp st tx rk rt rm2 rw2 row past pu pin rows kept)) : callok (d + 3) 136 0 0 [.ref 0, .int x, .int y] (mw (nI H) (nI R) dy (nI S) (nI L) po rh rr (nI S8) (nI S2) kd th mc wn sd sp st tx rk rt rm2 rw2 row past pu pin rows kept) Q := by
  refine beg rfl (gs [] ?_)
  refine Exists.intro [0, 1, 2, 3, 4, 5, 6, 7, 8, 9, 10, 11, 12, 13, 14, 15, 16, 17, 18] (Exists.intro [.ref 0, .int x] (Exists.intro ((mw (nI H) (nI R) dy (nI S) (nI L) po rh rr (nI S8) (nI S2) kd th mc wn sd sp st tx rk rt rm2 rw2 row past pu pin rows kept)) (Exists.intro 0 (Exists.intro 0 (And.intro ⟨rfl, rfl, Nat.le_of_ble_eq_true rfl, rfl, rfl, rfl, ⟨0, _, rfl, rfl⟩⟩ (And.intro (Nat.le_refl _) (And.intro (Nat.le_refl _) ?_)))))))
  refine m_isHouse h6 h0 (fun c => ?_) (fun c => ?_)
  · rw [q_all rfl]
    refine br_f ((by decide)) ?_
    refine Exists.intro [] (Exists.intro [.int y, .int 0, .int 1] (Exists.intro ([]) (Exists.intro 0 (Exists.intro 0 (And.intro ⟨rfl, rfl, Nat.le_of_ble_eq_true rfl, rfl, rfl, rfl, trivial⟩ (And.intro (Nat.le_refl _) (And.intro (Nat.le_refl _) ?_)))))))
    refine m_in (fun c2 c3 => ?_) (fun c2 => ?_)
    · rw [p_nil]
      refine br_f ((by decide)) ?_
      obtain ⟨a, ha, rfl⟩ := inR_of c (by omega)
      refine br_c (fun c4 => ?_) (fun c4 => ?_)
      · refine Exists.intro (a) (And.intro (rfl) (And.intro ⟨by omega, by omega⟩ ?_))
        exact fin0 (h0' a ha rfl c4)
      · have hy : y = 1 := by
          obtain ⟨j, hj, rfl⟩ := nI_of2 (M := 1) (n := 1) rfl c2 (Int32.not_lt.mp c3)
          rcases (by omega : j = 0 ∨ j = 1) with rfl | rfl
          · exact absurd rfl c4
          · rfl
        refine Exists.intro (a) (And.intro (rfl) (And.intro ⟨by omega, by omega⟩ ?_))
        exact fin0 (h1' a ha rfl hy)
    · rw [p_nil]
      refine br_t ((rfl)) ?_
      exact fin0 (hF (fun z => c2 z.2))
  · rw [q_all rfl]
    refine br_t ((rfl)) ?_
    exact fin0 (hF (fun z => c z.1))
theorem y_wanted (h5 : R ≤ 5) (h1 : 0 < R) (hT : ∀ a, a < R → x = nI a → Q (some (.int (wn a))) (mw (nI H) (nI R) dy (nI S) (nI L) po rh rr (nI S8) (nI S2) kd th mc wn sd sp st tx rk rt rm2 rw2 row past pu pin rows kept)) (hF : ¬ inR x R → Q (some (.int (-1))) (mw (nI H) (nI R) dy (nI S) (nI L) po rh rr (nI S8) (nI S2) kd th mc wn sd sp st tx rk rt rm2 rw2 row past pu pin rows kept)) : callok (d + 3) 137 0 0 [.ref 0, .int x] (mw (nI H) (nI R) dy (nI S) (nI L) po rh rr (nI S8) (nI S2) kd th mc wn sd sp st tx rk rt rm2 rw2 row past pu pin rows kept) Q := by
  refine beg rfl (gs [] ?_)
  refine Exists.intro [0, 1, 2, 3, 4, 5, 6, 7, 8, 9, 10, 11, 12, 13, 14, 15, 16, 17, 18] (Exists.intro [.ref 0, .int x] (Exists.intro ((mw (nI H) (nI R) dy (nI S) (nI L) po rh rr (nI S8) (nI S2) kd th mc wn sd sp st tx rk rt rm2 rw2 row past pu pin rows kept)) (Exists.intro 0 (Exists.intro 0 (And.intro ⟨rfl, rfl, Nat.le_of_ble_eq_true rfl, rfl, rfl, rfl, ⟨0, _, rfl, rfl⟩⟩ (And.intro (Nat.le_refl _) (And.intro (Nat.le_refl _) ?_)))))))
  refine m_isRoom h5 h1 (fun c => ?_) (fun c => ?_)
  · rw [q_all rfl]
    refine br_f ((by decide)) ?_
    obtain ⟨a, ha, rfl⟩ := inR_of c (by omega)
    refine Exists.intro (a) (And.intro (rfl) (And.intro ⟨by omega, by omega⟩ ?_))
    exact fin0 (hT a ha rfl)
  · rw [q_all rfl]
    refine br_t ((rfl)) ?_
    exact fin0 (hF c)
theorem y_pass (hS8 : S8 ≤ 8) (h6 : H ≤ 6) (h0 : 0 < H) (h5 : R ≤ 5) (hm : ∀ k, k < H → mc k = nI (if M.testBit k = true then 1 else 0)) (hB : ¬ (¬ x < 1 ∧ ¬ 20 < x) → Q (some (.int (-1))) (mw (nI H) (nI R) dy (nI S) (nI L) po rh rr (nI S8) (nI S2) kd th mc wn sd sp st tx rk rt rm2 rw2 row past pu pin rows kept)) (hN : ∀ n, 1 ≤ n → n ≤ 20 → x = nI n → 999 < dy + nI n → Q (some (.int (-2))) (mw (nI H) (nI R) dy (nI S) (nI L) po rh rr (nI S8) (nI S2) kd th mc wn sd sp st tx rk rt rm2 rw2 row past pu pin rows kept)) (hT : ∀ n, 1 ≤ n → n ≤ 20 → x = nI n → ¬ 999 < dy + nI n → ∀ row, Q (some (.int (dy + nI n))) (mw (nI H) (nI R) (dy + nI n) (nI S) (nI L) po rh rr (nI (ps 8 S8)) (nI S2) kd (itT kd M H R n th) mc wn sd sp st tx rk rt rm2 rw2 row (ntF past S8 dy th mc wn) pu pin rows kept)) : callok (d + 4) 147 0 0 [.ref 0, .int x] (mw (nI H) (nI R) dy (nI S) (nI L) po rh rr (nI S8) (nI S2) kd th mc wn sd sp st tx rk rt rm2 rw2 row past pu pin rows kept) Q := by
  refine beg rfl (gs [] ?_)
  refine Exists.intro [] (Exists.intro [.int x, .int 1, .int 20] (Exists.intro ([]) (Exists.intro 0 (Exists.intro 0 (And.intro ⟨rfl, rfl, Nat.le_of_ble_eq_true rfl, rfl, rfl, rfl, trivial⟩ (And.intro (Nat.le_refl _) (And.intro (Nat.le_refl _) ?_)))))))
  refine m_in (fun c c2 => ?_) (fun c => ?_)
  · rw [p_nil]
    refine br_f ((by decide)) ?_
    obtain ⟨n, hn1, hn, rfl⟩ := in1 (m := 20) (n := 20) rfl c c2
    refine br_c (fun c4 => ?_) (fun c4 => ?_)
    · exact fin0 (hN n hn1 hn rfl c4)
    · refine Exists.intro [0, 1, 2, 3, 4, 5, 6, 7, 8, 9, 10, 11, 12, 13, 14, 15, 16, 17, 18] (Exists.intro [.ref 0] (Exists.intro ((mw (nI H) (nI R) dy (nI S) (nI L) po rh rr (nI S8) (nI S2) kd th mc wn sd sp st tx rk rt rm2 rw2 row past pu pin rows kept)) (Exists.intro 0 (Exists.intro 0 (And.intro ⟨rfl, rfl, Nat.le_of_ble_eq_true rfl, rfl, rfl, rfl, ⟨0, _, rfl, rfl⟩⟩ (And.intro (Nat.le_refl _) (And.intro (Nat.le_refl _) ?_)))))))
      refine m_notes hS8 ?_
      rw [q_all rfl]
      refine Exists.intro [0, 1, 2, 3, 4, 5, 6, 7, 8, 9, 10, 11, 12, 13, 14, 15, 16, 17, 18] (Exists.intro [.ref 0, .int (nI n)] (Exists.intro ((mw (nI H) (nI R) dy (nI S) (nI L) po rh rr (nI (ps 8 S8)) (nI S2) kd th mc wn sd sp st tx rk rt rm2 rw2 row (ntF past S8 dy th mc wn) pu pin rows kept)) (Exists.intro 0 (Exists.intro 0 (And.intro ⟨rfl, rfl, Nat.le_of_ble_eq_true rfl, rfl, rfl, rfl, ⟨0, _, rfl, rfl⟩⟩ (And.intro (Nat.le_refl _) (And.intro (Nat.le_refl _) ?_)))))))
      refine m_goesOn h6 h5 h0 hm rfl (by omega) (fun row => ?_)
      rw [q_all rfl]
      exact fin0 (hT n hn1 hn rfl c4 row)
  · rw [p_nil]
    refine br_t ((rfl)) ?_
    exact fin0 (hB c)
theorem y_pin (hS8 : S8 ≤ 8) (h6 : H ≤ 6) (h0 : 0 < H) (h5 : R ≤ 5) (h1 : 0 < R) (hF : ¬ (inR x H ∧ inR y R ∧ ¬ v < 0 ∧ ¬ 9 < v) → Q (some (.int (-1))) (mw (nI H) (nI R) dy (nI S) (nI L) po rh rr (nI S8) (nI S2) kd th mc wn sd sp st tx rk rt rm2 rw2 row past pu pin rows kept)) (hN : ∀ a b, a < H → b < R → x = nI a → y = nI b → (¬ v < 0 ∧ ¬ 9 < v) → th (5 * a + b) = v → Q (some (.int (-2))) (mw (nI H) (nI R) dy (nI S) (nI L) po rh rr (nI S8) (nI S2) kd th mc wn sd sp st tx rk rt rm2 rw2 row past pu pin rows kept)) (hT : ∀ a b, a < H → b < R → x = nI a → y = nI b → (¬ v < 0 ∧ ¬ 9 < v) → ¬ th (5 * a + b) = v → Q (some (.int (th (5 * a + b)))) (mw (nI H) (nI R) dy (nI S) (nI L) po rh rr (nI (ps 8 S8)) (nI S2) kd (upd th (5 * a + b) v) mc wn sd sp st tx rk rt rm2 rw2 row (ntF past S8 dy th mc wn) pu pin rows kept)) : callok (d + 3) 148 0 0 [.ref 0, .int x, .int y, .int v] (mw (nI H) (nI R) dy (nI S) (nI L) po rh rr (nI S8) (nI S2) kd th mc wn sd sp st tx rk rt rm2 rw2 row past pu pin rows kept) Q := by
  refine beg rfl (gs [] ?_)
  refine Exists.intro [0, 1, 2, 3, 4, 5, 6, 7, 8, 9, 10, 11, 12, 13, 14, 15, 16, 17, 18] (Exists.intro [.ref 0, .int x] (Exists.intro ((mw (nI H) (nI R) dy (nI S) (nI L) po rh rr (nI S8) (nI S2) kd th mc wn sd sp st tx rk rt rm2 rw2 row past pu pin rows kept)) (Exists.intro 0 (Exists.intro 0 (And.intro ⟨rfl, rfl, Nat.le_of_ble_eq_true rfl, rfl, rfl, rfl, ⟨0, _, rfl, rfl⟩⟩ (And.intro (Nat.le_refl _) (And.intro (Nat.le_refl _) ?_)))))))
  refine m_isHouse h6 h0 (fun c => ?_) (fun c => ?_)
  · rw [q_all rfl]
    refine br_f ((by decide)) ?_
    refine Exists.intro [0, 1, 2, 3, 4, 5, 6, 7, 8, 9, 10, 11, 12, 13, 14, 15, 16, 17, 18] (Exists.intro [.ref 0, .int y] (Exists.intro ((mw (nI H) (nI R) dy (nI S) (nI L) po rh rr (nI S8) (nI S2) kd th mc wn sd sp st tx rk rt rm2 rw2 row past pu pin rows kept)) (Exists.intro 0 (Exists.intro 0 (And.intro ⟨rfl, rfl, Nat.le_of_ble_eq_true rfl, rfl, rfl, rfl, ⟨0, _, rfl, rfl⟩⟩ (And.intro (Nat.le_refl _) (And.intro (Nat.le_refl _) ?_)))))))
    refine m_isRoom h5 h1 (fun c2 => ?_) (fun c2 => ?_)
    · rw [q_all rfl]
      refine br_f ((by decide)) ?_
      refine Exists.intro [] (Exists.intro [.int v, .int 0, .int 9] (Exists.intro ([]) (Exists.intro 0 (Exists.intro 0 (And.intro ⟨rfl, rfl, Nat.le_of_ble_eq_true rfl, rfl, rfl, rfl, trivial⟩ (And.intro (Nat.le_refl _) (And.intro (Nat.le_refl _) ?_)))))))
      refine m_in (fun c3 c4 => ?_) (fun c3 => ?_)
      · rw [p_nil]
        refine br_f ((by decide)) ?_
        obtain ⟨a, ha, rfl⟩ := inR_of c (by omega)
        obtain ⟨b, hb, rfl⟩ := inR_of c2 (by omega)
        refine Exists.intro (5 * a + b) (And.intro (j5 a b) (And.intro ⟨by omega, by omega⟩ ?_))
        refine br_c (fun c5 => ?_) (fun c5 => ?_)
        · exact fin0 (hN a b ha hb rfl rfl ⟨c3, c4⟩ c5)
        · refine Exists.intro [0, 1, 2, 3, 4, 5, 6, 7, 8, 9, 10, 11, 12, 13, 14, 15, 16, 17, 18] (Exists.intro [.ref 0] (Exists.intro ((mw (nI H) (nI R) dy (nI S) (nI L) po rh rr (nI S8) (nI S2) kd th mc wn sd sp st tx rk rt rm2 rw2 row past pu pin rows kept)) (Exists.intro 0 (Exists.intro 0 (And.intro ⟨rfl, rfl, Nat.le_of_ble_eq_true rfl, rfl, rfl, rfl, ⟨0, _, rfl, rfl⟩⟩ (And.intro (Nat.le_refl _) (And.intro (Nat.le_refl _) ?_)))))))
          refine m_notes hS8 ?_
          rw [q_all rfl]
          refine Exists.intro (5 * a + b) (And.intro (j5 a b) (And.intro ⟨by omega, by omega⟩ ?_))
          exact fin0 (hT a b ha hb rfl rfl ⟨c3, c4⟩ c5)
      · rw [p_nil]
        refine br_t ((rfl)) ?_
        exact fin0 (hF (fun z => c3 z.2.2))
    · rw [q_all rfl]
      refine br_t ((rfl)) ?_
      exact fin0 (hF (fun z => c2 z.2.1))
  · rw [q_all rfl]
    refine br_t ((rfl)) ?_
    exact fin0 (hF (fun z => c z.1))
theorem y_sneeze (hS8 : S8 ≤ 8) (h6 : H ≤ 6) (h0 : 0 < H) (h5 : R ≤ 5) (h1 : 0 < R) (hF : ¬ inR x H → Q (some (.int (-1))) (mw (nI H) (nI R) dy (nI S) (nI L) po rh rr (nI S8) (nI S2) kd th mc wn sd sp st tx rk rt rm2 rw2 row past pu pin rows kept)) (hT : ∀ a, a < H → x = nI a → Q (some (.int (shT th R a (5 * a)))) (mw (nI H) (nI R) dy (nI S) (nI L) po rh rr (nI (ps 8 S8)) (nI S2) kd (shT th R a) mc wn sd sp st tx rk rt rm2 rw2 row (ntF past S8 dy th mc wn) pu pin rows kept)) : callok (d + 3) 150 0 0 [.ref 0, .int x] (mw (nI H) (nI R) dy (nI S) (nI L) po rh rr (nI S8) (nI S2) kd th mc wn sd sp st tx rk rt rm2 rw2 row past pu pin rows kept) Q := by
  refine beg rfl (gs [] ?_)
  refine Exists.intro [0, 1, 2, 3, 4, 5, 6, 7, 8, 9, 10, 11, 12, 13, 14, 15, 16, 17, 18] (Exists.intro [.ref 0, .int x] (Exists.intro ((mw (nI H) (nI R) dy (nI S) (nI L) po rh rr (nI S8) (nI S2) kd th mc wn sd sp st tx rk rt rm2 rw2 row past pu pin rows kept)) (Exists.intro 0 (Exists.intro 0 (And.intro ⟨rfl, rfl, Nat.le_of_ble_eq_true rfl, rfl, rfl, rfl, ⟨0, _, rfl, rfl⟩⟩ (And.intro (Nat.le_refl _) (And.intro (Nat.le_refl _) ?_)))))))
  refine m_isHouse h6 h0 (fun c => ?_) (fun c => ?_)
  · rw [q_all rfl]
    refine br_f ((by decide)) ?_
    obtain ⟨a, ha, rfl⟩ := inR_of c (by omega)
    refine Exists.intro [0, 1, 2, 3, 4, 5, 6, 7, 8, 9, 10, 11, 12, 13, 14, 15, 16, 17, 18] (Exists.intro [.ref 0] (Exists.intro ((mw (nI H) (nI R) dy (nI S) (nI L) po rh rr (nI S8) (nI S2) kd th mc wn sd sp st tx rk rt rm2 rw2 row past pu pin rows kept)) (Exists.intro 0 (Exists.intro 0 (And.intro ⟨rfl, rfl, Nat.le_of_ble_eq_true rfl, rfl, rfl, rfl, ⟨0, _, rfl, rfl⟩⟩ (And.intro (Nat.le_refl _) (And.intro (Nat.le_refl _) ?_)))))))
    refine m_notes hS8 ?_
    rw [q_all rfl]
    refine Exists.intro [0, 1, 2, 3, 4, 5, 6, 7, 8, 9, 10, 11, 12, 13, 14, 15, 16, 17, 18] (Exists.intro [.ref 0, .int (nI a)] (Exists.intro ((mw (nI H) (nI R) dy (nI S) (nI L) po rh rr (nI (ps 8 S8)) (nI S2) kd th mc wn sd sp st tx rk rt rm2 rw2 row (ntF past S8 dy th mc wn) pu pin rows kept)) (Exists.intro 0 (Exists.intro 0 (And.intro ⟨rfl, rfl, Nat.le_of_ble_eq_true rfl, rfl, rfl, rfl, ⟨0, _, rfl, rfl⟩⟩ (And.intro (Nat.le_refl _) (And.intro (Nat.le_refl _) ?_)))))))
    refine m_sneezes h1 h5 (by omega) rfl ?_
    rw [q_all rfl]
    have e5 : 5 * nI a = nI (5 * a) := by rw [show (5 : Int32) = nI 5 from rfl, pk_mul]
    refine Exists.intro (5 * a) (And.intro (e5) (And.intro ⟨by omega, by omega⟩ ?_))
    exact fin0 (hT a ha rfl)
  · rw [q_all rfl]
    refine br_t ((rfl)) ?_
    exact fin0 (hF c)
theorem y_mousing (hS8 : S8 ≤ 8) (h6 : H ≤ 6) (h0 : 0 < H) (hm : ∀ k, k < H → mc k = nI (if M.testBit k = true then 1 else 0)) (hv : v = 0 ∨ v = 1) (hF : ¬ inR x H → Q (some (.int (-1))) (mw (nI H) (nI R) dy (nI S) (nI L) po rh rr (nI S8) (nI S2) kd th mc wn sd sp st tx rk rt rm2 rw2 row past pu pin rows kept)) (hN : ∀ a, a < H → x = nI a → (M.testBit a = true ↔ v = 1) → Q (some (.int (-2))) (mw (nI H) (nI R) dy (nI S) (nI L) po rh rr (nI S8) (nI S2) kd th mc wn sd sp st tx rk rt rm2 rw2 row past pu pin rows kept)) (hT : ∀ a, a < H → x = nI a → ¬ (M.testBit a = true ↔ v = 1) → Q (some (.int (nI (maN (M ^^^ 2 ^ a) H)))) (mw (nI H) (nI R) dy (nI S) (nI L) po rh rr (nI (ps 8 S8)) (nI S2) kd th (upd mc a v) wn sd sp st tx rk rt rm2 rw2 row (ntF past S8 dy th mc wn) pu pin rows kept)) : callok (d + 3) 151 0 0 [.ref 0, .int x, .int v] (mw (nI H) (nI R) dy (nI S) (nI L) po rh rr (nI S8) (nI S2) kd th mc wn sd sp st tx rk rt rm2 rw2 row past pu pin rows kept) Q := by
  refine beg rfl (gs [] ?_)
  refine Exists.intro [0, 1, 2, 3, 4, 5, 6, 7, 8, 9, 10, 11, 12, 13, 14, 15, 16, 17, 18] (Exists.intro [.ref 0, .int x] (Exists.intro ((mw (nI H) (nI R) dy (nI S) (nI L) po rh rr (nI S8) (nI S2) kd th mc wn sd sp st tx rk rt rm2 rw2 row past pu pin rows kept)) (Exists.intro 0 (Exists.intro 0 (And.intro ⟨rfl, rfl, Nat.le_of_ble_eq_true rfl, rfl, rfl, rfl, ⟨0, _, rfl, rfl⟩⟩ (And.intro (Nat.le_refl _) (And.intro (Nat.le_refl _) ?_)))))))
  refine m_isHouse h6 h0 (fun c => ?_) (fun c => ?_)
  · rw [q_all rfl]
    refine br_f ((by decide)) ?_
    obtain ⟨a, ha, rfl⟩ := inR_of c (by omega)
    have ei : mc a = v ↔ (M.testBit a = true ↔ v = 1) := by
      rw [hm a ha]
      rcases hv with rfl | rfl <;> cases M.testBit a <;> decide
    refine Exists.intro (a) (And.intro (rfl) (And.intro ⟨by omega, by omega⟩ ?_))
    refine br_c (fun c2 => ?_) (fun c2 => ?_)
    · exact fin0 (hN a ha rfl (ei.mp c2))
    · have c3 : ¬ (M.testBit a = true ↔ v = 1) := fun z => c2 (ei.mpr z)
      have ev : v = nI (if M.testBit a = true then 0 else 1) := by
        revert c3
        rcases hv with rfl | rfl <;> cases M.testBit a <;> decide
      refine Exists.intro [0, 1, 2, 3, 4, 5, 6, 7, 8, 9, 10, 11, 12, 13, 14, 15, 16, 17, 18] (Exists.intro [.ref 0] (Exists.intro ((mw (nI H) (nI R) dy (nI S) (nI L) po rh rr (nI S8) (nI S2) kd th mc wn sd sp st tx rk rt rm2 rw2 row past pu pin rows kept)) (Exists.intro 0 (Exists.intro 0 (And.intro ⟨rfl, rfl, Nat.le_of_ble_eq_true rfl, rfl, rfl, rfl, ⟨0, _, rfl, rfl⟩⟩ (And.intro (Nat.le_refl _) (And.intro (Nat.le_refl _) ?_)))))))
      refine m_notes hS8 ?_
      rw [q_all rfl]
      refine Exists.intro (a) (And.intro (rfl) (And.intro ⟨by omega, by omega⟩ ?_))
      refine Exists.intro [0, 1, 2, 3, 4, 5, 6, 7, 8, 9, 10, 11, 12, 13, 14, 15, 16, 17, 18] (Exists.intro [.ref 0] (Exists.intro ((mw (nI H) (nI R) dy (nI S) (nI L) po rh rr (nI (ps 8 S8)) (nI S2) kd th (upd mc a v) wn sd sp st tx rk rt rm2 rw2 row (ntF past S8 dy th mc wn) pu pin rows kept)) (Exists.intro 0 (Exists.intro 0 (And.intro ⟨rfl, rfl, Nat.le_of_ble_eq_true rfl, rfl, rfl, rfl, ⟨0, _, rfl, rfl⟩⟩ (And.intro (Nat.le_refl _) (And.intro (Nat.le_refl _) ?_)))))))
      refine m_mouseMany (M := M ^^^ 2 ^ a) h6 (xor_bit hm ev) ?_
      rw [q_all rfl]
      exact fin0 (hT a ha rfl c3)
  · rw [q_all rfl]
    refine br_t ((rfl)) ?_
    exact fin0 (hF c)
theorem y_mouse (hS8 : S8 ≤ 8) (h6 : H ≤ 6) (h0 : 0 < H) (hm : ∀ k, k < H → mc k = nI (if M.testBit k = true then 1 else 0)) (hF : ¬ inR x H → Q (some (.int (-1))) (mw (nI H) (nI R) dy (nI S) (nI L) po rh rr (nI S8) (nI S2) kd th mc wn sd sp st tx rk rt rm2 rw2 row past pu pin rows kept)) (hN : ∀ a, a < H → x = nI a → (M.testBit a = true ↔ (1 : Int32) = 1) → Q (some (.int (-2))) (mw (nI H) (nI R) dy (nI S) (nI L) po rh rr (nI S8) (nI S2) kd th mc wn sd sp st tx rk rt rm2 rw2 row past pu pin rows kept)) (hT : ∀ a, a < H → x = nI a → ¬ (M.testBit a = true ↔ (1 : Int32) = 1) → Q (some (.int (nI (maN (M ^^^ 2 ^ a) H)))) (mw (nI H) (nI R) dy (nI S) (nI L) po rh rr (nI (ps 8 S8)) (nI S2) kd th (upd mc a 1) wn sd sp st tx rk rt rm2 rw2 row (ntF past S8 dy th mc wn) pu pin rows kept)) : callok (d + 4) 152 0 0 [.ref 0, .int x] (mw (nI H) (nI R) dy (nI S) (nI L) po rh rr (nI S8) (nI S2) kd th mc wn sd sp st tx rk rt rm2 rw2 row past pu pin rows kept) Q := by
  refine beg rfl (gs [] ?_)
  refine Exists.intro [0, 1, 2, 3, 4, 5, 6, 7, 8, 9, 10, 11, 12, 13, 14, 15, 16, 17, 18] (Exists.intro [.ref 0, .int x, .int 1] (Exists.intro ((mw (nI H) (nI R) dy (nI S) (nI L) po rh rr (nI S8) (nI S2) kd th mc wn sd sp st tx rk rt rm2 rw2 row past pu pin rows kept)) (Exists.intro 0 (Exists.intro 0 (And.intro ⟨rfl, rfl, Nat.le_of_ble_eq_true rfl, rfl, rfl, rfl, ⟨0, _, rfl, rfl⟩⟩ (And.intro (Nat.le_refl _) (And.intro (Nat.le_refl _) ?_)))))))
  refine y_mousing hS8 h6 h0 hm (Or.inr rfl) (fun c => ?_) (fun a ha ea c => ?_) (fun a ha ea c => ?_)
  · rw [q_all rfl]
    exact fin0 (hF c)
  · rw [q_all rfl]
    exact fin0 (hN a ha ea c)
  · rw [q_all rfl]
    exact fin0 (hT a ha ea c)
theorem y_chase (hS8 : S8 ≤ 8) (h6 : H ≤ 6) (h0 : 0 < H) (hm : ∀ k, k < H → mc k = nI (if M.testBit k = true then 1 else 0)) (hF : ¬ inR x H → Q (some (.int (-1))) (mw (nI H) (nI R) dy (nI S) (nI L) po rh rr (nI S8) (nI S2) kd th mc wn sd sp st tx rk rt rm2 rw2 row past pu pin rows kept)) (hN : ∀ a, a < H → x = nI a → (M.testBit a = true ↔ (0 : Int32) = 1) → Q (some (.int (-2))) (mw (nI H) (nI R) dy (nI S) (nI L) po rh rr (nI S8) (nI S2) kd th mc wn sd sp st tx rk rt rm2 rw2 row past pu pin rows kept)) (hT : ∀ a, a < H → x = nI a → ¬ (M.testBit a = true ↔ (0 : Int32) = 1) → Q (some (.int (nI (maN (M ^^^ 2 ^ a) H)))) (mw (nI H) (nI R) dy (nI S) (nI L) po rh rr (nI (ps 8 S8)) (nI S2) kd th (upd mc a 0) wn sd sp st tx rk rt rm2 rw2 row (ntF past S8 dy th mc wn) pu pin rows kept)) : callok (d + 4) 153 0 0 [.ref 0, .int x] (mw (nI H) (nI R) dy (nI S) (nI L) po rh rr (nI S8) (nI S2) kd th mc wn sd sp st tx rk rt rm2 rw2 row past pu pin rows kept) Q := by
  refine beg rfl (gs [] ?_)
  refine Exists.intro [0, 1, 2, 3, 4, 5, 6, 7, 8, 9, 10, 11, 12, 13, 14, 15, 16, 17, 18] (Exists.intro [.ref 0, .int x, .int 0] (Exists.intro ((mw (nI H) (nI R) dy (nI S) (nI L) po rh rr (nI S8) (nI S2) kd th mc wn sd sp st tx rk rt rm2 rw2 row past pu pin rows kept)) (Exists.intro 0 (Exists.intro 0 (And.intro ⟨rfl, rfl, Nat.le_of_ble_eq_true rfl, rfl, rfl, rfl, ⟨0, _, rfl, rfl⟩⟩ (And.intro (Nat.le_refl _) (And.intro (Nat.le_refl _) ?_)))))))
  refine y_mousing hS8 h6 h0 hm (Or.inl rfl) (fun c => ?_) (fun a ha ea c => ?_) (fun a ha ea c => ?_)
  · rw [q_all rfl]
    exact fin0 (hF c)
  · rw [q_all rfl]
    exact fin0 (hN a ha ea c)
  · rw [q_all rfl]
    exact fin0 (hT a ha ea c)
end ME
