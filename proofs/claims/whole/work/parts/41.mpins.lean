/-! THE REFERENCE: pins -/
def cdN (kd : Nat → Int32) : Nat → Nat
  | 0 => 0
  | k + 1 => cdN kd k + (if kd k = 3 then 1 else 0)
theorem cdN_le {kd : Nat → Int32} : ∀ k, cdN kd k ≤ k
  | 0 => Nat.le_refl _
  | k + 1 => by
    have := cdN_le (kd := kd) k
    rw [cdN]
    split <;> omega
def pbG (g : Nat → Bool) : Nat → Int32 → Int32
  | 0, b => b
  | k + 1, b => pbG g k (if g k = true then nI k else b)
abbrev pfB (kd th wi : Nat → Int32) (M H R n j r : Nat) : Int32 := pbG (fun v => (metN wi (itT kd M H R n (upd th (5 * (H - 1) + j) (nI v))) R).testBit r) 10 (-4)
def pfR (kd th wi wn : Nat → Int32) (M H R n met c : Nat) : Nat → Nat → Nat → (Nat → Int32) → Int32 × (Nat → Int32)
  | 0, _, mv, pin => (nI mv, pin)
  | f + 1, r, mv, pin => if wn r = -4 then pfR kd th wi wn M H R n met c f (r + 1) mv pin else if met.testBit r = true then pfR kd th wi wn M H R n met c f (r + 1) mv pin else if pfB kd th wi M H R n ((r + c) % R) r = -4 then (-4, pin) else pfR kd th wi wn M H R n met c f (r + 1) (mv + 1) (upd pin ((r + c) % R) (pfB kd th wi M H R n ((r + c) % R) r))
theorem m1_of {t : Int32} (h : t + 1 = nI 0) : t = -1 := by
  have h2 : t + 1 - 1 = nI 0 - 1 := by rw [h]
  rw [Int32.add_sub_cancel] at h2
  rw [h2]
  rfl
theorem pr_of {t : Int32} {k : Nat} (h : t + 1 = nI (k + 1)) : t = nI k := by
  have h2 : t + 1 - 1 = nI (k + 1) - 1 := by rw [h]
  rw [Int32.add_sub_cancel, nI_succ, Int32.add_sub_cancel] at h2
  exact h2
section MN
variable {d : Nat} {hs rm dy sn ln po rh rr pn kn : Int32} {kd th mc wn sd sp st tx rk rt rm2 rw2 row past pu pin rows kept : Nat → Int32} {wi : Nat → Int32} {H R M a b n m k r j L S S2 S8 : Nat} {x y v w u : Int32} {Q : Option Value → List aC → Prop}
theorem m_pinsEnd (h6 : H ≤ 6) (h0 : 0 < H) (h5 : R ≤ 5) (h1 : 0 < R) (hm : ∀ k, k < H → mc k = nI (if M.testBit k = true then 1 else 0)) (hw : ∀ j z, z < 10 → ∀ n k, k < R → ((¬ wn k = -4 ∧ itT kd M H R n (upd th j (nI z)) k = wn k) ↔ wi k = itT kd M H R n (upd th j (nI z)) k)) (hw0 : ∀ n k, k < R → ((¬ wn k = -4 ∧ itT kd M H R n th k = wn k) ↔ wi k = itT kd M H R n th k)) (hn : n ≤ 1000) (hQ : ∀ row pu, Q (some (.int (pfR kd th wi wn M H R n (metN wi (itT kd M H R n th) R) (cdN kd (H - 1)) R 0 0 pin).1)) (mw (nI H) (nI R) dy (nI S) (nI L) po rh rr (nI S8) (nI S2) kd th mc wn sd sp st tx rk rt rm2 rw2 row past pu (pfR kd th wi wn M H R n (metN wi (itT kd M H R n th) R) (cdN kd (H - 1)) R 0 0 pin).2 rows kept)) : wp (0, 0, callok (d + 4)) (mcode 163) (qE 0 0 Q) 53 [some (.ref 0), some (.int (nI n)), some (.int (5 * (nI H - 1))), some (.int (nI (cdN kd (H - 1)))), some (.int (nI R)), none, none, none, none, none, none] [] (mw (nI H) (nI R) dy (nI S) (nI L) po rh rr (nI S8) (nI S2) kd th mc wn sd sp st tx rk rt rm2 rw2 row past pu pin rows kept) 0 0 := by
  have eH := nI_m1 (n := H) h0
  have eB : ∀ j, (5 * (nI H - 1)) + nI j = nI (5 * (H - 1) + j) := fun j => by rw [eH, j5]
  have hc6 : (cdN kd (H - 1)) ≤ 6 := Nat.le_trans (cdN_le _) (by omega)
  refine gs [97] ?_
  refine br_f ((show ¬ nI R < nI R by exact nI_nlt (by omega) (by omega))) ?_
  refine Exists.intro [0, 1, 2, 3, 4, 5, 6, 7, 8, 9, 10, 11, 12, 13, 14, 15, 16, 17, 18] (Exists.intro [.ref 0, .int (nI n)] (Exists.intro ((mw (nI H) (nI R) dy (nI S) (nI L) po rh rr (nI S8) (nI S2) kd th mc wn sd sp st tx rk rt rm2 rw2 row past pu pin rows kept)) (Exists.intro 0 (Exists.intro 0 (And.intro ⟨rfl, rfl, Nat.le_of_ble_eq_true rfl, rfl, rfl, rfl, ⟨0, _, rfl, rfl⟩⟩ (And.intro (Nat.le_refl _) (And.intro (Nat.le_refl _) ?_)))))))
  refine m_metBehind (wi := wi) h6 h5 h0 hm rfl hn (hw0 n) (fun row pu => ?_)
  rw [q_all rfl]
  have hm32 : (metN wi (itT kd M H R n th) R) < 32 := metN_32 h5
  generalize hPF : (pfR kd th wi wn M H R n (metN wi (itT kd M H R n th) R) (cdN kd (H - 1)) R 0 0 pin) = PFX at hQ
  have key : ∀ (f r mv : Nat) (pin row pu : Nat → Int32) (v7 v8 v9 v10 : Option Value), r + f = R → mv ≤ r → pfR kd th wi wn M H R n (metN wi (itT kd M H R n th) R) (cdN kd (H - 1)) f r mv pin = PFX → wp (0, 0, callok (d + 4)) (mcode 163) (qE 0 0 Q) 97 [some (.ref 0), some (.int (nI n)), some (.int (5 * (nI H - 1))), some (.int (nI (cdN kd (H - 1)))), some (.int (nI (metN wi (itT kd M H R n th) R))), some (.int (nI mv)), some (.int (nI r)), v7, v8, v9, v10] [] (mw (nI H) (nI R) dy (nI S) (nI L) po rh rr (nI S8) (nI S2) kd th mc wn sd sp st tx rk rt rm2 rw2 row past pu pin rows kept) 0 0 := by
    intro f
    induction f with
    | zero =>
      intro r mv pin row pu v7 v8 v9 v10 hr hmv e
      refine gs [97] ?_
      refine br_f ((show ¬ nI r < nI R by exact nI_nlt (by omega) (by omega))) ?_
      rw [pfR] at e
      rw [← e] at hQ
      exact fin0 (hQ row pu)
    | succ f ih =>
      intro r mv pin row pu v7 v8 v9 v10 hr hmv e
      refine gs [97, 158] ?_
      refine br_t ((show nI r < nI R by exact nI_lt (by omega) (by omega))) ?_
      refine Exists.intro (r) (And.intro (rfl) (And.intro ⟨by omega, by omega⟩ ?_))
      rw [pfR] at e
      refine br_c (fun c => ?_) (fun c => ?_)
      · rw [if_pos c] at e
        have h9 := ih (r + 1) mv pin row pu v7 v8 v9 v10 (by omega) (by omega) e
        rw [nI_succ r] at h9
        exact h9
      · rw [if_neg c] at e
        refine Exists.intro [] (Exists.intro [.int (nI (metN wi (itT kd M H R n th) R)), .int (nI r)] (Exists.intro ([]) (Exists.intro 0 (Exists.intro 0 (And.intro ⟨rfl, rfl, Nat.le_of_ble_eq_true rfl, rfl, rfl, rfl, trivial⟩ (And.intro (Nat.le_refl _) (And.intro (Nat.le_refl _) ?_)))))))
        refine m_has rfl rfl (by omega) (by omega) (fun c2 => ?_) (fun c2 => ?_)
        · rw [p_nil]
          refine br_f ((by decide)) ?_
          rw [if_pos c2] at e
          have h9 := ih (r + 1) mv pin row pu v7 v8 v9 v10 (by omega) (by omega) e
          rw [nI_succ r] at h9
          exact h9
        · rw [p_nil]
          refine br_t ((rfl)) ?_
          rw [if_neg c2] at e
          have eF : (nI r + nI (cdN kd (H - 1)) - (nI r + nI (cdN kd (H - 1))) / nI R * nI R) = nI ((r + (cdN kd (H - 1))) % R) := by rw [nI_add, pk_rem (by omega) (by omega) (by omega)]
          have hj : (r + (cdN kd (H - 1))) % R < R := Nat.mod_lt _ h1
          generalize hjj : (r + (cdN kd (H - 1))) % R = j at eF hj e
          have eJ : (5 * (nI H - 1)) + (nI r + nI (cdN kd (H - 1)) - (nI r + nI (cdN kd (H - 1))) / nI R * nI R) = nI (5 * (H - 1) + j) := by rw [eF, eB]
          refine And.intro (fun z => absurd ((nI_eq (b := 0) (by omega) (by omega)).mp z) (by omega)) ?_
          refine Exists.intro ((5 * (H - 1) + j)) (And.intro (eJ) (And.intro ⟨by omega, by omega⟩ ?_))
          have inn : ∀ (k : Nat) (b t : Int32) (th' row pu : Nat → Int32), k ≤ 10 → t + 1 = nI k → (∀ z, upd th' (5 * (H - 1) + j) z = upd th (5 * (H - 1) + j) z) → pbG (fun v => (metN wi (itT kd M H R n (upd th (5 * (H - 1) + j) (nI v))) R).testBit r) k b = pfB kd th wi M H R n j r → wp (0, 0, callok (d + 4)) (mcode 163) (qE 0 0 Q) 158 [some (.ref 0), some (.int (nI n)), some (.int (5 * (nI H - 1))), some (.int (nI (cdN kd (H - 1)))), some (.int (nI (metN wi (itT kd M H R n th) R))), some (.int (nI mv)), some (.int (nI r)), some (.int (nI r + nI (cdN kd (H - 1)) - (nI r + nI (cdN kd (H - 1))) / nI R * nI R)), some (.int (th (5 * (H - 1) + j))), some (.int b), some (.int t)] [] (mw (nI H) (nI R) dy (nI S) (nI L) po rh rr (nI S8) (nI S2) kd th' mc wn sd sp st tx rk rt rm2 rw2 row past pu pin rows kept) 0 0 := by
            intro k
            induction k with
            | zero =>
              intro b t th' row pu hk ht hz eb
              obtain rfl := m1_of ht
              refine gs [158, 97] ?_
              refine br_t ((by decide)) ?_
              refine Exists.intro ((5 * (H - 1) + j)) (And.intro (eJ) (And.intro ⟨by omega, by omega⟩ ?_))
              rw [pbG] at eb
              subst eb
              have eo : upd th' (5 * (H - 1) + j) (th (5 * (H - 1) + j)) = th := by rw [hz, upd_own]
              refine br_c (fun c3 => ?_) (fun c3 => ?_)
              · have c3' : pfB kd th wi M H R n j r = -4 := c3
                rw [if_pos c3'] at e
                rw [← e] at hQ
                have hq := hQ row pu
                rw [← eo] at hq
                exact fin0 (hq)
              · have c3' : ¬ pfB kd th wi M H R n j r = -4 := c3
                rw [if_neg c3'] at e
                refine Exists.intro (j) (And.intro (eF) (And.intro ⟨by omega, by omega⟩ ?_))
                have h9 := ih (r + 1) (mv + 1) (upd pin j (pfB kd th wi M H R n j r)) row pu (some (.int (nI r + nI (cdN kd (H - 1)) - (nI r + nI (cdN kd (H - 1))) / nI R * nI R))) (some (.int (th (5 * (H - 1) + j)))) (some (.int (pfB kd th wi M H R n j r))) (some (.int (-1))) (by omega) (by omega) e
                rw [nI_succ r, nI_succ mv] at h9
                have h10 : wp (0, 0, callok (d + 4)) (mcode 163) (qE 0 0 Q) 97 [some (.ref 0), some (.int (nI n)), some (.int (5 * (nI H - 1))), some (.int (nI (cdN kd (H - 1)))), some (.int (nI (metN wi (itT kd M H R n th) R))), some (.int (nI mv + 1)), some (.int (nI r + 1)), some (.int (nI r + nI (cdN kd (H - 1)) - (nI r + nI (cdN kd (H - 1))) / nI R * nI R)), some (.int (th (5 * (H - 1) + j))), some (.int (pfB kd th wi M H R n j r)), some (.int (-1))] [] (mw (nI H) (nI R) dy (nI S) (nI L) po rh rr (nI S8) (nI S2) kd (upd th' (5 * (H - 1) + j) (th (5 * (H - 1) + j))) mc wn sd sp st tx rk rt rm2 rw2 row past pu (upd pin j (pfB kd th wi M H R n j r)) rows kept) 0 0 := by
                  rw [eo]
                  exact h9
                exact h10
            | succ k ihk =>
              intro b t th' row pu hk ht hz eb
              obtain rfl := pr_of ht
              refine gs [158] ?_
              refine br_f ((show ¬ nI k < 0 from nI_pos (by omega))) ?_
              refine Exists.intro ((5 * (H - 1) + j)) (And.intro (eJ) (And.intro ⟨by omega, by omega⟩ ?_))
              refine Exists.intro [0, 1, 2, 3, 4, 5, 6, 7, 8, 9, 10, 11, 12, 13, 14, 15, 16, 17, 18] (Exists.intro [.ref 0, .int (nI n)] (Exists.intro ((mw (nI H) (nI R) dy (nI S) (nI L) po rh rr (nI S8) (nI S2) kd (upd th' (5 * (H - 1) + j) (nI k)) mc wn sd sp st tx rk rt rm2 rw2 row past pu pin rows kept)) (Exists.intro 0 (Exists.intro 0 (And.intro ⟨rfl, rfl, Nat.le_of_ble_eq_true rfl, rfl, rfl, rfl, ⟨0, _, rfl, rfl⟩⟩ (And.intro (Nat.le_refl _) (And.intro (Nat.le_refl _) ?_)))))))
              refine m_metBehind (wi := wi) h6 h5 h0 hm rfl hn (by rw [hz]; exact hw (5 * (H - 1) + j) k (by omega) n) (fun row pu => ?_)
              rw [q_all rfl]
              rw [hz (nI k)]
              refine Exists.intro [] (Exists.intro [.int (nI (metN wi (itT kd M H R n (upd th (5 * (H - 1) + j) (nI k))) R)), .int (nI r)] (Exists.intro ([]) (Exists.intro 0 (Exists.intro 0 (And.intro ⟨rfl, rfl, Nat.le_of_ble_eq_true rfl, rfl, rfl, rfl, trivial⟩ (And.intro (Nat.le_refl _) (And.intro (Nat.le_refl _) ?_)))))))
              rw [pbG] at eb
              have hz2 : ∀ z, upd (upd th (5 * (H - 1) + j) (nI k)) (5 * (H - 1) + j) z = upd th (5 * (H - 1) + j) z := fun z => upd_upd _ _ _ _
              refine m_has rfl rfl (Nat.lt_of_lt_of_le (metN_32 h5) (by decide)) (by omega) (fun c4 => ?_) (fun c4 => ?_)
              · rw [p_nil]
                refine br_f ((by decide)) ?_
                rw [if_pos c4] at eb
                exact ihk (nI k) (nI k + (-1)) (upd th (5 * (H - 1) + j) (nI k)) row pu (by omega) (m1p1 _) hz2 eb
              · rw [p_nil]
                refine br_t ((rfl)) ?_
                rw [if_neg c4] at eb
                exact ihk b (nI k + (-1)) (upd th (5 * (H - 1) + j) (nI k)) row pu (by omega) (m1p1 _) hz2 eb
          exact inn 10 (-4) 9 th row pu (by omega) rfl (fun _ => rfl) rfl
  exact key R 0 0 pin row pu none none none none (by omega) (by omega) hPF
theorem m_pinsFor (h6 : H ≤ 6) (h0 : 0 < H) (h5 : R ≤ 5) (h1 : 0 < R) (hm : ∀ k, k < H → mc k = nI (if M.testBit k = true then 1 else 0)) (hw : ∀ j z, z < 10 → ∀ n k, k < R → ((¬ wn k = -4 ∧ itT kd M H R n (upd th j (nI z)) k = wn k) ↔ wi k = itT kd M H R n (upd th j (nI z)) k)) (hw0 : ∀ n k, k < R → ((¬ wn k = -4 ∧ itT kd M H R n th k = wn k) ↔ wi k = itT kd M H R n th k)) (hx : x = nI n) (hn : n ≤ 1000) (hQ : ∀ row pu, Q (some (.int (pfR kd th wi wn M H R n (metN wi (itT kd M H R n th) R) (cdN kd (H - 1)) R 0 0 (cpT pin (fun b => th (5 * (H - 1) + b)) 0 R)).1)) (mw (nI H) (nI R) dy (nI S) (nI L) po rh rr (nI S8) (nI S2) kd th mc wn sd sp st tx rk rt rm2 rw2 row past pu (pfR kd th wi wn M H R n (metN wi (itT kd M H R n th) R) (cdN kd (H - 1)) R 0 0 (cpT pin (fun b => th (5 * (H - 1) + b)) 0 R)).2 rows kept)) : callok (d + 5) 163 0 0 [.ref 0, .int x] (mw (nI H) (nI R) dy (nI S) (nI L) po rh rr (nI S8) (nI S2) kd th mc wn sd sp st tx rk rt rm2 rw2 row past pu pin rows kept) Q := by
  subst hx
  have eH := nI_m1 (n := H) h0
  have eB : ∀ j, (5 * (nI H - 1)) + nI j = nI (5 * (H - 1) + j) := fun j => by rw [eH, j5]
  have hc6 : (cdN kd (H - 1)) ≤ 6 := Nat.le_trans (cdN_le _) (by omega)
  refine beg rfl (gs [14] ?_)
  refine up (W := fun k => wp (0, 0, callok (d + 4)) (mcode 163) (qE 0 0 Q) 14 [some (.ref 0), some (.int (nI n)), some (.int (5 * (nI H - 1))), some (.int (nI (cdN kd k))), some (.int (nI k)), none, none, none, none, none, none] [] (mw (nI H) (nI R) dy (nI S) (nI L) po rh rr (nI S8) (nI S2) kd th mc wn sd sp st tx rk rt rm2 rw2 row past pu pin rows kept) 0 0) (H - 1) ?_ ?_
  · refine gs [53] ?_
    refine br_f ((show ¬ nI (H - 1) < nI H - 1 by rw [eH]; exact nI_nlt (by omega) (by omega))) ?_
    have h2 := up (W := fun k => wp (0, 0, callok (d + 4)) (mcode 163) (qE 0 0 Q) 53 [some (.ref 0), some (.int (nI n)), some (.int (5 * (nI H - 1))), some (.int (nI (cdN kd (H - 1)))), some (.int (nI k)), none, none, none, none, none, none] [] (mw (nI H) (nI R) dy (nI S) (nI L) po rh rr (nI S8) (nI S2) kd th mc wn sd sp st tx rk rt rm2 rw2 row past pu (cpT pin (fun b => th (5 * (H - 1) + b)) 0 k) rows kept) 0 0) R ?_ ?_
    · rw [cpT_0] at h2
      exact h2
    · exact m_pinsEnd (wi := wi) h6 h0 h5 h1 hm hw hw0 hn hQ
    · intro k hk ih
      refine gs [53] ?_
      refine br_t ((show nI k < nI R by exact nI_lt hk (by omega))) ?_
      refine Exists.intro (5 * (H - 1) + k) (And.intro (eB k) (And.intro ⟨by omega, by omega⟩ ?_))
      refine Exists.intro (k) (And.intro (rfl) (And.intro ⟨by omega, by omega⟩ ?_))
      rw [nI_succ k, ← cpT_s (k := k), Nat.zero_add] at ih
      exact ih
  · intro k hk ih
    refine gs [14] ?_
    refine br_t ((show nI k < nI H - 1 by rw [eH]; exact nI_lt hk (by omega))) ?_
    refine Exists.intro (k) (And.intro (rfl) (And.intro ⟨by omega, by omega⟩ ?_))
    rw [cdN, nI_succ k] at ih
    refine br_c (fun c => ?_) (fun c => ?_)
    · rw [if_pos c, nI_succ] at ih
      exact ih
    · rw [if_neg c] at ih
      have h9 : wp (0, 0, callok (d + 4)) (mcode 163) (qE 0 0 Q) 14 [some (.ref 0), some (.int (nI n)), some (.int (5 * (nI H - 1))), some (.int (nI (cdN kd k) + 0)), some (.int (nI k + 1)), none, none, none, none, none, none] [] (mw (nI H) (nI R) dy (nI S) (nI L) po rh rr (nI S8) (nI S2) kd th mc wn sd sp st tx rk rt rm2 rw2 row past pu pin rows kept) 0 0 := by
        rw [Int32.add_zero]
        exact ih
      exact h9
theorem in_m1 (h5 : R ≤ 5) (h1 : 0 < R) : (¬ y < -1 ∧ ¬ nI R - 1 < y) ↔ (y = -1 ∨ inR y R) := by
  rw [nI_m1 h1]
  constructor
  · rintro ⟨z1, z2⟩
    by_cases c : y < 0
    · left
      have h2 : y.toInt < 0 := Int32.lt_iff_toInt_lt.mp c
      have h3 : ¬ y.toInt < -1 := fun z => z1 (Int32.lt_iff_toInt_lt.mpr z)
      exact Int32.toInt_inj.mp (by rw [show (-1 : Int32).toInt = -1 from rfl]; omega)
    · right
      obtain ⟨j, hj, rfl⟩ := nI_of c
      have h4 : ¬ R - 1 < j := fun q => z2 ((nI_ltI (by omega) hj).mpr q)
      exact inR_nI (by omega) (by omega)
  · rintro (rfl | z)
    · refine ⟨by decide, fun z => ?_⟩
      exact absurd (Int32.lt_trans z (by decide : (-1 : Int32) < 0)) (nI_pos (by omega))
    · obtain ⟨a, ha, rfl⟩ := inR_of z (by omega)
      refine ⟨fun q => z.1 (Int32.lt_trans q (by decide)), nI_nlt (by omega) (by omega)⟩
theorem y_pins (h6 : H ≤ 6) (h0 : 0 < H) (h5 : R ≤ 5) (h1 : 0 < R) (hm : ∀ k, k < H → mc k = nI (if M.testBit k = true then 1 else 0)) (hw : ∀ j z, z < 10 → ∀ n k, k < R → ((¬ wn k = -4 ∧ itT kd M H R n (upd th j (nI z)) k = wn k) ↔ wi k = itT kd M H R n (upd th j (nI z)) k)) (hw0 : ∀ n k, k < R → ((¬ wn k = -4 ∧ itT kd M H R n th k = wn k) ↔ wi k = itT kd M H R n th k)) (hT : ∀ n, 1 ≤ n → n ≤ 40 → x = nI n → (y = -1 ∨ inR y R) → ∀ row pu, Q (some (.int (if (pfR kd th wi wn M H R n (metN wi (itT kd M H R n th) R) (cdN kd (H - 1)) R 0 0 (cpT pin (fun b => th (5 * (H - 1) + b)) 0 R)).1 = -4 then (pfR kd th wi wn M H R n (metN wi (itT kd M H R n th) R) (cdN kd (H - 1)) R 0 0 (cpT pin (fun b => th (5 * (H - 1) + b)) 0 R)).1 else if y < 0 then (pfR kd th wi wn M H R n (metN wi (itT kd M H R n th) R) (cdN kd (H - 1)) R 0 0 (cpT pin (fun b => th (5 * (H - 1) + b)) 0 R)).1 else (pfR kd th wi wn M H R n (metN wi (itT kd M H R n th) R) (cdN kd (H - 1)) R 0 0 (cpT pin (fun b => th (5 * (H - 1) + b)) 0 R)).2 y.toNatClampNeg))) (mw (nI H) (nI R) dy (nI S) (nI L) po rh rr (nI S8) (nI S2) kd th mc wn sd sp st tx rk rt rm2 rw2 row past pu (pfR kd th wi wn M H R n (metN wi (itT kd M H R n th) R) (cdN kd (H - 1)) R 0 0 (cpT pin (fun b => th (5 * (H - 1) + b)) 0 R)).2 rows kept)) (hF : ¬ ((¬ x < 1 ∧ ¬ 40 < x) ∧ (y = -1 ∨ inR y R)) → Q (some (.int (-1))) (mw (nI H) (nI R) dy (nI S) (nI L) po rh rr (nI S8) (nI S2) kd th mc wn sd sp st tx rk rt rm2 rw2 row past pu pin rows kept)) : callok (d + 6) 164 0 0 [.ref 0, .int x, .int y] (mw (nI H) (nI R) dy (nI S) (nI L) po rh rr (nI S8) (nI S2) kd th mc wn sd sp st tx rk rt rm2 rw2 row past pu pin rows kept) Q := by
  refine beg rfl (gs [] ?_)
  refine Exists.intro [] (Exists.intro [.int x, .int 1, .int 40] (Exists.intro ([]) (Exists.intro 0 (Exists.intro 0 (And.intro ⟨rfl, rfl, Nat.le_of_ble_eq_true rfl, rfl, rfl, rfl, trivial⟩ (And.intro (Nat.le_refl _) (And.intro (Nat.le_refl _) ?_)))))))
  refine m_in (fun c c2 => ?_) (fun c => ?_)
  · rw [p_nil]
    refine br_f ((by decide)) ?_
    refine Exists.intro [] (Exists.intro [.int y, .int (-1), .int (nI R - 1)] (Exists.intro ([]) (Exists.intro 0 (Exists.intro 0 (And.intro ⟨rfl, rfl, Nat.le_of_ble_eq_true rfl, rfl, rfl, rfl, trivial⟩ (And.intro (Nat.le_refl _) (And.intro (Nat.le_refl _) ?_)))))))
    refine m_in (fun c3 c4 => ?_) (fun c3 => ?_)
    · rw [p_nil]
      refine br_f ((by decide)) ?_
      have hy := (in_m1 h5 h1).mp ⟨c3, c4⟩
      obtain ⟨n, hn1, hn, rfl⟩ := in1 (n := 40) (by decide) c c2
      have hq := hT n hn1 hn rfl hy
      refine Exists.intro [0, 1, 2, 3, 4, 5, 6, 7, 8, 9, 10, 11, 12, 13, 14, 15, 16, 17, 18] (Exists.intro [.ref 0, .int (nI n)] (Exists.intro ((mw (nI H) (nI R) dy (nI S) (nI L) po rh rr (nI S8) (nI S2) kd th mc wn sd sp st tx rk rt rm2 rw2 row past pu pin rows kept)) (Exists.intro 0 (Exists.intro 0 (And.intro ⟨rfl, rfl, Nat.le_of_ble_eq_true rfl, rfl, rfl, rfl, ⟨0, _, rfl, rfl⟩⟩ (And.intro (Nat.le_refl _) (And.intro (Nat.le_refl _) ?_)))))))
      refine m_pinsFor (wi := wi) h6 h0 h5 h1 hm hw hw0 rfl (by omega) (fun row pu => ?_)
      rw [q_all rfl]
      have hq := hq row pu
      generalize (pfR kd th wi wn M H R n (metN wi (itT kd M H R n th) R) (cdN kd (H - 1)) R 0 0 (cpT pin (fun b => th (5 * (H - 1) + b)) 0 R)) = pf at hq ⊢
      refine br_c (fun c5 => ?_) (fun c5 => ?_)
      · rw [if_pos c5] at hq
        exact fin0 (hq)
      · rw [if_neg c5] at hq
        refine br_c (fun c6 => ?_) (fun c6 => ?_)
        · rw [if_pos c6] at hq
          exact fin0 (hq)
        · rw [if_neg c6] at hq
          rcases hy with rfl | hy
          · exact absurd (by decide) c6
          · obtain ⟨b, hb, rfl⟩ := inR_of hy (by omega)
            rw [nI_clamp (by omega)] at hq
            refine Exists.intro (b) (And.intro (rfl) (And.intro ⟨by omega, by omega⟩ ?_))
            exact fin0 (hq)
    · rw [p_nil]
      refine br_t ((rfl)) ?_
      exact fin0 (hF (fun z => c3 ((in_m1 h5 h1).mpr z.2)))
  · rw [p_nil]
    refine br_t ((rfl)) ?_
    exact fin0 (hF (fun z => c z.1))
end MN
