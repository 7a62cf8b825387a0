/-! THE REFERENCE: when, rest, count -/
section MH
variable {d : Nat} {hs rm dy sn ln po rh rr pn kn : Int32} {kd th mc wn sd sp st tx rk rt rm2 rw2 row past pu pin rows kept : Nat → Int32} {wi : Nat → Int32} {H R M a b n m k L S S2 S8 : Nat} {x y v w u : Int32} {Q : Option Value → List aC → Prop}
theorem y_when (h6 : H ≤ 6) (h0 : 0 < H) (h5 : R ≤ 5) (h1 : 0 < R) (hm : ∀ k, k < H → mc k = nI (if M.testBit k = true then 1 else 0)) (hT : ∀ b, b < R → x = nI b → (¬ y < 0 ∧ ¬ 9 < y) → ∀ row pu, Q (some (.int (fdG kd M H R b y 41 0 th))) (mw (nI H) (nI R) dy (nI S) (nI L) po rh rr (nI S8) (nI S2) kd th mc wn sd sp st tx rk rt rm2 rw2 row past pu pin rows kept)) (hF : ¬ (inR x R ∧ ¬ y < 0 ∧ ¬ 9 < y) → Q (some (.int (-1))) (mw (nI H) (nI R) dy (nI S) (nI L) po rh rr (nI S8) (nI S2) kd th mc wn sd sp st tx rk rt rm2 rw2 row past pu pin rows kept)) : callok (d + 3) 159 0 0 [.ref 0, .int x, .int y] (mw (nI H) (nI R) dy (nI S) (nI L) po rh rr (nI S8) (nI S2) kd th mc wn sd sp st tx rk rt rm2 rw2 row past pu pin rows kept) Q := by
  refine beg rfl (gs [26] ?_)
  refine Exists.intro [0, 1, 2, 3, 4, 5, 6, 7, 8, 9, 10, 11, 12, 13, 14, 15, 16, 17, 18] (Exists.intro [.ref 0, .int x] (Exists.intro ((mw (nI H) (nI R) dy (nI S) (nI L) po rh rr (nI S8) (nI S2) kd th mc wn sd sp st tx rk rt rm2 rw2 row past pu pin rows kept)) (Exists.intro 0 (Exists.intro 0 (And.intro ⟨rfl, rfl, Nat.le_of_ble_eq_true rfl, rfl, rfl, rfl, ⟨0, _, rfl, rfl⟩⟩ (And.intro (Nat.le_refl _) (And.intro (Nat.le_refl _) ?_)))))))
  refine m_isRoom h5 h1 (fun c => ?_) (fun c => ?_)
  · rw [q_all rfl]
    refine br_f ((by decide)) ?_
    refine Exists.intro [] (Exists.intro [.int y, .int 0, .int 9] (Exists.intro ([]) (Exists.intro 0 (Exists.intro 0 (And.intro ⟨rfl, rfl, Nat.le_of_ble_eq_true rfl, rfl, rfl, rfl, trivial⟩ (And.intro (Nat.le_refl _) (And.intro (Nat.le_refl _) ?_)))))))
    refine m_in (fun c2 c3 => ?_) (fun c2 => ?_)
    · rw [p_nil]
      refine br_f ((by decide)) ?_
      obtain ⟨b, hb, rfl⟩ := inR_of c (by omega)
      have hq := hT b hb rfl ⟨c2, c3⟩
      refine Exists.intro [0, 1, 2, 3, 4, 5, 6, 7, 8, 9, 10, 11, 12, 13, 14, 15, 16, 17, 18] (Exists.intro [.ref 0] (Exists.intro ((mw (nI H) (nI R) dy (nI S) (nI L) po rh rr (nI S8) (nI S2) kd th mc wn sd sp st tx rk rt rm2 rw2 row past pu pin rows kept)) (Exists.intro 0 (Exists.intro 0 (And.intro ⟨rfl, rfl, Nat.le_of_ble_eq_true rfl, rfl, rfl, rfl, ⟨0, _, rfl, rfl⟩⟩ (And.intro (Nat.le_refl _) (And.intro (Nat.le_refl _) ?_)))))))
      refine m_puts ?_
      rw [q_all rfl]
      have key : ∀ (f i : Nat) (th' row : Nat → Int32) (dy' : Int32) (v4 : Option Value), i + f = 40 → fdG kd M H R b y (f + 1) i th' = fdG kd M H R b y 41 0 th → wp (0, 0, callok (d + 2)) (mcode 159) (qE 0 0 Q) 26 [some (.ref 0), some (.int (nI b)), some (.int y), some (.int (nI i)), v4] [] (mw (nI H) (nI R) dy' (nI S) (nI L) po rh rr (nI S8) (nI S2) kd th' mc wn sd sp st tx rk rt rm2 rw2 row past (lyF pu 0 dy th mc wn) pin rows kept) 0 0 := by
        intro f
        induction f with
        | zero =>
          intro i th' row dy' v4 hi e
          obtain rfl : i = 40 := by omega
          refine gs [26] ?_
          refine br_f ((by decide)) ?_
          refine Exists.intro (b) (And.intro (rfl) (And.intro ⟨by omega, by omega⟩ ?_))
          rw [fdG] at e
          refine br_c (fun c4 => ?_) (fun c4 => ?_)
          · rw [if_pos c4] at e
            refine Exists.intro [0, 1, 2, 3, 4, 5, 6, 7, 8, 9, 10, 11, 12, 13, 14, 15, 16, 17, 18] (Exists.intro [.ref 0] (Exists.intro ((mw (nI H) (nI R) dy' (nI S) (nI L) po rh rr (nI S8) (nI S2) kd th' mc wn sd sp st tx rk rt rm2 rw2 row past (lyF pu 0 dy th mc wn) pin rows kept)) (Exists.intro 0 (Exists.intro 0 (And.intro ⟨rfl, rfl, Nat.le_of_ble_eq_true rfl, rfl, rfl, rfl, ⟨0, _, rfl, rfl⟩⟩ (And.intro (Nat.le_refl _) (And.intro (Nat.le_refl _) ?_)))))))
            refine m_puttingBack ?_
            rw [q_all rfl]
            refine br_f ((by decide)) ?_
            rw [← e] at hq
            exact fin0 (hq row (lyF pu 0 dy th mc wn))
          · rw [if_neg c4, fdG] at e
            refine Exists.intro [0, 1, 2, 3, 4, 5, 6, 7, 8, 9, 10, 11, 12, 13, 14, 15, 16, 17, 18] (Exists.intro [.ref 0] (Exists.intro ((mw (nI H) (nI R) dy' (nI S) (nI L) po rh rr (nI S8) (nI S2) kd th' mc wn sd sp st tx rk rt rm2 rw2 row past (lyF pu 0 dy th mc wn) pin rows kept)) (Exists.intro 0 (Exists.intro 0 (And.intro ⟨rfl, rfl, Nat.le_of_ble_eq_true rfl, rfl, rfl, rfl, ⟨0, _, rfl, rfl⟩⟩ (And.intro (Nat.le_refl _) (And.intro (Nat.le_refl _) ?_)))))))
            refine m_puttingBack ?_
            rw [q_all rfl]
            refine br_t ((rfl)) ?_
            rw [← e] at hq
            exact fin0 (hq row (lyF pu 0 dy th mc wn))
        | succ f ih =>
          intro i th' row dy' v4 hi e
          refine gs [26] ?_
          refine br_t ((show nI i < (40 : Int32) from nI_lt (b := 40) (by omega) (by omega))) ?_
          refine Exists.intro (b) (And.intro (rfl) (And.intro ⟨by omega, by omega⟩ ?_))
          rw [fdG] at e
          refine br_c (fun c4 => ?_) (fun c4 => ?_)
          · rw [if_pos c4] at e
            refine Exists.intro (b) (And.intro (rfl) (And.intro ⟨by omega, by omega⟩ ?_))
            refine br_t ((c4)) ?_
            refine Exists.intro [0, 1, 2, 3, 4, 5, 6, 7, 8, 9, 10, 11, 12, 13, 14, 15, 16, 17, 18] (Exists.intro [.ref 0] (Exists.intro ((mw (nI H) (nI R) dy' (nI S) (nI L) po rh rr (nI S8) (nI S2) kd th' mc wn sd sp st tx rk rt rm2 rw2 row past (lyF pu 0 dy th mc wn) pin rows kept)) (Exists.intro 0 (Exists.intro 0 (And.intro ⟨rfl, rfl, Nat.le_of_ble_eq_true rfl, rfl, rfl, rfl, ⟨0, _, rfl, rfl⟩⟩ (And.intro (Nat.le_refl _) (And.intro (Nat.le_refl _) ?_)))))))
            refine m_puttingBack ?_
            rw [q_all rfl]
            refine br_f ((by decide)) ?_
            rw [← e] at hq
            exact fin0 (hq row (lyF pu 0 dy th mc wn))
          · rw [if_neg c4] at e
            refine Exists.intro [0, 1, 2, 3, 4, 5, 6, 7, 8, 9, 10, 11, 12, 13, 14, 15, 16, 17, 18] (Exists.intro [.ref 0] (Exists.intro ((mw (nI H) (nI R) dy' (nI S) (nI L) po rh rr (nI S8) (nI S2) kd th' mc wn sd sp st tx rk rt rm2 rw2 row past (lyF pu 0 dy th mc wn) pin rows kept)) (Exists.intro 0 (Exists.intro 0 (And.intro ⟨rfl, rfl, Nat.le_of_ble_eq_true rfl, rfl, rfl, rfl, ⟨0, _, rfl, rfl⟩⟩ (And.intro (Nat.le_refl _) (And.intro (Nat.le_refl _) ?_)))))))
            refine m_passes h6 h5 h0 hm (fun r row g1 g2 => ?_)
            rw [q_all rfl]
            have h9 := ih (i + 1) (dayT kd th' M H R) row (dy' + 1) v4 (by omega) e
            rw [nI_succ i] at h9
            exact h9
      exact key 40 0 th row dy none (by omega) rfl
    · rw [p_nil]
      refine br_t ((rfl)) ?_
      exact fin0 (hF (fun z => c2 z.2))
  · rw [q_all rfl]
    refine br_t ((rfl)) ?_
    exact fin0 (hF (fun z => c z.1))
theorem y_rest (h6 : H ≤ 6) (h0 : 0 < H) (h5 : R ≤ 5) (hm : ∀ k, k < H → mc k = nI (if M.testBit k = true then 1 else 0)) (hQ : ∀ row pu, Q (some (.int (fqG kd M H R 41 0 th))) (mw (nI H) (nI R) dy (nI S) (nI L) po rh rr (nI S8) (nI S2) kd th mc wn sd sp st tx rk rt rm2 rw2 row past pu pin rows kept)) : callok (d + 3) 160 0 0 [.ref 0] (mw (nI H) (nI R) dy (nI S) (nI L) po rh rr (nI S8) (nI S2) kd th mc wn sd sp st tx rk rt rm2 rw2 row past pu pin rows kept) Q := by
  refine beg rfl (gs [6] ?_)
  refine Exists.intro [0, 1, 2, 3, 4, 5, 6, 7, 8, 9, 10, 11, 12, 13, 14, 15, 16, 17, 18] (Exists.intro [.ref 0] (Exists.intro ((mw (nI H) (nI R) dy (nI S) (nI L) po rh rr (nI S8) (nI S2) kd th mc wn sd sp st tx rk rt rm2 rw2 row past pu pin rows kept)) (Exists.intro 0 (Exists.intro 0 (And.intro ⟨rfl, rfl, Nat.le_of_ble_eq_true rfl, rfl, rfl, rfl, ⟨0, _, rfl, rfl⟩⟩ (And.intro (Nat.le_refl _) (And.intro (Nat.le_refl _) ?_)))))))
  refine m_puts ?_
  rw [q_all rfl]
  have key : ∀ (f i : Nat) (th' row : Nat → Int32) (dy' : Int32), i + f = 41 → fqG kd M H R f i th' = fqG kd M H R 41 0 th → wp (0, 0, callok (d + 2)) (mcode 160) (qE 0 0 Q) 6 [some (.ref 0), some (.int (nI i))] [] (mw (nI H) (nI R) dy' (nI S) (nI L) po rh rr (nI S8) (nI S2) kd th' mc wn sd sp st tx rk rt rm2 rw2 row past (lyF pu 0 dy th mc wn) pin rows kept) 0 0 := by
    intro f
    induction f with
    | zero =>
      intro i th' row dy' hi e
      obtain rfl : i = 41 := by omega
      refine gs [6] ?_
      refine br_t ((by decide)) ?_
      refine Exists.intro [0, 1, 2, 3, 4, 5, 6, 7, 8, 9, 10, 11, 12, 13, 14, 15, 16, 17, 18] (Exists.intro [.ref 0] (Exists.intro ((mw (nI H) (nI R) dy' (nI S) (nI L) po rh rr (nI S8) (nI S2) kd th' mc wn sd sp st tx rk rt rm2 rw2 row past (lyF pu 0 dy th mc wn) pin rows kept)) (Exists.intro 0 (Exists.intro 0 (And.intro ⟨rfl, rfl, Nat.le_of_ble_eq_true rfl, rfl, rfl, rfl, ⟨0, _, rfl, rfl⟩⟩ (And.intro (Nat.le_refl _) (And.intro (Nat.le_refl _) ?_)))))))
      refine m_puttingBack ?_
      rw [q_all rfl]
      refine br_t ((by decide)) ?_
      rw [fqG] at e
      rw [← e] at hQ
      exact fin0 (hQ row (lyF pu 0 dy th mc wn))
    | succ f ih =>
      intro i th' row dy' hi e
      refine gs [6] ?_
      refine br_f ((show ¬ (40 : Int32) < nI i from nI_nlt (a := 40) (by omega) (by omega))) ?_
      refine Exists.intro [0, 1, 2, 3, 4, 5, 6, 7, 8, 9, 10, 11, 12, 13, 14, 15, 16, 17, 18] (Exists.intro [.ref 0] (Exists.intro ((mw (nI H) (nI R) dy' (nI S) (nI L) po rh rr (nI S8) (nI S2) kd th' mc wn sd sp st tx rk rt rm2 rw2 row past (lyF pu 0 dy th mc wn) pin rows kept)) (Exists.intro 0 (Exists.intro 0 (And.intro ⟨rfl, rfl, Nat.le_of_ble_eq_true rfl, rfl, rfl, rfl, ⟨0, _, rfl, rfl⟩⟩ (And.intro (Nat.le_refl _) (And.intro (Nat.le_refl _) ?_)))))))
      refine m_passes h6 h5 h0 hm (fun r row g1 g2 => ?_)
      rw [q_all rfl]
      rw [fqG] at e
      refine br_c (fun c => ?_) (fun c => ?_)
      · rw [if_pos (g2.mp c)] at e
        refine Exists.intro [0, 1, 2, 3, 4, 5, 6, 7, 8, 9, 10, 11, 12, 13, 14, 15, 16, 17, 18] (Exists.intro [.ref 0] (Exists.intro ((mw (nI H) (nI R) (dy' + 1) (nI S) (nI L) po rh rr (nI S8) (nI S2) kd (dayT kd th' M H R) mc wn sd sp st tx rk rt rm2 rw2 row past (lyF pu 0 dy th mc wn) pin rows kept)) (Exists.intro 0 (Exists.intro 0 (And.intro ⟨rfl, rfl, Nat.le_of_ble_eq_true rfl, rfl, rfl, rfl, ⟨0, _, rfl, rfl⟩⟩ (And.intro (Nat.le_refl _) (And.intro (Nat.le_refl _) ?_)))))))
        refine m_puttingBack ?_
        rw [q_all rfl]
        refine br_f ((show ¬ (40 : Int32) < nI i from nI_nlt (a := 40) (by omega) (by omega))) ?_
        rw [← e] at hQ
        exact fin0 (hQ row (lyF pu 0 dy th mc wn))
      · rw [if_neg (fun z => c (g2.mpr z))] at e
        have h9 := ih (i + 1) (dayT kd th' M H R) row (dy' + 1) (by omega) e
        rw [nI_succ i] at h9
        exact h9
  exact key 41 0 th row dy (by omega) rfl
theorem y_count (h6 : H ≤ 6) (h0 : 0 < H) (h5 : R ≤ 5) (hm : ∀ k, k < H → mc k = nI (if M.testBit k = true then 1 else 0)) (hw : ∀ k, k < R → ((¬ wn k = -4 ∧ th k = wn k) ↔ wi k = th k)) (hF : ¬ (¬ x < 0 ∧ ¬ 9 < x) → Q (some (.int (-1))) (mw (nI H) (nI R) dy (nI S) (nI L) po rh rr (nI S8) (nI S2) kd th mc wn sd sp st tx rk rt rm2 rw2 row past pu pin rows kept)) (g0 : x = 0 → Q (some (.int (nI H))) (mw (nI H) (nI R) dy (nI S) (nI L) po rh rr (nI S8) (nI S2) kd th mc wn sd sp st tx rk rt rm2 rw2 row past pu pin rows kept)) (g1 : x = 1 → Q (some (.int (nI R))) (mw (nI H) (nI R) dy (nI S) (nI L) po rh rr (nI S8) (nI S2) kd th mc wn sd sp st tx rk rt rm2 rw2 row past pu pin rows kept)) (g2 : x = 2 → Q (some (.int (dy))) (mw (nI H) (nI R) dy (nI S) (nI L) po rh rr (nI S8) (nI S2) kd th mc wn sd sp st tx rk rt rm2 rw2 row past pu pin rows kept)) (g3 : x = 3 → Q (some (.int (nI (maN M H)))) (mw (nI H) (nI R) dy (nI S) (nI L) po rh rr (nI S8) (nI S2) kd th mc wn sd sp st tx rk rt rm2 rw2 row past pu pin rows kept)) (g4 : x = 4 → Q (some (.int (nI (pop 10 (waN wn R))))) (mw (nI H) (nI R) dy (nI S) (nI L) po rh rr (nI S8) (nI S2) kd th mc wn sd sp st tx rk rt rm2 rw2 row past pu pin rows kept)) (g5 : x = 5 → Q (some (.int (nI (pop 10 (metN wi th R))))) (mw (nI H) (nI R) dy (nI S) (nI L) po rh rr (nI S8) (nI S2) kd th mc wn sd sp st tx rk rt rm2 rw2 row past pu pin rows kept)) (g6 : x = 6 → Q (some (.int (nI S))) (mw (nI H) (nI R) dy (nI S) (nI L) po rh rr (nI S8) (nI S2) kd th mc wn sd sp st tx rk rt rm2 rw2 row past pu pin rows kept)) (g7 : x = 7 → Q (some (.int (nI S8))) (mw (nI H) (nI R) dy (nI S) (nI L) po rh rr (nI S8) (nI S2) kd th mc wn sd sp st tx rk rt rm2 rw2 row past pu pin rows kept)) (g8 : x = 8 → Q (some (.int (nI S2))) (mw (nI H) (nI R) dy (nI S) (nI L) po rh rr (nI S8) (nI S2) kd th mc wn sd sp st tx rk rt rm2 rw2 row past pu pin rows kept)) (g9 : x = 9 → Q (some (.int (nI L))) (mw (nI H) (nI R) dy (nI S) (nI L) po rh rr (nI S8) (nI S2) kd th mc wn sd sp st tx rk rt rm2 rw2 row past pu pin rows kept)) : callok (d + 2) 180 0 0 [.ref 0, .int x] (mw (nI H) (nI R) dy (nI S) (nI L) po rh rr (nI S8) (nI S2) kd th mc wn sd sp st tx rk rt rm2 rw2 row past pu pin rows kept) Q := by
  refine beg rfl (gs [] ?_)
  refine Exists.intro [] (Exists.intro [.int x, .int 0, .int 9] (Exists.intro ([]) (Exists.intro 0 (Exists.intro 0 (And.intro ⟨rfl, rfl, Nat.le_of_ble_eq_true rfl, rfl, rfl, rfl, trivial⟩ (And.intro (Nat.le_refl _) (And.intro (Nat.le_refl _) ?_)))))))
  refine m_in (fun c c2 => ?_) (fun c => ?_)
  · rw [p_nil]
    refine br_f ((by decide)) ?_
    refine And.intro (fun k1 => ?_) (fun j a hj hx => ?_)
    · obtain ⟨j, hj, rfl⟩ := nI_of2 (M := 9) (n := 9) rfl c (Int32.not_lt.mp c2)
      have e9 : j = 9 := by
        rw [nI_toInt (by omega)] at k1
        omega
      subst e9
      exact fin0 (g9 rfl)
    · match j, hj, hx with
      | 0, hj, hx =>
        obtain rfl : 64 = a := Option.some.inj hj
        have ex : x = 0 := Int32.toInt_inj.mp (by rw [hx]; decide)
        exact fin0 (g0 ex)
      | 1, hj, hx =>
        obtain rfl : 69 = a := Option.some.inj hj
        have ex : x = 1 := Int32.toInt_inj.mp (by rw [hx]; decide)
        exact fin0 (g1 ex)
      | 2, hj, hx =>
        obtain rfl : 74 = a := Option.some.inj hj
        have ex : x = 2 := Int32.toInt_inj.mp (by rw [hx]; decide)
        exact fin0 (g2 ex)
      | 3, hj, hx =>
        obtain rfl : 79 = a := Option.some.inj hj
        have ex : x = 3 := Int32.toInt_inj.mp (by rw [hx]; decide)
        refine Exists.intro [0, 1, 2, 3, 4, 5, 6, 7, 8, 9, 10, 11, 12, 13, 14, 15, 16, 17, 18] (Exists.intro [.ref 0] (Exists.intro ((mw (nI H) (nI R) dy (nI S) (nI L) po rh rr (nI S8) (nI S2) kd th mc wn sd sp st tx rk rt rm2 rw2 row past pu pin rows kept)) (Exists.intro 0 (Exists.intro 0 (And.intro ⟨rfl, rfl, Nat.le_of_ble_eq_true rfl, rfl, rfl, rfl, ⟨0, _, rfl, rfl⟩⟩ (And.intro (Nat.le_refl _) (And.intro (Nat.le_refl _) ?_)))))))
        refine m_mouseMany h6 hm ?_
        rw [q_all rfl]
        exact fin0 (g3 ex)
      | 4, hj, hx =>
        obtain rfl : 84 = a := Option.some.inj hj
        have ex : x = 4 := Int32.toInt_inj.mp (by rw [hx]; decide)
        refine Exists.intro [0, 1, 2, 3, 4, 5, 6, 7, 8, 9, 10, 11, 12, 13, 14, 15, 16, 17, 18] (Exists.intro [.ref 0] (Exists.intro ((mw (nI H) (nI R) dy (nI S) (nI L) po rh rr (nI S8) (nI S2) kd th mc wn sd sp st tx rk rt rm2 rw2 row past pu pin rows kept)) (Exists.intro 0 (Exists.intro 0 (And.intro ⟨rfl, rfl, Nat.le_of_ble_eq_true rfl, rfl, rfl, rfl, ⟨0, _, rfl, rfl⟩⟩ (And.intro (Nat.le_refl _) (And.intro (Nat.le_refl _) ?_)))))))
        refine m_wantedAll h5 ?_
        rw [q_all rfl]
        refine Exists.intro [] (Exists.intro [.int (nI (waN wn R))] (Exists.intro ([]) (Exists.intro 0 (Exists.intro 0 (And.intro ⟨rfl, rfl, Nat.le_of_ble_eq_true rfl, rfl, rfl, rfl, trivial⟩ (And.intro (Nat.le_refl _) (And.intro (Nat.le_refl _) ?_)))))))
        refine m_bits rfl (Nat.lt_of_lt_of_le (waN_lt R) (Nat.le_trans (Nat.pow_le_pow_right (by omega) h5) (by decide))) ?_
        rw [p_nil]
        exact fin0 (g4 ex)
      | 5, hj, hx =>
        obtain rfl : 92 = a := Option.some.inj hj
        have ex : x = 5 := Int32.toInt_inj.mp (by rw [hx]; decide)
        refine Exists.intro [0, 1, 2, 3, 4, 5, 6, 7, 8, 9, 10, 11, 12, 13, 14, 15, 16, 17, 18] (Exists.intro [.ref 0] (Exists.intro ((mw (nI H) (nI R) dy (nI S) (nI L) po rh rr (nI S8) (nI S2) kd th mc wn sd sp st tx rk rt rm2 rw2 row past pu pin rows kept)) (Exists.intro 0 (Exists.intro 0 (And.intro ⟨rfl, rfl, Nat.le_of_ble_eq_true rfl, rfl, rfl, rfl, ⟨0, _, rfl, rfl⟩⟩ (And.intro (Nat.le_refl _) (And.intro (Nat.le_refl _) ?_)))))))
        refine m_metNow h5 hw ?_
        rw [q_all rfl]
        refine Exists.intro [] (Exists.intro [.int (nI (metN wi th R))] (Exists.intro ([]) (Exists.intro 0 (Exists.intro 0 (And.intro ⟨rfl, rfl, Nat.le_of_ble_eq_true rfl, rfl, rfl, rfl, trivial⟩ (And.intro (Nat.le_refl _) (And.intro (Nat.le_refl _) ?_)))))))
        refine m_bits rfl (Nat.lt_of_lt_of_le (metN_lt R) (Nat.le_trans (Nat.pow_le_pow_right (by omega) h5) (by decide))) ?_
        rw [p_nil]
        exact fin0 (g5 ex)
      | 6, hj, hx =>
        obtain rfl : 100 = a := Option.some.inj hj
        have ex : x = 6 := Int32.toInt_inj.mp (by rw [hx]; decide)
        exact fin0 (g6 ex)
      | 7, hj, hx =>
        obtain rfl : 105 = a := Option.some.inj hj
        have ex : x = 7 := Int32.toInt_inj.mp (by rw [hx]; decide)
        exact fin0 (g7 ex)
      | 8, hj, hx =>
        obtain rfl : 110 = a := Option.some.inj hj
        have ex : x = 8 := Int32.toInt_inj.mp (by rw [hx]; decide)
        exact fin0 (g8 ex)
      | j + 9, hj, hx => exact absurd hj (by simp)
  · rw [p_nil]
    refine br_t ((rfl)) ?_
    exact fin0 (hF c)
end MH
