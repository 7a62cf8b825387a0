/-! THE REFERENCE: centuries -/
theorem dr_eq {Z k : Nat} (hZ : Z ≤ 9999) (hD : k < 60) : (((((7919 : Int64) * (nI Z).toInt64 + 6151 * (nI k).toInt64 + 1) * ((7919 : Int64) * (nI Z).toInt64 + 6151 * (nI k).toInt64 + 1) - ((7919 : Int64) * (nI Z).toInt64 + 6151 * (nI k).toInt64 + 1) * ((7919 : Int64) * (nI Z).toInt64 + 6151 * (nI k).toInt64 + 1) / 65521 * 65521) / 2).toInt32) = nI (drN Z k) := by
  have hX : drX Z k < 100000000 := by unfold drX; omega
  have hXX : drX Z k * drX Z k < 2 ^ 63 := by
    have := Nat.mul_le_mul (Nat.le_of_lt hX) (Nat.le_of_lt hX)
    omega
  have e1 : ((7919 : Int64) * (nI Z).toInt64 + 6151 * (nI k).toInt64 + 1) = lN (drX Z k) := by
    rw [nI_l (by omega), nI_l (by omega), show (7919 : Int64) = lN 7919 from rfl, show (6151 : Int64) = lN 6151 from rfl, show (1 : Int64) = lN 1 from rfl, lN_mul, lN_mul, lN_add, lN_add]
    rfl
  have e2 : lN (drX Z k) * lN (drX Z k) - lN (drX Z k) * lN (drX Z k) / 65521 * 65521 = lN (drX Z k * drX Z k % 65521) := by
    rw [lN_mul, show (65521 : Int64) = lN 65521 from rfl, pk_lRem hXX (by omega) (by omega)]
  have e3 : lN (drX Z k * drX Z k % 65521) / 2 = lN (drN Z k) := by
    rw [show (2 : Int64) = lN 2 from rfl, pk_lDiv (by omega) (by omega) (by omega)]
    rfl
  rw [e1, e2, e3, lN_i]
section MP
variable {d : Nat} {hs rm dy sn ln po rh rr pn kn : Int32} {kd th mc wn sd sp st tx rk rt rm2 rw2 row past pu pin rows kept : Nat → Int32} {wi : Nat → Int32} {H R M a b n m k r Z L S S2 S8 : Nat} {x y v w u : Int32} {Q : Option Value → List aC → Prop}
theorem m_cyDay (h6 : H ≤ 6) (h0 : 0 < H) (h5 : R ≤ 5) (h1 : 0 < R) (hM : M < 64) (hZ : Z ≤ 9999) (hk : k < n) (hn : n ≤ 60) {mcc : Nat → Int32} {dyc : Int32} {v5 v6 v7 v8 v9 : Option Value} (hm : ∀ j, j < H → mcc j = nI (if (cyS kd H R Z (th, M) k).2.testBit j = true then 1 else 0))
    (ih : ∀ (mcc row : Nat → Int32) (dyc : Int32) (v5 v6 v7 v8 v9 : Option Value), (∀ j, j < H → mcc j = nI (if (acS H R (drN Z k) (cyS kd H R Z (th, M) k)).2.testBit j = true then 1 else 0)) → wp (0, 0, callok (d + 2)) (mcode 177) (qE 0 0 Q) 39 [some (.ref 0), some (.int (nI Z)), some (.int (nI n)), some (.int v), some (.int (nI (k + 1))), v5, v6, v7, v8, v9] [] (mw (nI H) (nI R) dyc (nI S) (nI L) po rh rr (nI S8) (nI S2) kd (dayT kd (acS H R (drN Z k) (cyS kd H R Z (th, M) k)).1 (acS H R (drN Z k) (cyS kd H R Z (th, M) k)).2 H R) mcc wn sd sp st tx rk rt rm2 rw2 row past (lyF pu 0 dy th mc wn) pin rows kept) 0 0) : wp (0, 0, callok (d + 2)) (mcode 177) (qE 0 0 Q) 39 [some (.ref 0), some (.int (nI Z)), some (.int (nI n)), some (.int v), some (.int (nI k)), v5, v6, v7, v8, v9] [] (mw (nI H) (nI R) dyc (nI S) (nI L) po rh rr (nI S8) (nI S2) kd (cyS kd H R Z (th, M) k).1 mcc wn sd sp st tx rk rt rm2 rw2 row past (lyF pu 0 dy th mc wn) pin rows kept) 0 0 := by
  have h64 := cyS_64 (kd := kd) (R := R) (Z := Z) (s := (th, M)) h0 h6 hM k
  have hdr := drN_lt Z k
  have fin : ∀ (mcc row : Nat → Int32) (dyc : Int32) (v5 v6 v7 v8 v9 : Option Value), (∀ j, j < H → mcc j = nI (if (acS H R (drN Z k) (cyS kd H R Z (th, M) k)).2.testBit j = true then 1 else 0)) → wp (0, 0, callok (d + 2)) (mcode 177) (qE 0 0 Q) 172 [some (.ref 0), some (.int (nI Z)), some (.int (nI n)), some (.int v), some (.int (nI k)), v5, v6, v7, v8, v9] [] (mw (nI H) (nI R) dyc (nI S) (nI L) po rh rr (nI S8) (nI S2) kd (acS H R (drN Z k) (cyS kd H R Z (th, M) k)).1 mcc wn sd sp st tx rk rt rm2 rw2 row past (lyF pu 0 dy th mc wn) pin rows kept) 0 0 := by
    intro mcc row dyc v5 v6 v7 v8 v9 hm
    refine gs [39] ?_
    refine Exists.intro [0, 1, 2, 3, 4, 5, 6, 7, 8, 9, 10, 11, 12, 13, 14, 15, 16, 17, 18] (Exists.intro [.ref 0] (Exists.intro ((mw (nI H) (nI R) dyc (nI S) (nI L) po rh rr (nI S8) (nI S2) kd (acS H R (drN Z k) (cyS kd H R Z (th, M) k)).1 mcc wn sd sp st tx rk rt rm2 rw2 row past (lyF pu 0 dy th mc wn) pin rows kept)) (Exists.intro 0 (Exists.intro 0 (And.intro ⟨rfl, rfl, Nat.le_of_ble_eq_true rfl, rfl, rfl, rfl, ⟨0, _, rfl, rfl⟩⟩ (And.intro (Nat.le_refl _) (And.intro (Nat.le_refl _) ?_)))))))
    refine m_passes (M := (acS H R (drN Z k) (cyS kd H R Z (th, M) k)).2) h6 h5 h0 hm (fun r2 row g1 g2 => ?_)
    rw [q_all rfl]
    have h9 := ih mcc row (dyc + 1) v5 v6 v7 v8 v9 hm
    rw [nI_succ k] at h9
    exact h9
  refine gs [79] ?_
  refine br_t ((show nI k < nI n by exact nI_lt hk (by omega))) ?_
  refine And.intro (by decide) ?_
  refine And.intro (by decide) ?_
  show wp (0, 0, callok (d + 2)) (mcode 177) (qE 0 0 Q) 79 [some (.ref 0), some (.int (nI Z)), some (.int (nI n)), some (.int v), some (.int (nI k)), some (.long ((7919 : Int64) * (nI Z).toInt64 + 6151 * (nI k).toInt64 + 1)), none, some (.int (((((7919 : Int64) * (nI Z).toInt64 + 6151 * (nI k).toInt64 + 1) * ((7919 : Int64) * (nI Z).toInt64 + 6151 * (nI k).toInt64 + 1) - ((7919 : Int64) * (nI Z).toInt64 + 6151 * (nI k).toInt64 + 1) * ((7919 : Int64) * (nI Z).toInt64 + 6151 * (nI k).toInt64 + 1) / 65521 * 65521) / 2).toInt32)), v8, v9] [] (mw (nI H) (nI R) dyc (nI S) (nI L) po rh rr (nI S8) (nI S2) kd (cyS kd H R Z (th, M) k).1 mcc wn sd sp st tx rk rt rm2 rw2 row past (lyF pu 0 dy th mc wn) pin rows kept) 0 0
  rw [dr_eq hZ (by omega)]
  have e8 : (nI (drN Z k) - nI (drN Z k) / nI H * nI H) = nI ((drN Z k) % H) := by rw [pk_rem (by omega) (by omega) (by omega)]
  have hh : (drN Z k) % H < H := Nat.mod_lt _ h0
  have hr : (drN Z k) / 8 % R < R := Nat.mod_lt _ h1
  have e9 : (nI (drN Z k) / 64 - nI (drN Z k) / 64 / 6 * 6) = nI ((drN Z k) / 64 % 6) := by rw [show (64 : Int32) = nI 64 from rfl, pk_div (by omega) (by omega) (by omega), show (6 : Int32) = nI 6 from rfl, pk_rem (by omega) (by omega) (by omega)]
  have er : (nI (drN Z k) / 8 - nI (drN Z k) / 8 / nI R * nI R) = nI ((drN Z k) / 8 % R) := by rw [show (8 : Int32) = nI 8 from rfl, pk_div (by omega) (by omega) (by omega), pk_rem (by omega) (by omega) (by omega)]
  have e5 : (nI (drN Z k) / 512 - nI (drN Z k) / 512 / 10 * 10) = nI ((drN Z k) / 512 % 10) := by rw [show (512 : Int32) = nI 512 from rfl, pk_div (by omega) (by omega) (by omega), show (10 : Int32) = nI 10 from rfl, pk_rem (by omega) (by omega) (by omega)]
  have eJ : 5 * (nI (drN Z k) - nI (drN Z k) / nI H * nI H) + (nI (drN Z k) / 8 - nI (drN Z k) / 8 / nI R * nI R) = nI (5 * ((drN Z k) % H) + (drN Z k) / 8 % R) := by rw [e8, er, j5]
  refine gs [172] ?_
  refine And.intro (nI_ne0 h0 (by omega)) ?_
  refine And.intro (by decide) ?_
  refine And.intro (by decide) ?_
  refine br_c (fun c => ?_) (fun c => ?_)
  · have c' : (nI (drN Z k) / 64 - nI (drN Z k) / 64 / 6 * 6) = 0 := c
    rw [e9] at c'
    have c2 := (nI_eq (b := 0) (by omega) (by omega)).mp c'
    refine And.intro (by decide) ?_
    refine And.intro (nI_ne0 h1 (by omega)) ?_
    refine And.intro (by decide) ?_
    refine And.intro (by decide) ?_
    refine Exists.intro (5 * ((drN Z k) % H) + (drN Z k) / 8 % R) (And.intro (eJ) (And.intro ⟨by omega, by omega⟩ ?_))
    show wp (0, 0, callok (d + 2)) (mcode 177) (qE 0 0 Q) 172 [some (.ref 0), some (.int (nI Z)), some (.int (nI n)), some (.int v), some (.int (nI k)), some (.long ((7919 : Int64) * (nI Z).toInt64 + 6151 * (nI k).toInt64 + 1)), none, some (.int (nI (drN Z k))), some (.int (nI (drN Z k) - nI (drN Z k) / nI H * nI H)), some (.int (nI (drN Z k) / 64 - nI (drN Z k) / 64 / 6 * 6))] [] (mw (nI H) (nI R) dyc (nI S) (nI L) po rh rr (nI S8) (nI S2) kd (upd (cyS kd H R Z (th, M) k).1 (5 * ((drN Z k) % H) + (drN Z k) / 8 % R) (nI (drN Z k) / 512 - nI (drN Z k) / 512 / 10 * 10)) mcc wn sd sp st tx rk rt rm2 rw2 row past (lyF pu 0 dy th mc wn) pin rows kept) 0 0
    have ea : (acS H R (drN Z k) (cyS kd H R Z (th, M) k)) = (upd (cyS kd H R Z (th, M) k).1 (5 * ((drN Z k) % H) + (drN Z k) / 8 % R) (nI ((drN Z k) / 512 % 10)), (cyS kd H R Z (th, M) k).2) := by
      unfold acS
      rw [if_pos c2]
    rw [e5]
    rw [ea] at fin
    exact fin mcc row dyc _ _ _ _ _ hm
  · have c' : ¬ (nI (drN Z k) / 64 - nI (drN Z k) / 64 / 6 * 6) = 0 := c
    rw [e9] at c'
    have c2 : ¬ (drN Z k) / 64 % 6 = 0 := fun z => c' (by rw [z]; rfl)
    refine br_c (fun q => ?_) (fun q => ?_)
    · have q' : (nI (drN Z k) / 64 - nI (drN Z k) / 64 / 6 * 6) = 1 := q
      rw [e9] at q'
      have q2 := (nI_eq (b := 1) (by omega) (by omega)).mp q'
      have ea : (acS H R (drN Z k) (cyS kd H R Z (th, M) k)) = (shT (cyS kd H R Z (th, M) k).1 R ((drN Z k) % H), (cyS kd H R Z (th, M) k).2) := by
        unfold acS
        rw [if_neg c2, if_pos q2]
      refine Exists.intro [0, 1, 2, 3, 4, 5, 6, 7, 8, 9, 10, 11, 12, 13, 14, 15, 16, 17, 18] (Exists.intro [.ref 0, .int (nI (drN Z k) - nI (drN Z k) / nI H * nI H)] (Exists.intro ((mw (nI H) (nI R) dyc (nI S) (nI L) po rh rr (nI S8) (nI S2) kd (cyS kd H R Z (th, M) k).1 mcc wn sd sp st tx rk rt rm2 rw2 row past (lyF pu 0 dy th mc wn) pin rows kept)) (Exists.intro 0 (Exists.intro 0 (And.intro ⟨rfl, rfl, Nat.le_of_ble_eq_true rfl, rfl, rfl, rfl, ⟨0, _, rfl, rfl⟩⟩ (And.intro (Nat.le_refl _) (And.intro (Nat.le_refl _) ?_)))))))
      refine m_sneezes (a := (drN Z k) % H) h1 h5 (by omega) e8 ?_
      rw [q_all rfl]
      rw [ea] at fin
      exact fin mcc row dyc _ _ _ _ _ hm
    · have q' : ¬ (nI (drN Z k) / 64 - nI (drN Z k) / 64 / 6 * 6) = 1 := q
      rw [e9] at q'
      have q2 : ¬ (drN Z k) / 64 % 6 = 1 := fun z => q' (by rw [z]; rfl)
      refine br_c (fun t => ?_) (fun t => ?_)
      · have t' : (nI (drN Z k) / 64 - nI (drN Z k) / 64 / 6 * 6) = 2 := t
        rw [e9] at t'
        have t2 := (nI_eq (b := 2) (by omega) (by omega)).mp t'
        have ea : (acS H R (drN Z k) (cyS kd H R Z (th, M) k)) = ((cyS kd H R Z (th, M) k).1, (cyS kd H R Z (th, M) k).2 ^^^ 2 ^ ((drN Z k) % H)) := by
          unfold acS
          rw [if_neg c2, if_neg q2, if_pos t2]
        refine Exists.intro ((drN Z k) % H) (And.intro (e8) (And.intro ⟨by omega, by omega⟩ ?_))
        refine Exists.intro ((drN Z k) % H) (And.intro (e8) (And.intro ⟨by omega, by omega⟩ ?_))
        rw [ea] at fin
        exact fin (upd mcc ((drN Z k) % H) (1 - mcc ((drN Z k) % H))) row dyc _ _ _ _ _ (xor_bit hm (by
          rw [hm _ hh]
          split <;> rfl))
      · have t' : ¬ (nI (drN Z k) / 64 - nI (drN Z k) / 64 / 6 * 6) = 2 := t
        rw [e9] at t'
        have t2 : ¬ (drN Z k) / 64 % 6 = 2 := fun z => t' (by rw [z]; rfl)
        have ea : (acS H R (drN Z k) (cyS kd H R Z (th, M) k)) = (cyS kd H R Z (th, M) k) := by
          unfold acS
          rw [if_neg c2, if_neg q2, if_neg t2]
        rw [ea] at fin
        exact fin mcc row dyc _ _ _ _ _ hm
theorem y_century (h6 : H ≤ 6) (h0 : 0 < H) (h5 : R ≤ 5) (h1 : 0 < R) (hM : M < 64) (hm : ∀ k, k < H → mc k = nI (if M.testBit k = true then 1 else 0)) (hw : ∀ Z n k, k < R → ((¬ wn k = -4 ∧ (cyS kd H R Z (th, M) n).1 k = wn k) ↔ wi k = (cyS kd H R Z (th, M) n).1 k)) (hT : ∀ Z n, Z ≤ 9999 → 1 ≤ n → n ≤ 60 → x = nI Z → y = nI n → (¬ v < 0 ∧ ¬ 2 < v) → ∀ row pu, Q (some (.int (if v = 0 then nI (pop 10 (metN wi (cyS kd H R Z (th, M) n).1 R)) else if v = 1 then (cyS kd H R Z (th, M) n).1 0 else nI (maN (cyS kd H R Z (th, M) n).2 H)))) (mw (nI H) (nI R) dy (nI S) (nI L) po rh rr (nI S8) (nI S2) kd th mc wn sd sp st tx rk rt rm2 rw2 row past pu pin rows kept)) (hF : ¬ ((¬ x < 0 ∧ ¬ 9999 < x) ∧ (¬ y < 1 ∧ ¬ 60 < y) ∧ ¬ v < 0 ∧ ¬ 2 < v) → Q (some (.int (-1))) (mw (nI H) (nI R) dy (nI S) (nI L) po rh rr (nI S8) (nI S2) kd th mc wn sd sp st tx rk rt rm2 rw2 row past pu pin rows kept)) : callok (d + 3) 177 0 0 [.ref 0, .int x, .int y, .int v] (mw (nI H) (nI R) dy (nI S) (nI L) po rh rr (nI S8) (nI S2) kd th mc wn sd sp st tx rk rt rm2 rw2 row past pu pin rows kept) Q := by
  refine beg rfl (gs [39] ?_)
  refine Exists.intro [] (Exists.intro [.int x, .int 0, .int 9999] (Exists.intro ([]) (Exists.intro 0 (Exists.intro 0 (And.intro ⟨rfl, rfl, Nat.le_of_ble_eq_true rfl, rfl, rfl, rfl, trivial⟩ (And.intro (Nat.le_refl _) (And.intro (Nat.le_refl _) ?_)))))))
  refine m_in (fun c c2 => ?_) (fun c => ?_)
  · rw [p_nil]
    refine br_f ((by decide)) ?_
    refine Exists.intro [] (Exists.intro [.int y, .int 1, .int 60] (Exists.intro ([]) (Exists.intro 0 (Exists.intro 0 (And.intro ⟨rfl, rfl, Nat.le_of_ble_eq_true rfl, rfl, rfl, rfl, trivial⟩ (And.intro (Nat.le_refl _) (And.intro (Nat.le_refl _) ?_)))))))
    refine m_in (fun c3 c4 => ?_) (fun c3 => ?_)
    · rw [p_nil]
      refine br_f ((by decide)) ?_
      refine Exists.intro [] (Exists.intro [.int v, .int 0, .int 2] (Exists.intro ([]) (Exists.intro 0 (Exists.intro 0 (And.intro ⟨rfl, rfl, Nat.le_of_ble_eq_true rfl, rfl, rfl, rfl, trivial⟩ (And.intro (Nat.le_refl _) (And.intro (Nat.le_refl _) ?_)))))))
      refine m_in (fun c5 c6 => ?_) (fun c5 => ?_)
      · rw [p_nil]
        refine br_f ((by decide)) ?_
        obtain ⟨Z, hZ, rfl⟩ := nI_of2 (M := 9999) (n := 9999) rfl c (Int32.not_lt.mp c2)
        obtain ⟨n, hn1, hn, rfl⟩ := in1 (n := 60) (by decide) c3 c4
        have hq := hT Z n hZ hn1 hn rfl rfl ⟨c5, c6⟩
        refine Exists.intro [0, 1, 2, 3, 4, 5, 6, 7, 8, 9, 10, 11, 12, 13, 14, 15, 16, 17, 18] (Exists.intro [.ref 0] (Exists.intro ((mw (nI H) (nI R) dy (nI S) (nI L) po rh rr (nI S8) (nI S2) kd th mc wn sd sp st tx rk rt rm2 rw2 row past pu pin rows kept)) (Exists.intro 0 (Exists.intro 0 (And.intro ⟨rfl, rfl, Nat.le_of_ble_eq_true rfl, rfl, rfl, rfl, ⟨0, _, rfl, rfl⟩⟩ (And.intro (Nat.le_refl _) (And.intro (Nat.le_refl _) ?_)))))))
        refine m_puts ?_
        rw [q_all rfl]
        have key := up (W := fun k => ∀ (mcc row : Nat → Int32) (dyc : Int32) (v5 v6 v7 v8 v9 : Option Value), (∀ j, j < H → mcc j = nI (if (cyS kd H R Z (th, M) k).2.testBit j = true then 1 else 0)) → wp (0, 0, callok (d + 2)) (mcode 177) (qE 0 0 Q) 39 [some (.ref 0), some (.int (nI Z)), some (.int (nI n)), some (.int v), some (.int (nI k)), v5, v6, v7, v8, v9] [] (mw (nI H) (nI R) dyc (nI S) (nI L) po rh rr (nI S8) (nI S2) kd (cyS kd H R Z (th, M) k).1 mcc wn sd sp st tx rk rt rm2 rw2 row past (lyF pu 0 dy th mc wn) pin rows kept) 0 0) n ?_ ?_
        · exact key mc row dy none none none none none hm
        · intro mcc row dyc v5 v6 v7 v8 v9 hm
          have en : ∀ A : Int32, Q (some (.int A)) (mw (nI H) (nI R) dy (nI S) (nI L) po rh rr (nI S8) (nI S2) kd th mc wn sd sp st tx rk rt rm2 rw2 row past (lyF pu 0 dy th mc wn) pin rows kept) → wp (0, 0, callok (d + 2)) (mcode 177) (qE 0 0 Q) 215 [some (.ref 0), some (.int (nI Z)), some (.int (nI n)), some (.int v), some (.int (nI n)), v5, v6, v7, v8, v9] [.int A] (mw (nI H) (nI R) dyc (nI S) (nI L) po rh rr (nI S8) (nI S2) kd (cyS kd H R Z (th, M) n).1 mcc wn sd sp st tx rk rt rm2 rw2 row past (lyF pu 0 dy th mc wn) pin rows kept) 0 0 := by
            intro A hA
            refine gs [] ?_
            refine Exists.intro [0, 1, 2, 3, 4, 5, 6, 7, 8, 9, 10, 11, 12, 13, 14, 15, 16, 17, 18] (Exists.intro [.ref 0] (Exists.intro ((mw (nI H) (nI R) dyc (nI S) (nI L) po rh rr (nI S8) (nI S2) kd (cyS kd H R Z (th, M) n).1 mcc wn sd sp st tx rk rt rm2 rw2 row past (lyF pu 0 dy th mc wn) pin rows kept)) (Exists.intro 0 (Exists.intro 0 (And.intro ⟨rfl, rfl, Nat.le_of_ble_eq_true rfl, rfl, rfl, rfl, ⟨0, _, rfl, rfl⟩⟩ (And.intro (Nat.le_refl _) (And.intro (Nat.le_refl _) ?_)))))))
            refine m_puttingBack ?_
            rw [q_all rfl]
            exact fin0 (hA)
          refine gs [215] ?_
          refine br_f ((show ¬ nI n < nI n by exact nI_nlt (by omega) (by omega))) ?_
          have hq := hq row (lyF pu 0 dy th mc wn)
          refine br_c (fun k1 => ?_) (fun k1 => ?_)
          · rw [if_pos k1] at hq
            refine Exists.intro [0, 1, 2, 3, 4, 5, 6, 7, 8, 9, 10, 11, 12, 13, 14, 15, 16, 17, 18] (Exists.intro [.ref 0] (Exists.intro ((mw (nI H) (nI R) dyc (nI S) (nI L) po rh rr (nI S8) (nI S2) kd (cyS kd H R Z (th, M) n).1 mcc wn sd sp st tx rk rt rm2 rw2 row past (lyF pu 0 dy th mc wn) pin rows kept)) (Exists.intro 0 (Exists.intro 0 (And.intro ⟨rfl, rfl, Nat.le_of_ble_eq_true rfl, rfl, rfl, rfl, ⟨0, _, rfl, rfl⟩⟩ (And.intro (Nat.le_refl _) (And.intro (Nat.le_refl _) ?_)))))))
            refine m_metNow (wi := wi) h5 (hw Z n) ?_
            rw [q_all rfl]
            refine Exists.intro [] (Exists.intro [.int (nI (metN wi (cyS kd H R Z (th, M) n).1 R))] (Exists.intro ([]) (Exists.intro 0 (Exists.intro 0 (And.intro ⟨rfl, rfl, Nat.le_of_ble_eq_true rfl, rfl, rfl, rfl, trivial⟩ (And.intro (Nat.le_refl _) (And.intro (Nat.le_refl _) ?_)))))))
            refine m_bits rfl (Nat.lt_of_lt_of_le (metN_32 h5) (by decide)) ?_
            rw [p_nil]
            exact en _ hq
          · rw [if_neg k1] at hq
            refine br_c (fun k2 => ?_) (fun k2 => ?_)
            · rw [if_pos k2] at hq
              refine Exists.intro (0) (And.intro (rfl) (And.intro ⟨by omega, by omega⟩ ?_))
              exact en _ hq
            · rw [if_neg k2] at hq
              refine Exists.intro [0, 1, 2, 3, 4, 5, 6, 7, 8, 9, 10, 11, 12, 13, 14, 15, 16, 17, 18] (Exists.intro [.ref 0] (Exists.intro ((mw (nI H) (nI R) dyc (nI S) (nI L) po rh rr (nI S8) (nI S2) kd (cyS kd H R Z (th, M) n).1 mcc wn sd sp st tx rk rt rm2 rw2 row past (lyF pu 0 dy th mc wn) pin rows kept)) (Exists.intro 0 (Exists.intro 0 (And.intro ⟨rfl, rfl, Nat.le_of_ble_eq_true rfl, rfl, rfl, rfl, ⟨0, _, rfl, rfl⟩⟩ (And.intro (Nat.le_refl _) (And.intro (Nat.le_refl _) ?_)))))))
              refine m_mouseMany (M := (cyS kd H R Z (th, M) n).2) h6 hm ?_
              rw [q_all rfl]
              exact en _ hq
        · intro k hk ih mcc row dyc v5 v6 v7 v8 v9 hm
          exact m_cyDay h6 h0 h5 h1 hM hZ hk hn hm ih
      · rw [p_nil]
        refine br_t ((rfl)) ?_
        exact fin0 (hF (fun z => c5 z.2.2))
    · rw [p_nil]
      refine br_t ((rfl)) ?_
      exact fin0 (hF (fun z => c3 z.2.1))
  · rw [p_nil]
    refine br_t ((rfl)) ?_
    exact fin0 (hF (fun z => c z.1))
end MP
