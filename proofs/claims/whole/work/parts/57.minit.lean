/-! THE REFERENCE: its constructor -/
section MU
variable {d : Nat} {hs rm dy sn ln po rh rr pn kn : Int32} {kd th mc wn sd sp st tx rk rt rm2 rw2 row past pu pin rows kept : Nat → Int32} {h n : Nat} {x y v w u : Int32} {Q : Option Value → List aC → Prop}
theorem m_first (hh : h < 6) (hn : n < 10000) (hQ : Q none (mw (nI (h + 1)) 4 dy sn ln po rh rr pn kn (upd kd h x) (upd (upd (upd (upd th (5 * h + 3) (nI (n % 10))) (5 * h + 2) (nI (n / 10 % 10))) (5 * h + 1) (nI (n / 10 / 10 % 10))) (5 * h + 0) (nI (n / 10 / 10 / 10 % 10))) mc wn sd sp st tx rk rt rm2 rw2 row past pu pin rows kept)) : callok (d + 1) 121 0 0 [.ref 0, .int x, .int (nI n)] (mw (nI h) 4 dy sn ln po rh rr pn kn kd th mc wn sd sp st tx rk rt rm2 rw2 row past pu pin rows kept) Q := by
  refine beg rfl (gs [20] ?_)
  refine Exists.intro (h) (And.intro (rfl) (And.intro ⟨by omega, by omega⟩ ?_))
  show wp (0, 0, callok d) (mcode 121) (qE 0 0 Q) 20 [some (.ref 0), some (.int x), some (.int (nI n)), some (.int (nI n)), some (.int 3)] [] (mw (nI h) 4 dy sn ln po rh rr pn kn (upd kd h x) th mc wn sd sp st tx rk rt rm2 rw2 row past pu pin rows kept) 0 0
  refine gs [20] ?_
  refine br_f ((by decide)) ?_
  refine And.intro (by decide) ?_
  have i0 : 5 * nI h + 3 = nI (5 * h + 3) := by rw [show (3 : Int32) = nI 3 from rfl, j5]
  refine Exists.intro (5 * h + 3) (And.intro (i0) (And.intro ⟨by omega, by omega⟩ ?_))
  refine And.intro (by decide) ?_
  have r0 : (nI n) - (nI n) / 10 * 10 = nI (n % 10) := by rw [show (10 : Int32) = nI 10 from rfl, pk_rem (by omega) (by omega) (by omega)]
  have q0 : (nI n) / 10 = nI (n / 10) := by rw [show (10 : Int32) = nI 10 from rfl, pk_div (by omega) (by omega) (by omega)]
  show wp (0, 0, callok d) (mcode 121) (qE 0 0 Q) 20 [some (.ref 0), some (.int x), some (.int (nI n)), some (.int ((nI n) / 10)), some (.int 2)] [] (mw (nI h) 4 dy sn ln po rh rr pn kn (upd kd h x) (upd th (5 * h + 3) ((nI n) - (nI n) / 10 * 10)) mc wn sd sp st tx rk rt rm2 rw2 row past pu pin rows kept) 0 0
  rw [r0, q0]
  show wp (0, 0, callok d) (mcode 121) (qE 0 0 Q) 20 [some (.ref 0), some (.int x), some (.int (nI n)), some (.int (nI (n / 10))), some (.int 2)] [] (mw (nI h) 4 dy sn ln po rh rr pn kn (upd kd h x) (upd th (5 * h + 3) (nI (n % 10))) mc wn sd sp st tx rk rt rm2 rw2 row past pu pin rows kept) 0 0
  refine gs [20] ?_
  refine br_f ((by decide)) ?_
  refine And.intro (by decide) ?_
  have i1 : 5 * nI h + 2 = nI (5 * h + 2) := by rw [show (2 : Int32) = nI 2 from rfl, j5]
  refine Exists.intro (5 * h + 2) (And.intro (i1) (And.intro ⟨by omega, by omega⟩ ?_))
  refine And.intro (by decide) ?_
  have r1 : (nI (n / 10)) - (nI (n / 10)) / 10 * 10 = nI ((n / 10) % 10) := by rw [show (10 : Int32) = nI 10 from rfl, pk_rem (by omega) (by omega) (by omega)]
  have q1 : (nI (n / 10)) / 10 = nI ((n / 10) / 10) := by rw [show (10 : Int32) = nI 10 from rfl, pk_div (by omega) (by omega) (by omega)]
  show wp (0, 0, callok d) (mcode 121) (qE 0 0 Q) 20 [some (.ref 0), some (.int x), some (.int (nI n)), some (.int ((nI (n / 10)) / 10)), some (.int 1)] [] (mw (nI h) 4 dy sn ln po rh rr pn kn (upd kd h x) (upd (upd th (5 * h + 3) (nI (n % 10))) (5 * h + 2) ((nI (n / 10)) - (nI (n / 10)) / 10 * 10)) mc wn sd sp st tx rk rt rm2 rw2 row past pu pin rows kept) 0 0
  rw [r1, q1]
  show wp (0, 0, callok d) (mcode 121) (qE 0 0 Q) 20 [some (.ref 0), some (.int x), some (.int (nI n)), some (.int (nI (n / 10 / 10))), some (.int 1)] [] (mw (nI h) 4 dy sn ln po rh rr pn kn (upd kd h x) (upd (upd th (5 * h + 3) (nI (n % 10))) (5 * h + 2) (nI (n / 10 % 10))) mc wn sd sp st tx rk rt rm2 rw2 row past pu pin rows kept) 0 0
  refine gs [20] ?_
  refine br_f ((by decide)) ?_
  refine And.intro (by decide) ?_
  have i2 : 5 * nI h + 1 = nI (5 * h + 1) := by rw [show (1 : Int32) = nI 1 from rfl, j5]
  refine Exists.intro (5 * h + 1) (And.intro (i2) (And.intro ⟨by omega, by omega⟩ ?_))
  refine And.intro (by decide) ?_
  have r2 : (nI (n / 10 / 10)) - (nI (n / 10 / 10)) / 10 * 10 = nI ((n / 10 / 10) % 10) := by rw [show (10 : Int32) = nI 10 from rfl, pk_rem (by omega) (by omega) (by omega)]
  have q2 : (nI (n / 10 / 10)) / 10 = nI ((n / 10 / 10) / 10) := by rw [show (10 : Int32) = nI 10 from rfl, pk_div (by omega) (by omega) (by omega)]
  show wp (0, 0, callok d) (mcode 121) (qE 0 0 Q) 20 [some (.ref 0), some (.int x), some (.int (nI n)), some (.int ((nI (n / 10 / 10)) / 10)), some (.int 0)] [] (mw (nI h) 4 dy sn ln po rh rr pn kn (upd kd h x) (upd (upd (upd th (5 * h + 3) (nI (n % 10))) (5 * h + 2) (nI (n / 10 % 10))) (5 * h + 1) ((nI (n / 10 / 10)) - (nI (n / 10 / 10)) / 10 * 10)) mc wn sd sp st tx rk rt rm2 rw2 row past pu pin rows kept) 0 0
  rw [r2, q2]
  show wp (0, 0, callok d) (mcode 121) (qE 0 0 Q) 20 [some (.ref 0), some (.int x), some (.int (nI n)), some (.int (nI (n / 10 / 10 / 10))), some (.int 0)] [] (mw (nI h) 4 dy sn ln po rh rr pn kn (upd kd h x) (upd (upd (upd th (5 * h + 3) (nI (n % 10))) (5 * h + 2) (nI (n / 10 % 10))) (5 * h + 1) (nI (n / 10 / 10 % 10))) mc wn sd sp st tx rk rt rm2 rw2 row past pu pin rows kept) 0 0
  refine gs [20] ?_
  refine br_f ((by decide)) ?_
  refine And.intro (by decide) ?_
  have i3 : 5 * nI h + 0 = nI (5 * h + 0) := by rw [show (0 : Int32) = nI 0 from rfl, j5]
  refine Exists.intro (5 * h + 0) (And.intro (i3) (And.intro ⟨by omega, by omega⟩ ?_))
  refine And.intro (by decide) ?_
  have r3 : (nI (n / 10 / 10 / 10)) - (nI (n / 10 / 10 / 10)) / 10 * 10 = nI ((n / 10 / 10 / 10) % 10) := by rw [show (10 : Int32) = nI 10 from rfl, pk_rem (by omega) (by omega) (by omega)]
  have q3 : (nI (n / 10 / 10 / 10)) / 10 = nI ((n / 10 / 10 / 10) / 10) := by rw [show (10 : Int32) = nI 10 from rfl, pk_div (by omega) (by omega) (by omega)]
  show wp (0, 0, callok d) (mcode 121) (qE 0 0 Q) 20 [some (.ref 0), some (.int x), some (.int (nI n)), some (.int ((nI (n / 10 / 10 / 10)) / 10)), some (.int (-1))] [] (mw (nI h) 4 dy sn ln po rh rr pn kn (upd kd h x) (upd (upd (upd (upd th (5 * h + 3) (nI (n % 10))) (5 * h + 2) (nI (n / 10 % 10))) (5 * h + 1) (nI (n / 10 / 10 % 10))) (5 * h + 0) ((nI (n / 10 / 10 / 10)) - (nI (n / 10 / 10 / 10)) / 10 * 10)) mc wn sd sp st tx rk rt rm2 rw2 row past pu pin rows kept) 0 0
  rw [r3, q3]
  refine gs [20] ?_
  refine br_t ((by decide)) ?_
  rw [nI_succ h] at hQ
  exact fin0 (hQ)
abbrev mK : Nat → Int32 := (upd (upd (upd (upd (upd (fun _ => 0) 0 0) 1 1) 2 2) 3 3) 4 0)
abbrev mT : Nat → Int32 := (upd (upd (upd (upd (upd (upd (upd (upd (upd (upd (upd (upd (upd (upd (upd (upd (upd (upd (upd (upd (fun _ => 0) (5 * 0 + 3) (nI (1234 % 10))) (5 * 0 + 2) (nI (1234 / 10 % 10))) (5 * 0 + 1) (nI (1234 / 10 / 10 % 10))) (5 * 0 + 0) (nI (1234 / 10 / 10 / 10 % 10))) (5 * 1 + 3) (nI (5555 % 10))) (5 * 1 + 2) (nI (5555 / 10 % 10))) (5 * 1 + 1) (nI (5555 / 10 / 10 % 10))) (5 * 1 + 0) (nI (5555 / 10 / 10 / 10 % 10))) (5 * 2 + 3) (nI (918 % 10))) (5 * 2 + 2) (nI (918 / 10 % 10))) (5 * 2 + 1) (nI (918 / 10 / 10 % 10))) (5 * 2 + 0) (nI (918 / 10 / 10 / 10 % 10))) (5 * 3 + 3) (nI (7260 % 10))) (5 * 3 + 2) (nI (7260 / 10 % 10))) (5 * 3 + 1) (nI (7260 / 10 / 10 % 10))) (5 * 3 + 0) (nI (7260 / 10 / 10 / 10 % 10))) (5 * 4 + 3) (nI (4321 % 10))) (5 * 4 + 2) (nI (4321 / 10 % 10))) (5 * 4 + 1) (nI (4321 / 10 / 10 % 10))) (5 * 4 + 0) (nI (4321 / 10 / 10 / 10 % 10)))
abbrev mM : Nat → Int32 := upd (fun _ => 0) 3 1
abbrev mN : Nat → Int32 := upd (upd (upd (upd (fun _ => 0) 0 4) 1 (-4)) 2 7) 3 (-4)
theorem y_init (hQ : Q none (mw (nI 5) 4 0 0 0 0 0 0 0 0 mK mT mM mN (fun _ => 0) (fun _ => 0) (fun _ => 0) (fun _ => 0) (fun _ => 0) (fun _ => 0) (fun _ => 0) (fun _ => 0) (fun _ => 0) (fun _ => 0) (fun _ => 0) (fun _ => 0) (fun _ => 0) (fun _ => 0))) : callok (d + 2) 120 18 794 [.ref 0] [ao 7 [.int 0, .int 0, .null, .int 0, .null, .null, .null, .int 0, .null, .null, .null, .null, .int 0, .int 0, .int 0, .int 0, .null, .null, .null, .null, .null, .null, .int 0, .null, .null, .null, .null, .int 0]] Q := by
  refine beg rfl (gs [12] ?_)
  refine And.intro (Nat.le_of_ble_eq_true rfl) ?_
  refine Exists.intro 6 (And.intro rfl (And.intro (Nat.le_of_ble_eq_true rfl) (And.intro (Nat.le_of_ble_eq_true rfl) (And.intro (Nat.le_of_ble_eq_true rfl) ?_))))
  show wp (18, 794, callok (d + 1)) (mcode 120) (qE 18 794 Q) 12 [some (.ref 0)] [] [ao 7 [.int 0, .int 0, .ref 1, .int 0, .null, .null, .null, .int 0, .null, .null, .null, .null, .int 0, .int 0, .int 0, .int 0, .null, .null, .null, .null, .null, .null, .int 0, .null, .null, .null, .null, .int 0], ai 6 (fun _ => 0)] 1 6
  refine gs [20] ?_
  refine Exists.intro 30 (And.intro rfl (And.intro (Nat.le_of_ble_eq_true rfl) (And.intro (Nat.le_of_ble_eq_true rfl) (And.intro (Nat.le_of_ble_eq_true rfl) ?_))))
  show wp (18, 794, callok (d + 1)) (mcode 120) (qE 18 794 Q) 20 [some (.ref 0)] [] [ao 7 [.int 0, .int 0, .ref 1, .int 0, .ref 2, .null, .null, .int 0, .null, .null, .null, .null, .int 0, .int 0, .int 0, .int 0, .null, .null, .null, .null, .null, .null, .int 0, .null, .null, .null, .null, .int 0], ai 6 (fun _ => 0), ai 30 (fun _ => 0)] 2 36
  refine gs [28] ?_
  refine Exists.intro 6 (And.intro rfl (And.intro (Nat.le_of_ble_eq_true rfl) (And.intro (Nat.le_of_ble_eq_true rfl) (And.intro (Nat.le_of_ble_eq_true rfl) ?_))))
  show wp (18, 794, callok (d + 1)) (mcode 120) (qE 18 794 Q) 28 [some (.ref 0)] [] [ao 7 [.int 0, .int 0, .ref 1, .int 0, .ref 2, .ref 3, .null, .int 0, .null, .null, .null, .null, .int 0, .int 0, .int 0, .int 0, .null, .null, .null, .null, .null, .null, .int 0, .null, .null, .null, .null, .int 0], ai 6 (fun _ => 0), ai 30 (fun _ => 0), ai 6 (fun _ => 0)] 3 42
  refine gs [35] ?_
  refine Exists.intro 5 (And.intro rfl (And.intro (Nat.le_of_ble_eq_true rfl) (And.intro (Nat.le_of_ble_eq_true rfl) (And.intro (Nat.le_of_ble_eq_true rfl) ?_))))
  show wp (18, 794, callok (d + 1)) (mcode 120) (qE 18 794 Q) 35 [some (.ref 0)] [] [ao 7 [.int 0, .int 0, .ref 1, .int 0, .ref 2, .ref 3, .ref 4, .int 0, .null, .null, .null, .null, .int 0, .int 0, .int 0, .int 0, .null, .null, .null, .null, .null, .null, .int 0, .null, .null, .null, .null, .int 0], ai 6 (fun _ => 0), ai 30 (fun _ => 0), ai 6 (fun _ => 0), ai 5 (fun _ => 0)] 4 47
  refine gs [43] ?_
  refine Exists.intro 6 (And.intro rfl (And.intro (Nat.le_of_ble_eq_true rfl) (And.intro (Nat.le_of_ble_eq_true rfl) (And.intro (Nat.le_of_ble_eq_true rfl) ?_))))
  show wp (18, 794, callok (d + 1)) (mcode 120) (qE 18 794 Q) 43 [some (.ref 0)] [] [ao 7 [.int 0, .int 0, .ref 1, .int 0, .ref 2, .ref 3, .ref 4, .int 0, .ref 5, .null, .null, .null, .int 0, .int 0, .int 0, .int 0, .null, .null, .null, .null, .null, .null, .int 0, .null, .null, .null, .null, .int 0], ai 6 (fun _ => 0), ai 30 (fun _ => 0), ai 6 (fun _ => 0), ai 5 (fun _ => 0), ai 6 (fun _ => 0)] 5 53
  refine gs [51] ?_
  refine Exists.intro 6 (And.intro rfl (And.intro (Nat.le_of_ble_eq_true rfl) (And.intro (Nat.le_of_ble_eq_true rfl) (And.intro (Nat.le_of_ble_eq_true rfl) ?_))))
  show wp (18, 794, callok (d + 1)) (mcode 120) (qE 18 794 Q) 51 [some (.ref 0)] [] [ao 7 [.int 0, .int 0, .ref 1, .int 0, .ref 2, .ref 3, .ref 4, .int 0, .ref 5, .ref 6, .null, .null, .int 0, .int 0, .int 0, .int 0, .null, .null, .null, .null, .null, .null, .int 0, .null, .null, .null, .null, .int 0], ai 6 (fun _ => 0), ai 30 (fun _ => 0), ai 6 (fun _ => 0), ai 5 (fun _ => 0), ai 6 (fun _ => 0), ai 6 (fun _ => 0)] 6 59
  refine gs [59] ?_
  refine Exists.intro 6 (And.intro rfl (And.intro (Nat.le_of_ble_eq_true rfl) (And.intro (Nat.le_of_ble_eq_true rfl) (And.intro (Nat.le_of_ble_eq_true rfl) ?_))))
  show wp (18, 794, callok (d + 1)) (mcode 120) (qE 18 794 Q) 59 [some (.ref 0)] [] [ao 7 [.int 0, .int 0, .ref 1, .int 0, .ref 2, .ref 3, .ref 4, .int 0, .ref 5, .ref 6, .ref 7, .null, .int 0, .int 0, .int 0, .int 0, .null, .null, .null, .null, .null, .null, .int 0, .null, .null, .null, .null, .int 0], ai 6 (fun _ => 0), ai 30 (fun _ => 0), ai 6 (fun _ => 0), ai 5 (fun _ => 0), ai 6 (fun _ => 0), ai 6 (fun _ => 0), ai 6 (fun _ => 0)] 7 65
  refine gs [68] ?_
  refine Exists.intro 200 (And.intro rfl (And.intro (Nat.le_of_ble_eq_true rfl) (And.intro (Nat.le_of_ble_eq_true rfl) (And.intro (Nat.le_of_ble_eq_true rfl) ?_))))
  show wp (18, 794, callok (d + 1)) (mcode 120) (qE 18 794 Q) 68 [some (.ref 0)] [] [ao 7 [.int 0, .int 0, .ref 1, .int 0, .ref 2, .ref 3, .ref 4, .int 0, .ref 5, .ref 6, .ref 7, .ref 8, .int 0, .int 0, .int 0, .int 0, .null, .null, .null, .null, .null, .null, .int 0, .null, .null, .null, .null, .int 0], ai 6 (fun _ => 0), ai 30 (fun _ => 0), ai 6 (fun _ => 0), ai 5 (fun _ => 0), ai 6 (fun _ => 0), ai 6 (fun _ => 0), ai 6 (fun _ => 0), ai 200 (fun _ => 0)] 8 265
  refine gs [76] ?_
  refine Exists.intro 6 (And.intro rfl (And.intro (Nat.le_of_ble_eq_true rfl) (And.intro (Nat.le_of_ble_eq_true rfl) (And.intro (Nat.le_of_ble_eq_true rfl) ?_))))
  show wp (18, 794, callok (d + 1)) (mcode 120) (qE 18 794 Q) 76 [some (.ref 0)] [] [ao 7 [.int 0, .int 0, .ref 1, .int 0, .ref 2, .ref 3, .ref 4, .int 0, .ref 5, .ref 6, .ref 7, .ref 8, .int 0, .int 0, .int 0, .int 0, .ref 9, .null, .null, .null, .null, .null, .int 0, .null, .null, .null, .null, .int 0], ai 6 (fun _ => 0), ai 30 (fun _ => 0), ai 6 (fun _ => 0), ai 5 (fun _ => 0), ai 6 (fun _ => 0), ai 6 (fun _ => 0), ai 6 (fun _ => 0), ai 200 (fun _ => 0), ai 6 (fun _ => 0)] 9 271
  refine gs [84] ?_
  refine Exists.intro 30 (And.intro rfl (And.intro (Nat.le_of_ble_eq_true rfl) (And.intro (Nat.le_of_ble_eq_true rfl) (And.intro (Nat.le_of_ble_eq_true rfl) ?_))))
  show wp (18, 794, callok (d + 1)) (mcode 120) (qE 18 794 Q) 84 [some (.ref 0)] [] [ao 7 [.int 0, .int 0, .ref 1, .int 0, .ref 2, .ref 3, .ref 4, .int 0, .ref 5, .ref 6, .ref 7, .ref 8, .int 0, .int 0, .int 0, .int 0, .ref 9, .ref 10, .null, .null, .null, .null, .int 0, .null, .null, .null, .null, .int 0], ai 6 (fun _ => 0), ai 30 (fun _ => 0), ai 6 (fun _ => 0), ai 5 (fun _ => 0), ai 6 (fun _ => 0), ai 6 (fun _ => 0), ai 6 (fun _ => 0), ai 200 (fun _ => 0), ai 6 (fun _ => 0), ai 30 (fun _ => 0)] 10 301
  refine gs [92] ?_
  refine Exists.intro 6 (And.intro rfl (And.intro (Nat.le_of_ble_eq_true rfl) (And.intro (Nat.le_of_ble_eq_true rfl) (And.intro (Nat.le_of_ble_eq_true rfl) ?_))))
  show wp (18, 794, callok (d + 1)) (mcode 120) (qE 18 794 Q) 92 [some (.ref 0)] [] [ao 7 [.int 0, .int 0, .ref 1, .int 0, .ref 2, .ref 3, .ref 4, .int 0, .ref 5, .ref 6, .ref 7, .ref 8, .int 0, .int 0, .int 0, .int 0, .ref 9, .ref 10, .ref 11, .null, .null, .null, .int 0, .null, .null, .null, .null, .int 0], ai 6 (fun _ => 0), ai 30 (fun _ => 0), ai 6 (fun _ => 0), ai 5 (fun _ => 0), ai 6 (fun _ => 0), ai 6 (fun _ => 0), ai 6 (fun _ => 0), ai 200 (fun _ => 0), ai 6 (fun _ => 0), ai 30 (fun _ => 0), ai 6 (fun _ => 0)] 11 307
  refine gs [99] ?_
  refine Exists.intro 5 (And.intro rfl (And.intro (Nat.le_of_ble_eq_true rfl) (And.intro (Nat.le_of_ble_eq_true rfl) (And.intro (Nat.le_of_ble_eq_true rfl) ?_))))
  show wp (18, 794, callok (d + 1)) (mcode 120) (qE 18 794 Q) 99 [some (.ref 0)] [] [ao 7 [.int 0, .int 0, .ref 1, .int 0, .ref 2, .ref 3, .ref 4, .int 0, .ref 5, .ref 6, .ref 7, .ref 8, .int 0, .int 0, .int 0, .int 0, .ref 9, .ref 10, .ref 11, .ref 12, .null, .null, .int 0, .null, .null, .null, .null, .int 0], ai 6 (fun _ => 0), ai 30 (fun _ => 0), ai 6 (fun _ => 0), ai 5 (fun _ => 0), ai 6 (fun _ => 0), ai 6 (fun _ => 0), ai 6 (fun _ => 0), ai 200 (fun _ => 0), ai 6 (fun _ => 0), ai 30 (fun _ => 0), ai 6 (fun _ => 0), ai 5 (fun _ => 0)] 12 312
  refine gs [106] ?_
  refine Exists.intro 5 (And.intro rfl (And.intro (Nat.le_of_ble_eq_true rfl) (And.intro (Nat.le_of_ble_eq_true rfl) (And.intro (Nat.le_of_ble_eq_true rfl) ?_))))
  show wp (18, 794, callok (d + 1)) (mcode 120) (qE 18 794 Q) 106 [some (.ref 0)] [] [ao 7 [.int 0, .int 0, .ref 1, .int 0, .ref 2, .ref 3, .ref 4, .int 0, .ref 5, .ref 6, .ref 7, .ref 8, .int 0, .int 0, .int 0, .int 0, .ref 9, .ref 10, .ref 11, .ref 12, .ref 13, .null, .int 0, .null, .null, .null, .null, .int 0], ai 6 (fun _ => 0), ai 30 (fun _ => 0), ai 6 (fun _ => 0), ai 5 (fun _ => 0), ai 6 (fun _ => 0), ai 6 (fun _ => 0), ai 6 (fun _ => 0), ai 200 (fun _ => 0), ai 6 (fun _ => 0), ai 30 (fun _ => 0), ai 6 (fun _ => 0), ai 5 (fun _ => 0), ai 5 (fun _ => 0)] 13 317
  refine gs [115] ?_
  refine Exists.intro 336 (And.intro rfl (And.intro (Nat.le_of_ble_eq_true rfl) (And.intro (Nat.le_of_ble_eq_true rfl) (And.intro (Nat.le_of_ble_eq_true rfl) ?_))))
  show wp (18, 794, callok (d + 1)) (mcode 120) (qE 18 794 Q) 115 [some (.ref 0)] [] [ao 7 [.int 0, .int 0, .ref 1, .int 0, .ref 2, .ref 3, .ref 4, .int 0, .ref 5, .ref 6, .ref 7, .ref 8, .int 0, .int 0, .int 0, .int 0, .ref 9, .ref 10, .ref 11, .ref 12, .ref 13, .ref 14, .int 0, .null, .null, .null, .null, .int 0], ai 6 (fun _ => 0), ai 30 (fun _ => 0), ai 6 (fun _ => 0), ai 5 (fun _ => 0), ai 6 (fun _ => 0), ai 6 (fun _ => 0), ai 6 (fun _ => 0), ai 200 (fun _ => 0), ai 6 (fun _ => 0), ai 30 (fun _ => 0), ai 6 (fun _ => 0), ai 5 (fun _ => 0), ai 5 (fun _ => 0), ai 336 (fun _ => 0)] 14 653
  refine gs [123] ?_
  refine Exists.intro 42 (And.intro rfl (And.intro (Nat.le_of_ble_eq_true rfl) (And.intro (Nat.le_of_ble_eq_true rfl) (And.intro (Nat.le_of_ble_eq_true rfl) ?_))))
  show wp (18, 794, callok (d + 1)) (mcode 120) (qE 18 794 Q) 123 [some (.ref 0)] [] [ao 7 [.int 0, .int 0, .ref 1, .int 0, .ref 2, .ref 3, .ref 4, .int 0, .ref 5, .ref 6, .ref 7, .ref 8, .int 0, .int 0, .int 0, .int 0, .ref 9, .ref 10, .ref 11, .ref 12, .ref 13, .ref 14, .int 0, .ref 15, .null, .null, .null, .int 0], ai 6 (fun _ => 0), ai 30 (fun _ => 0), ai 6 (fun _ => 0), ai 5 (fun _ => 0), ai 6 (fun _ => 0), ai 6 (fun _ => 0), ai 6 (fun _ => 0), ai 200 (fun _ => 0), ai 6 (fun _ => 0), ai 30 (fun _ => 0), ai 6 (fun _ => 0), ai 5 (fun _ => 0), ai 5 (fun _ => 0), ai 336 (fun _ => 0), ai 42 (fun _ => 0)] 15 695
  refine gs [130] ?_
  refine Exists.intro 5 (And.intro rfl (And.intro (Nat.le_of_ble_eq_true rfl) (And.intro (Nat.le_of_ble_eq_true rfl) (And.intro (Nat.le_of_ble_eq_true rfl) ?_))))
  show wp (18, 794, callok (d + 1)) (mcode 120) (qE 18 794 Q) 130 [some (.ref 0)] [] [ao 7 [.int 0, .int 0, .ref 1, .int 0, .ref 2, .ref 3, .ref 4, .int 0, .ref 5, .ref 6, .ref 7, .ref 8, .int 0, .int 0, .int 0, .int 0, .ref 9, .ref 10, .ref 11, .ref 12, .ref 13, .ref 14, .int 0, .ref 15, .ref 16, .null, .null, .int 0], ai 6 (fun _ => 0), ai 30 (fun _ => 0), ai 6 (fun _ => 0), ai 5 (fun _ => 0), ai 6 (fun _ => 0), ai 6 (fun _ => 0), ai 6 (fun _ => 0), ai 200 (fun _ => 0), ai 6 (fun _ => 0), ai 30 (fun _ => 0), ai 6 (fun _ => 0), ai 5 (fun _ => 0), ai 5 (fun _ => 0), ai 336 (fun _ => 0), ai 42 (fun _ => 0), ai 5 (fun _ => 0)] 16 700
  refine gs [138] ?_
  refine Exists.intro 10 (And.intro rfl (And.intro (Nat.le_of_ble_eq_true rfl) (And.intro (Nat.le_of_ble_eq_true rfl) (And.intro (Nat.le_of_ble_eq_true rfl) ?_))))
  show wp (18, 794, callok (d + 1)) (mcode 120) (qE 18 794 Q) 138 [some (.ref 0)] [] [ao 7 [.int 0, .int 0, .ref 1, .int 0, .ref 2, .ref 3, .ref 4, .int 0, .ref 5, .ref 6, .ref 7, .ref 8, .int 0, .int 0, .int 0, .int 0, .ref 9, .ref 10, .ref 11, .ref 12, .ref 13, .ref 14, .int 0, .ref 15, .ref 16, .ref 17, .null, .int 0], ai 6 (fun _ => 0), ai 30 (fun _ => 0), ai 6 (fun _ => 0), ai 5 (fun _ => 0), ai 6 (fun _ => 0), ai 6 (fun _ => 0), ai 6 (fun _ => 0), ai 200 (fun _ => 0), ai 6 (fun _ => 0), ai 30 (fun _ => 0), ai 6 (fun _ => 0), ai 5 (fun _ => 0), ai 5 (fun _ => 0), ai 336 (fun _ => 0), ai 42 (fun _ => 0), ai 5 (fun _ => 0), ai 10 (fun _ => 0)] 17 710
  refine gs [146] ?_
  refine Exists.intro 84 (And.intro rfl (And.intro (Nat.le_of_ble_eq_true rfl) (And.intro (Nat.le_of_ble_eq_true rfl) (And.intro (Nat.le_of_ble_eq_true rfl) ?_))))
  show wp (18, 794, callok (d + 1)) (mcode 120) (qE 18 794 Q) 146 [some (.ref 0)] [] [ao 7 [.int 0, .int 0, .ref 1, .int 0, .ref 2, .ref 3, .ref 4, .int 0, .ref 5, .ref 6, .ref 7, .ref 8, .int 0, .int 0, .int 0, .int 0, .ref 9, .ref 10, .ref 11, .ref 12, .ref 13, .ref 14, .int 0, .ref 15, .ref 16, .ref 17, .ref 18, .int 0], ai 6 (fun _ => 0), ai 30 (fun _ => 0), ai 6 (fun _ => 0), ai 5 (fun _ => 0), ai 6 (fun _ => 0), ai 6 (fun _ => 0), ai 6 (fun _ => 0), ai 200 (fun _ => 0), ai 6 (fun _ => 0), ai 30 (fun _ => 0), ai 6 (fun _ => 0), ai 5 (fun _ => 0), ai 5 (fun _ => 0), ai 336 (fun _ => 0), ai 42 (fun _ => 0), ai 5 (fun _ => 0), ai 10 (fun _ => 0), ai 84 (fun _ => 0)] 18 794
  refine gs [151] ?_
  show wp (18, 794, callok (d + 1)) (mcode 120) (qE 18 794 Q) 151 [some (.ref 0)] [] (mw 0 4 0 0 0 0 0 0 0 0 (fun _ => 0) (fun _ => 0) (fun _ => 0) (fun _ => 0) (fun _ => 0) (fun _ => 0) (fun _ => 0) (fun _ => 0) (fun _ => 0) (fun _ => 0) (fun _ => 0) (fun _ => 0) (fun _ => 0) (fun _ => 0) (fun _ => 0) (fun _ => 0) (fun _ => 0) (fun _ => 0)) 18 794
  refine gs [] ?_
  refine Exists.intro [0, 1, 2, 3, 4, 5, 6, 7, 8, 9, 10, 11, 12, 13, 14, 15, 16, 17, 18] (Exists.intro [.ref 0, .int 0, .int 1234] (Exists.intro ((mw (nI 0) 4 0 0 0 0 0 0 0 0 (fun _ => 0) (fun _ => 0) (fun _ => 0) (fun _ => 0) (fun _ => 0) (fun _ => 0) (fun _ => 0) (fun _ => 0) (fun _ => 0) (fun _ => 0) (fun _ => 0) (fun _ => 0) (fun _ => 0) (fun _ => 0) (fun _ => 0) (fun _ => 0) (fun _ => 0) (fun _ => 0))) (Exists.intro 0 (Exists.intro 0 (And.intro ⟨rfl, rfl, Nat.le_of_ble_eq_true rfl, rfl, rfl, rfl, ⟨0, _, rfl, rfl⟩⟩ (And.intro (Nat.le_refl _) (And.intro (Nat.le_refl _) ?_)))))))
  refine m_first (h := 0) (n := 1234) (by omega) (by omega) ?_
  rw [q_all rfl]
  refine Exists.intro [0, 1, 2, 3, 4, 5, 6, 7, 8, 9, 10, 11, 12, 13, 14, 15, 16, 17, 18] (Exists.intro [.ref 0, .int 1, .int 5555] (Exists.intro ((mw (nI 1) 4 0 0 0 0 0 0 0 0 (upd (fun _ => 0) 0 0) (upd (upd (upd (upd (fun _ => 0) (5 * 0 + 3) (nI (1234 % 10))) (5 * 0 + 2) (nI (1234 / 10 % 10))) (5 * 0 + 1) (nI (1234 / 10 / 10 % 10))) (5 * 0 + 0) (nI (1234 / 10 / 10 / 10 % 10))) (fun _ => 0) (fun _ => 0) (fun _ => 0) (fun _ => 0) (fun _ => 0) (fun _ => 0) (fun _ => 0) (fun _ => 0) (fun _ => 0) (fun _ => 0) (fun _ => 0) (fun _ => 0) (fun _ => 0) (fun _ => 0) (fun _ => 0) (fun _ => 0))) (Exists.intro 0 (Exists.intro 0 (And.intro ⟨rfl, rfl, Nat.le_of_ble_eq_true rfl, rfl, rfl, rfl, ⟨0, _, rfl, rfl⟩⟩ (And.intro (Nat.le_refl _) (And.intro (Nat.le_refl _) ?_)))))))
  refine m_first (h := 1) (n := 5555) (by omega) (by omega) ?_
  rw [q_all rfl]
  refine Exists.intro [0, 1, 2, 3, 4, 5, 6, 7, 8, 9, 10, 11, 12, 13, 14, 15, 16, 17, 18] (Exists.intro [.ref 0, .int 2, .int 918] (Exists.intro ((mw (nI 2) 4 0 0 0 0 0 0 0 0 (upd (upd (fun _ => 0) 0 0) 1 1) (upd (upd (upd (upd (upd (upd (upd (upd (fun _ => 0) (5 * 0 + 3) (nI (1234 % 10))) (5 * 0 + 2) (nI (1234 / 10 % 10))) (5 * 0 + 1) (nI (1234 / 10 / 10 % 10))) (5 * 0 + 0) (nI (1234 / 10 / 10 / 10 % 10))) (5 * 1 + 3) (nI (5555 % 10))) (5 * 1 + 2) (nI (5555 / 10 % 10))) (5 * 1 + 1) (nI (5555 / 10 / 10 % 10))) (5 * 1 + 0) (nI (5555 / 10 / 10 / 10 % 10))) (fun _ => 0) (fun _ => 0) (fun _ => 0) (fun _ => 0) (fun _ => 0) (fun _ => 0) (fun _ => 0) (fun _ => 0) (fun _ => 0) (fun _ => 0) (fun _ => 0) (fun _ => 0) (fun _ => 0) (fun _ => 0) (fun _ => 0) (fun _ => 0))) (Exists.intro 0 (Exists.intro 0 (And.intro ⟨rfl, rfl, Nat.le_of_ble_eq_true rfl, rfl, rfl, rfl, ⟨0, _, rfl, rfl⟩⟩ (And.intro (Nat.le_refl _) (And.intro (Nat.le_refl _) ?_)))))))
  refine m_first (h := 2) (n := 918) (by omega) (by omega) ?_
  rw [q_all rfl]
  refine Exists.intro [0, 1, 2, 3, 4, 5, 6, 7, 8, 9, 10, 11, 12, 13, 14, 15, 16, 17, 18] (Exists.intro [.ref 0, .int 3, .int 7260] (Exists.intro ((mw (nI 3) 4 0 0 0 0 0 0 0 0 (upd (upd (upd (fun _ => 0) 0 0) 1 1) 2 2) (upd (upd (upd (upd (upd (upd (upd (upd (upd (upd (upd (upd (fun _ => 0) (5 * 0 + 3) (nI (1234 % 10))) (5 * 0 + 2) (nI (1234 / 10 % 10))) (5 * 0 + 1) (nI (1234 / 10 / 10 % 10))) (5 * 0 + 0) (nI (1234 / 10 / 10 / 10 % 10))) (5 * 1 + 3) (nI (5555 % 10))) (5 * 1 + 2) (nI (5555 / 10 % 10))) (5 * 1 + 1) (nI (5555 / 10 / 10 % 10))) (5 * 1 + 0) (nI (5555 / 10 / 10 / 10 % 10))) (5 * 2 + 3) (nI (918 % 10))) (5 * 2 + 2) (nI (918 / 10 % 10))) (5 * 2 + 1) (nI (918 / 10 / 10 % 10))) (5 * 2 + 0) (nI (918 / 10 / 10 / 10 % 10))) (fun _ => 0) (fun _ => 0) (fun _ => 0) (fun _ => 0) (fun _ => 0) (fun _ => 0) (fun _ => 0) (fun _ => 0) (fun _ => 0) (fun _ => 0) (fun _ => 0) (fun _ => 0) (fun _ => 0) (fun _ => 0) (fun _ => 0) (fun _ => 0))) (Exists.intro 0 (Exists.intro 0 (And.intro ⟨rfl, rfl, Nat.le_of_ble_eq_true rfl, rfl, rfl, rfl, ⟨0, _, rfl, rfl⟩⟩ (And.intro (Nat.le_refl _) (And.intro (Nat.le_refl _) ?_)))))))
  refine m_first (h := 3) (n := 7260) (by omega) (by omega) ?_
  rw [q_all rfl]
  refine Exists.intro [0, 1, 2, 3, 4, 5, 6, 7, 8, 9, 10, 11, 12, 13, 14, 15, 16, 17, 18] (Exists.intro [.ref 0, .int 0, .int 4321] (Exists.intro ((mw (nI 4) 4 0 0 0 0 0 0 0 0 (upd (upd (upd (upd (fun _ => 0) 0 0) 1 1) 2 2) 3 3) (upd (upd (upd (upd (upd (upd (upd (upd (upd (upd (upd (upd (upd (upd (upd (upd (fun _ => 0) (5 * 0 + 3) (nI (1234 % 10))) (5 * 0 + 2) (nI (1234 / 10 % 10))) (5 * 0 + 1) (nI (1234 / 10 / 10 % 10))) (5 * 0 + 0) (nI (1234 / 10 / 10 / 10 % 10))) (5 * 1 + 3) (nI (5555 % 10))) (5 * 1 + 2) (nI (5555 / 10 % 10))) (5 * 1 + 1) (nI (5555 / 10 / 10 % 10))) (5 * 1 + 0) (nI (5555 / 10 / 10 / 10 % 10))) (5 * 2 + 3) (nI (918 % 10))) (5 * 2 + 2) (nI (918 / 10 % 10))) (5 * 2 + 1) (nI (918 / 10 / 10 % 10))) (5 * 2 + 0) (nI (918 / 10 / 10 / 10 % 10))) (5 * 3 + 3) (nI (7260 % 10))) (5 * 3 + 2) (nI (7260 / 10 % 10))) (5 * 3 + 1) (nI (7260 / 10 / 10 % 10))) (5 * 3 + 0) (nI (7260 / 10 / 10 / 10 % 10))) (fun _ => 0) (fun _ => 0) (fun _ => 0) (fun _ => 0) (fun _ => 0) (fun _ => 0) (fun _ => 0) (fun _ => 0) (fun _ => 0) (fun _ => 0) (fun _ => 0) (fun _ => 0) (fun _ => 0) (fun _ => 0) (fun _ => 0) (fun _ => 0))) (Exists.intro 0 (Exists.intro 0 (And.intro ⟨rfl, rfl, Nat.le_of_ble_eq_true rfl, rfl, rfl, rfl, ⟨0, _, rfl, rfl⟩⟩ (And.intro (Nat.le_refl _) (And.intro (Nat.le_refl _) ?_)))))))
  refine m_first (h := 4) (n := 4321) (by omega) (by omega) ?_
  rw [q_all rfl]
  refine Exists.intro (3) (And.intro (rfl) (And.intro ⟨by omega, by omega⟩ ?_))
  refine Exists.intro (0) (And.intro (rfl) (And.intro ⟨by omega, by omega⟩ ?_))
  refine Exists.intro (1) (And.intro (rfl) (And.intro ⟨by omega, by omega⟩ ?_))
  refine Exists.intro (2) (And.intro (rfl) (And.intro ⟨by omega, by omega⟩ ?_))
  refine Exists.intro (3) (And.intro (rfl) (And.intro ⟨by omega, by omega⟩ ?_))
  exact ⟨rfl, Nat.le_of_ble_eq_true rfl, _, hE_rf _, hQ⟩
end MU
