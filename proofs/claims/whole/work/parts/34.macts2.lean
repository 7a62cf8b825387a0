/-! THE REFERENCE: more acts, what comes up -/
section MG
variable {d : Nat} {hs rm dy sn ln po rh rr pn kn : Int32} {kd th mc wn sd sp st tx rk rt rm2 rw2 row past pu pin rows kept : Nat → Int32} {wi : Nat → Int32} {H R M a b n m k L S S2 S8 : Nat} {x y v w u : Int32} {Q : Option Value → List aC → Prop}
theorem y_want (hS8 : S8 ≤ 8) (h5 : R ≤ 5) (h1 : 0 < R) (hF : ¬ (inR x R ∧ ¬ y < 0 ∧ ¬ 10 < y) → Q (some (.int (-1))) (mw (nI H) (nI R) dy (nI S) (nI L) po rh rr (nI S8) (nI S2) kd th mc wn sd sp st tx rk rt rm2 rw2 row past pu pin rows kept)) (hT : ∀ a, a < R → x = nI a → (¬ y < 0 ∧ ¬ 10 < y) → Q (some (.int (wn a))) (mw (nI H) (nI R) dy (nI S) (nI L) po rh rr (nI (ps 8 S8)) (nI S2) kd th mc (upd wn a (if y = 10 then -4 else y)) sd sp st tx rk rt rm2 rw2 row (ntF past S8 dy th mc wn) pu pin rows kept)) : callok (d + 3) 154 0 0 [.ref 0, .int x, .int y] (mw (nI H) (nI R) dy (nI S) (nI L) po rh rr (nI S8) (nI S2) kd th mc wn sd sp st tx rk rt rm2 rw2 row past pu pin rows kept) Q := by
  refine beg rfl (gs [] ?_)
  refine Exists.intro [0, 1, 2, 3, 4, 5, 6, 7, 8, 9, 10, 11, 12, 13, 14, 15, 16, 17, 18] (Exists.intro [.ref 0, .int x] (Exists.intro ((mw (nI H) (nI R) dy (nI S) (nI L) po rh rr (nI S8) (nI S2) kd th mc wn sd sp st tx rk rt rm2 rw2 row past pu pin rows kept)) (Exists.intro 0 (Exists.intro 0 (And.intro ⟨rfl, rfl, Nat.le_of_ble_eq_true rfl, rfl, rfl, rfl, ⟨0, _, rfl, rfl⟩⟩ (And.intro (Nat.le_refl _) (And.intro (Nat.le_refl _) ?_)))))))
  refine m_isRoom h5 h1 (fun c => ?_) (fun c => ?_)
  · rw [q_all rfl]
    refine br_f ((by decide)) ?_
    refine Exists.intro [] (Exists.intro [.int y, .int 0, .int 10] (Exists.intro ([]) (Exists.intro 0 (Exists.intro 0 (And.intro ⟨rfl, rfl, Nat.le_of_ble_eq_true rfl, rfl, rfl, rfl, trivial⟩ (And.intro (Nat.le_refl _) (And.intro (Nat.le_refl _) ?_)))))))
    refine m_in (fun c2 c3 => ?_) (fun c2 => ?_)
    · rw [p_nil]
      refine br_f ((by decide)) ?_
      obtain ⟨a, ha, rfl⟩ := inR_of c (by omega)
      have hq := hT a ha rfl ⟨c2, c3⟩
      refine Exists.intro [0, 1, 2, 3, 4, 5, 6, 7, 8, 9, 10, 11, 12, 13, 14, 15, 16, 17, 18] (Exists.intro [.ref 0] (Exists.intro ((mw (nI H) (nI R) dy (nI S) (nI L) po rh rr (nI S8) (nI S2) kd th mc wn sd sp st tx rk rt rm2 rw2 row past pu pin rows kept)) (Exists.intro 0 (Exists.intro 0 (And.intro ⟨rfl, rfl, Nat.le_of_ble_eq_true rfl, rfl, rfl, rfl, ⟨0, _, rfl, rfl⟩⟩ (And.intro (Nat.le_refl _) (And.intro (Nat.le_refl _) ?_)))))))
      refine m_notes hS8 ?_
      rw [q_all rfl]
      refine Exists.intro (a) (And.intro (rfl) (And.intro ⟨by omega, by omega⟩ ?_))
      refine br_c (fun c4 => ?_) (fun c4 => ?_)
      · rw [if_pos c4] at hq
        refine Exists.intro (a) (And.intro (rfl) (And.intro ⟨by omega, by omega⟩ ?_))
        exact fin0 (hq)
      · rw [if_neg c4] at hq
        refine Exists.intro (a) (And.intro (rfl) (And.intro ⟨by omega, by omega⟩ ?_))
        exact fin0 (hq)
    · rw [p_nil]
      refine br_t ((rfl)) ?_
      exact fin0 (hF (fun z => c2 z.2))
  · rw [q_all rfl]
    refine br_t ((rfl)) ?_
    exact fin0 (hF (fun z => c z.1))
theorem nI_z {n : Nat} (h : n < 1000) : nI n = 0 ↔ n = 0 := nI_eq (b := 0) (by omega) (by omega)
theorem n42 (n : Nat) : 42 * nI n = nI (42 * n) := by rw [show (42 : Int32) = nI 42 from rfl, pk_mul]
theorem y_undo (hS8 : S8 ≤ 8) (hT : 0 < S8 → Q (some (.int (nI (S8 - 1)))) (mw (nI H) (nI R) (past (42 * (S8 - 1))) (nI S) (nI L) po rh rr (nI (S8 - 1)) (nI S2) kd (fun i => past (42 * (S8 - 1) + 1 + i)) (fun i => past (42 * (S8 - 1) + 31 + i)) (fun i => past (42 * (S8 - 1) + 37 + i)) sd sp st tx rk rt rm2 rw2 row past pu pin rows kept)) (hF : ¬ 0 < S8 → Q (some (.int (-2))) (mw (nI H) (nI R) dy (nI S) (nI L) po rh rr (nI S8) (nI S2) kd th mc wn sd sp st tx rk rt rm2 rw2 row past pu pin rows kept)) : callok (d + 2) 155 0 0 [.ref 0] (mw (nI H) (nI R) dy (nI S) (nI L) po rh rr (nI S8) (nI S2) kd th mc wn sd sp st tx rk rt rm2 rw2 row past pu pin rows kept) Q := by
  refine beg rfl (gs [] ?_)
  refine br_c (fun c => ?_) (fun c => ?_)
  · have := (nI_z (by omega)).mp c
    exact fin0 (hF (by omega))
  · have hp : 0 < S8 := Nat.pos_of_ne_zero (fun z => c ((nI_z (by omega)).mpr z))
    have hq := hT hp
    rw [← nI_m1 hp] at hq
    refine Exists.intro [0, 1, 2, 3, 4, 5, 6, 7, 8, 9, 10, 11, 12, 13, 14, 15, 16, 17, 18] (Exists.intro [.ref 0, .ref 14, .int (42 * (nI S8 - 1))] (Exists.intro ((mw (nI H) (nI R) dy (nI S) (nI L) po rh rr (nI S8 - 1) (nI S2) kd th mc wn sd sp st tx rk rt rm2 rw2 row past pu pin rows kept)) (Exists.intro 0 (Exists.intro 0 (And.intro ⟨rfl, rfl, Nat.le_of_ble_eq_true rfl, rfl, rfl, rfl, ⟨0, _, rfl, rfl⟩⟩ (And.intro (Nat.le_refl _) (And.intro (Nat.le_refl _) ?_)))))))
    refine m_takes_past (k := 42 * (S8 - 1)) (by rw [nI_m1 hp, n42]) (by omega) ?_
    rw [q_all rfl]
    exact fin0 (hq)
theorem y_keep (hS2 : S2 ≤ 2) (hT : S2 < 2 → Q (some (.int (nI (S2 + 1)))) (mw (nI H) (nI R) dy (nI S) (nI L) po rh rr (nI S8) (nI (S2 + 1)) kd th mc wn sd sp st tx rk rt rm2 rw2 row past pu pin rows (lyF kept (42 * S2) dy th mc wn))) (hF : ¬ S2 < 2 → Q (some (.int (-3))) (mw (nI H) (nI R) dy (nI S) (nI L) po rh rr (nI S8) (nI S2) kd th mc wn sd sp st tx rk rt rm2 rw2 row past pu pin rows kept)) : callok (d + 2) 178 0 0 [.ref 0] (mw (nI H) (nI R) dy (nI S) (nI L) po rh rr (nI S8) (nI S2) kd th mc wn sd sp st tx rk rt rm2 rw2 row past pu pin rows kept) Q := by
  refine beg rfl (gs [] ?_)
  refine br_c (fun c => ?_) (fun c => ?_)
  · have := (nI_eq (b := 2) (by omega) (by omega)).mp c
    exact fin0 (hF (by omega))
  · have hp : S2 < 2 := by
      rcases Nat.lt_or_ge S2 2 with h | h
      · exact h
      · exact absurd (show nI S2 = 2 by rw [show S2 = 2 by omega]; rfl) c
    have hq := hT hp
    rw [nI_succ] at hq
    refine Exists.intro [0, 1, 2, 3, 4, 5, 6, 7, 8, 9, 10, 11, 12, 13, 14, 15, 16, 17, 18] (Exists.intro [.ref 0, .ref 18, .int (42 * nI S2)] (Exists.intro ((mw (nI H) (nI R) dy (nI S) (nI L) po rh rr (nI S8) (nI S2) kd th mc wn sd sp st tx rk rt rm2 rw2 row past pu pin rows kept)) (Exists.intro 0 (Exists.intro 0 (And.intro ⟨rfl, rfl, Nat.le_of_ble_eq_true rfl, rfl, rfl, rfl, ⟨0, _, rfl, rfl⟩⟩ (And.intro (Nat.le_refl _) (And.intro (Nat.le_refl _) ?_)))))))
    refine m_lays_kept (k := 42 * S2) (n42 S2) (by omega) ?_
    rw [q_all rfl]
    exact fin0 (hq)
theorem y_back (hS2 : S2 ≤ 2) (hT : 0 < S2 → Q (some (.int (nI (S2 - 1)))) (mw (nI H) (nI R) (kept (42 * (S2 - 1))) (nI S) (nI L) po rh rr 0 (nI (S2 - 1)) kd (fun i => kept (42 * (S2 - 1) + 1 + i)) (fun i => kept (42 * (S2 - 1) + 31 + i)) (fun i => kept (42 * (S2 - 1) + 37 + i)) sd sp st tx rk rt rm2 rw2 row past pu pin rows kept)) (hF : ¬ 0 < S2 → Q (some (.int (-2))) (mw (nI H) (nI R) dy (nI S) (nI L) po rh rr (nI S8) (nI S2) kd th mc wn sd sp st tx rk rt rm2 rw2 row past pu pin rows kept)) : callok (d + 2) 179 0 0 [.ref 0] (mw (nI H) (nI R) dy (nI S) (nI L) po rh rr (nI S8) (nI S2) kd th mc wn sd sp st tx rk rt rm2 rw2 row past pu pin rows kept) Q := by
  refine beg rfl (gs [] ?_)
  refine br_c (fun c => ?_) (fun c => ?_)
  · have := (nI_z (by omega)).mp c
    exact fin0 (hF (by omega))
  · have hp : 0 < S2 := Nat.pos_of_ne_zero (fun z => c ((nI_z (by omega)).mpr z))
    have hq := hT hp
    rw [← nI_m1 hp] at hq
    refine Exists.intro [0, 1, 2, 3, 4, 5, 6, 7, 8, 9, 10, 11, 12, 13, 14, 15, 16, 17, 18] (Exists.intro [.ref 0, .ref 18, .int (42 * (nI S2 - 1))] (Exists.intro ((mw (nI H) (nI R) dy (nI S) (nI L) po rh rr (nI S8) (nI S2 - 1) kd th mc wn sd sp st tx rk rt rm2 rw2 row past pu pin rows kept)) (Exists.intro 0 (Exists.intro 0 (And.intro ⟨rfl, rfl, Nat.le_of_ble_eq_true rfl, rfl, rfl, rfl, ⟨0, _, rfl, rfl⟩⟩ (And.intro (Nat.le_refl _) (And.intro (Nat.le_refl _) ?_)))))))
    refine m_takes_kept (k := 42 * (S2 - 1)) (by rw [nI_m1 hp, n42]) (by omega) ?_
    rw [q_all rfl]
    exact fin0 (hq)
theorem y_behind (h6 : H ≤ 6) (h0 : 0 < H) (h5 : R ≤ 5) (h1 : 0 < R) (hm : ∀ k, k < H → mc k = nI (if M.testBit k = true then 1 else 0)) (hT : ∀ n a b, n ≤ 40 → a < H → b < R → x = nI n → y = nI a → v = nI b → ∀ row pu, Q (some (.int (itT kd M H R n th (5 * a + b)))) (mw (nI H) (nI R) dy (nI S) (nI L) po rh rr (nI S8) (nI S2) kd th mc wn sd sp st tx rk rt rm2 rw2 row past pu pin rows kept)) (hF : ¬ ((¬ x < 0 ∧ ¬ 40 < x) ∧ inR y H ∧ inR v R) → Q (some (.int (-1))) (mw (nI H) (nI R) dy (nI S) (nI L) po rh rr (nI S8) (nI S2) kd th mc wn sd sp st tx rk rt rm2 rw2 row past pu pin rows kept)) : callok (d + 4) 158 0 0 [.ref 0, .int x, .int y, .int v] (mw (nI H) (nI R) dy (nI S) (nI L) po rh rr (nI S8) (nI S2) kd th mc wn sd sp st tx rk rt rm2 rw2 row past pu pin rows kept) Q := by
  refine beg rfl (gs [] ?_)
  refine Exists.intro [] (Exists.intro [.int x, .int 0, .int 40] (Exists.intro ([]) (Exists.intro 0 (Exists.intro 0 (And.intro ⟨rfl, rfl, Nat.le_of_ble_eq_true rfl, rfl, rfl, rfl, trivial⟩ (And.intro (Nat.le_refl _) (And.intro (Nat.le_refl _) ?_)))))))
  refine m_in (fun c c2 => ?_) (fun c => ?_)
  · rw [p_nil]
    refine br_f ((by decide)) ?_
    refine Exists.intro [0, 1, 2, 3, 4, 5, 6, 7, 8, 9, 10, 11, 12, 13, 14, 15, 16, 17, 18] (Exists.intro [.ref 0, .int y] (Exists.intro ((mw (nI H) (nI R) dy (nI S) (nI L) po rh rr (nI S8) (nI S2) kd th mc wn sd sp st tx rk rt rm2 rw2 row past pu pin rows kept)) (Exists.intro 0 (Exists.intro 0 (And.intro ⟨rfl, rfl, Nat.le_of_ble_eq_true rfl, rfl, rfl, rfl, ⟨0, _, rfl, rfl⟩⟩ (And.intro (Nat.le_refl _) (And.intro (Nat.le_refl _) ?_)))))))
    refine m_isHouse h6 h0 (fun c3 => ?_) (fun c3 => ?_)
    · rw [q_all rfl]
      refine br_f ((by decide)) ?_
      refine Exists.intro [0, 1, 2, 3, 4, 5, 6, 7, 8, 9, 10, 11, 12, 13, 14, 15, 16, 17, 18] (Exists.intro [.ref 0, .int v] (Exists.intro ((mw (nI H) (nI R) dy (nI S) (nI L) po rh rr (nI S8) (nI S2) kd th mc wn sd sp st tx rk rt rm2 rw2 row past pu pin rows kept)) (Exists.intro 0 (Exists.intro 0 (And.intro ⟨rfl, rfl, Nat.le_of_ble_eq_true rfl, rfl, rfl, rfl, ⟨0, _, rfl, rfl⟩⟩ (And.intro (Nat.le_refl _) (And.intro (Nat.le_refl _) ?_)))))))
      refine m_isRoom h5 h1 (fun c4 => ?_) (fun c4 => ?_)
      · rw [q_all rfl]
        refine br_f ((by decide)) ?_
        obtain ⟨n, hn, rfl⟩ := nI_of2 (M := 40) (n := 40) rfl c (Int32.not_lt.mp c2)
        obtain ⟨a, ha, rfl⟩ := inR_of c3 (by omega)
        obtain ⟨b, hb, rfl⟩ := inR_of c4 (by omega)
        refine Exists.intro [0, 1, 2, 3, 4, 5, 6, 7, 8, 9, 10, 11, 12, 13, 14, 15, 16, 17, 18] (Exists.intro [.ref 0] (Exists.intro ((mw (nI H) (nI R) dy (nI S) (nI L) po rh rr (nI S8) (nI S2) kd th mc wn sd sp st tx rk rt rm2 rw2 row past pu pin rows kept)) (Exists.intro 0 (Exists.intro 0 (And.intro ⟨rfl, rfl, Nat.le_of_ble_eq_true rfl, rfl, rfl, rfl, ⟨0, _, rfl, rfl⟩⟩ (And.intro (Nat.le_refl _) (And.intro (Nat.le_refl _) ?_)))))))
        refine m_puts ?_
        rw [q_all rfl]
        refine Exists.intro [0, 1, 2, 3, 4, 5, 6, 7, 8, 9, 10, 11, 12, 13, 14, 15, 16, 17, 18] (Exists.intro [.ref 0, .int (nI n)] (Exists.intro ((mw (nI H) (nI R) dy (nI S) (nI L) po rh rr (nI S8) (nI S2) kd th mc wn sd sp st tx rk rt rm2 rw2 row past (lyF pu 0 dy th mc wn) pin rows kept)) (Exists.intro 0 (Exists.intro 0 (And.intro ⟨rfl, rfl, Nat.le_of_ble_eq_true rfl, rfl, rfl, rfl, ⟨0, _, rfl, rfl⟩⟩ (And.intro (Nat.le_refl _) (And.intro (Nat.le_refl _) ?_)))))))
        refine m_goesOn h6 h5 h0 hm rfl (by omega) (fun row => ?_)
        rw [q_all rfl]
        refine Exists.intro (5 * a + b) (And.intro (j5 a b) (And.intro ⟨by omega, by omega⟩ ?_))
        refine Exists.intro [0, 1, 2, 3, 4, 5, 6, 7, 8, 9, 10, 11, 12, 13, 14, 15, 16, 17, 18] (Exists.intro [.ref 0] (Exists.intro ((mw (nI H) (nI R) (dy + nI n) (nI S) (nI L) po rh rr (nI S8) (nI S2) kd (itT kd M H R n th) mc wn sd sp st tx rk rt rm2 rw2 row past (lyF pu 0 dy th mc wn) pin rows kept)) (Exists.intro 0 (Exists.intro 0 (And.intro ⟨rfl, rfl, Nat.le_of_ble_eq_true rfl, rfl, rfl, rfl, ⟨0, _, rfl, rfl⟩⟩ (And.intro (Nat.le_refl _) (And.intro (Nat.le_refl _) ?_)))))))
        refine m_puttingBack ?_
        rw [q_all rfl]
        exact fin0 (hT n a b hn ha hb rfl rfl rfl row (lyF pu 0 dy th mc wn))
      · rw [q_all rfl]
        refine br_t ((rfl)) ?_
        exact fin0 (hF (fun z => c4 z.2.2))
    · rw [q_all rfl]
      refine br_t ((rfl)) ?_
      exact fin0 (hF (fun z => c3 z.2.1))
  · rw [p_nil]
    refine br_t ((rfl)) ?_
    exact fin0 (hF (fun z => c z.1))
theorem y_met (h6 : H ≤ 6) (h0 : 0 < H) (h5 : R ≤ 5) (h1 : 0 < R) (hm : ∀ k, k < H → mc k = nI (if M.testBit k = true then 1 else 0)) (hT : ∀ n, n ≤ 40 → x = nI n → ∀ row pu, Q (some (.int (nI (metN wi (itT kd M H R n th) R)))) (mw (nI H) (nI R) dy (nI S) (nI L) po rh rr (nI S8) (nI S2) kd th mc wn sd sp st tx rk rt rm2 rw2 row past pu pin rows kept)) (hw : ∀ n, n ≤ 40 → ∀ k, k < R → ((¬ wn k = -4 ∧ itT kd M H R n th k = wn k) ↔ wi k = itT kd M H R n th k)) (hF : ¬ (¬ x < 0 ∧ ¬ 40 < x) → Q (some (.int (-1))) (mw (nI H) (nI R) dy (nI S) (nI L) po rh rr (nI S8) (nI S2) kd th mc wn sd sp st tx rk rt rm2 rw2 row past pu pin rows kept)) : callok (d + 5) 162 0 0 [.ref 0, .int x] (mw (nI H) (nI R) dy (nI S) (nI L) po rh rr (nI S8) (nI S2) kd th mc wn sd sp st tx rk rt rm2 rw2 row past pu pin rows kept) Q := by
  refine beg rfl (gs [] ?_)
  refine Exists.intro [] (Exists.intro [.int x, .int 0, .int 40] (Exists.intro ([]) (Exists.intro 0 (Exists.intro 0 (And.intro ⟨rfl, rfl, Nat.le_of_ble_eq_true rfl, rfl, rfl, rfl, trivial⟩ (And.intro (Nat.le_refl _) (And.intro (Nat.le_refl _) ?_)))))))
  refine m_in (fun c c2 => ?_) (fun c => ?_)
  · rw [p_nil]
    refine br_f ((by decide)) ?_
    obtain ⟨n, hn, rfl⟩ := nI_of2 (M := 40) (n := 40) rfl c (Int32.not_lt.mp c2)
    refine Exists.intro [0, 1, 2, 3, 4, 5, 6, 7, 8, 9, 10, 11, 12, 13, 14, 15, 16, 17, 18] (Exists.intro [.ref 0, .int (nI n)] (Exists.intro ((mw (nI H) (nI R) dy (nI S) (nI L) po rh rr (nI S8) (nI S2) kd th mc wn sd sp st tx rk rt rm2 rw2 row past pu pin rows kept)) (Exists.intro 0 (Exists.intro 0 (And.intro ⟨rfl, rfl, Nat.le_of_ble_eq_true rfl, rfl, rfl, rfl, ⟨0, _, rfl, rfl⟩⟩ (And.intro (Nat.le_refl _) (And.intro (Nat.le_refl _) ?_)))))))
    refine m_metBehind h6 h5 h0 hm rfl (by omega) (hw n hn) (fun row pu => ?_)
    rw [q_all rfl]
    exact fin0 (hT n hn rfl row pu)
  · rw [p_nil]
    refine br_t ((rfl)) ?_
    exact fin0 (hF c)
theorem y_seen (h6 : H ≤ 6) (h0 : 0 < H) (h5 : R ≤ 5) (h1 : 0 < R) (hS : S ≤ 6) (hT : ∀ a b, a < H → b < R → (¬ x < 0 ∧ ¬ 20 < x) → y = nI a → v = nI b → (¬ w < 0 ∧ ¬ 9 < w) → S < 6 → Q (some (.int (nI (S + 1)))) (mw (nI H) (nI R) dy (nI (S + 1)) (nI L) po rh rr (nI S8) (nI S2) kd th mc wn (upd sd S x) (upd sp S (nI (5 * a + b))) (upd st S w) tx rk rt rm2 rw2 row past pu pin rows kept)) (hU : (¬ x < 0 ∧ ¬ 20 < x) → inR y H → inR v R → (¬ w < 0 ∧ ¬ 9 < w) → ¬ S < 6 → Q (some (.int (-3))) (mw (nI H) (nI R) dy (nI S) (nI L) po rh rr (nI S8) (nI S2) kd th mc wn sd sp st tx rk rt rm2 rw2 row past pu pin rows kept)) (hF : ¬ ((¬ x < 0 ∧ ¬ 20 < x) ∧ inR y H ∧ inR v R ∧ ¬ w < 0 ∧ ¬ 9 < w) → Q (some (.int (-1))) (mw (nI H) (nI R) dy (nI S) (nI L) po rh rr (nI S8) (nI S2) kd th mc wn sd sp st tx rk rt rm2 rw2 row past pu pin rows kept)) : callok (d + 3) 167 0 0 [.ref 0, .int x, .int y, .int v, .int w] (mw (nI H) (nI R) dy (nI S) (nI L) po rh rr (nI S8) (nI S2) kd th mc wn sd sp st tx rk rt rm2 rw2 row past pu pin rows kept) Q := by
  refine beg rfl (gs [] ?_)
  refine Exists.intro [] (Exists.intro [.int x, .int 0, .int 20] (Exists.intro ([]) (Exists.intro 0 (Exists.intro 0 (And.intro ⟨rfl, rfl, Nat.le_of_ble_eq_true rfl, rfl, rfl, rfl, trivial⟩ (And.intro (Nat.le_refl _) (And.intro (Nat.le_refl _) ?_)))))))
  refine m_in (fun c c2 => ?_) (fun c => ?_)
  · rw [p_nil]
    refine br_f ((by decide)) ?_
    refine Exists.intro [0, 1, 2, 3, 4, 5, 6, 7, 8, 9, 10, 11, 12, 13, 14, 15, 16, 17, 18] (Exists.intro [.ref 0, .int y] (Exists.intro ((mw (nI H) (nI R) dy (nI S) (nI L) po rh rr (nI S8) (nI S2) kd th mc wn sd sp st tx rk rt rm2 rw2 row past pu pin rows kept)) (Exists.intro 0 (Exists.intro 0 (And.intro ⟨rfl, rfl, Nat.le_of_ble_eq_true rfl, rfl, rfl, rfl, ⟨0, _, rfl, rfl⟩⟩ (And.intro (Nat.le_refl _) (And.intro (Nat.le_refl _) ?_)))))))
    refine m_isHouse h6 h0 (fun c3 => ?_) (fun c3 => ?_)
    · rw [q_all rfl]
      refine br_f ((by decide)) ?_
      refine Exists.intro [0, 1, 2, 3, 4, 5, 6, 7, 8, 9, 10, 11, 12, 13, 14, 15, 16, 17, 18] (Exists.intro [.ref 0, .int v] (Exists.intro ((mw (nI H) (nI R) dy (nI S) (nI L) po rh rr (nI S8) (nI S2) kd th mc wn sd sp st tx rk rt rm2 rw2 row past pu pin rows kept)) (Exists.intro 0 (Exists.intro 0 (And.intro ⟨rfl, rfl, Nat.le_of_ble_eq_true rfl, rfl, rfl, rfl, ⟨0, _, rfl, rfl⟩⟩ (And.intro (Nat.le_refl _) (And.intro (Nat.le_refl _) ?_)))))))
      refine m_isRoom h5 h1 (fun c4 => ?_) (fun c4 => ?_)
      · rw [q_all rfl]
        refine br_f ((by decide)) ?_
        refine Exists.intro [] (Exists.intro [.int w, .int 0, .int 9] (Exists.intro ([]) (Exists.intro 0 (Exists.intro 0 (And.intro ⟨rfl, rfl, Nat.le_of_ble_eq_true rfl, rfl, rfl, rfl, trivial⟩ (And.intro (Nat.le_refl _) (And.intro (Nat.le_refl _) ?_)))))))
        refine m_in (fun c5 c6 => ?_) (fun c5 => ?_)
        · rw [p_nil]
          refine br_f ((by decide)) ?_
          refine br_c (fun c7 => ?_) (fun c7 => ?_)
          · have := (nI_eq (b := 6) (by omega) (by omega)).mp c7
            exact fin0 (hU ⟨c, c2⟩ c3 c4 ⟨c5, c6⟩ (by omega))
          · have hp : S < 6 := by
              rcases Nat.lt_or_ge S 6 with h | h
              · exact h
              · exact absurd (show nI S = 6 by rw [show S = 6 by omega]; rfl) c7
            obtain ⟨a, ha, rfl⟩ := inR_of c3 (by omega)
            obtain ⟨b, hb, rfl⟩ := inR_of c4 (by omega)
            have hq := hT a b ha hb ⟨c, c2⟩ rfl rfl ⟨c5, c6⟩ hp
            rw [nI_succ, ← j5] at hq
            refine Exists.intro (S) (And.intro (rfl) (And.intro ⟨by omega, by omega⟩ ?_))
            refine Exists.intro (S) (And.intro (rfl) (And.intro ⟨by omega, by omega⟩ ?_))
            refine Exists.intro (S) (And.intro (rfl) (And.intro ⟨by omega, by omega⟩ ?_))
            exact fin0 (hq)
        · rw [p_nil]
          refine br_t ((rfl)) ?_
          exact fin0 (hF (fun z => c5 z.2.2.2))
      · rw [q_all rfl]
        refine br_t ((rfl)) ?_
        exact fin0 (hF (fun z => c4 z.2.2.1))
    · rw [q_all rfl]
      refine br_t ((rfl)) ?_
      exact fin0 (hF (fun z => c3 z.2.1))
  · rw [p_nil]
    refine br_t ((rfl)) ?_
    exact fin0 (hF (fun z => c z.1))
theorem y_forget (hQ : Q (some (.int (nI S))) (mw (nI H) (nI R) dy 0 (nI L) po rh rr (nI S8) (nI S2) kd th mc wn sd sp st tx rk rt rm2 rw2 row past pu pin rows kept)) : callok (d + 1) 168 0 0 [.ref 0] (mw (nI H) (nI R) dy (nI S) (nI L) po rh rr (nI S8) (nI S2) kd th mc wn sd sp st tx rk rt rm2 rw2 row past pu pin rows kept) Q := by
  refine beg rfl (gs [] ?_)
  exact fin0 (hQ)

end MG
