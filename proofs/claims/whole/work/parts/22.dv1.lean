theorem p_nil (h : List aC) (f : aC → aC) : put h [] (([] : List aC).map f) = h := List.append_nil h
/-! DOLLSVOTE: its methods over the world of 72 cells; what is scratch comes back as it may -/
section DV
variable {d : Nat} {kd th wi tx : Nat → Int32} {dy : Int32} {H R M L S8 S2 S a b n : Nat} {x y v w u : Int32} {T1 T3 T0 : NV} {g8 g2 : Nat → Option Nat} {P8 P2 : Nat → NV} {dys hos rms ths mby vby : Nat → Int32} {Q : Option Value → List aC → Prop}
theorem x_write (hL : L ≤ 200) (hB : ¬ (¬ x < 32 ∧ ¬ 126 < x) → Q (some (.int (-1))) (xw tx (nI L) (kd, th, wi, nI H, nI R, nI M, dy) T1 g8 (nI S8) P8 g2 (nI S2) P2 dys hos rms ths (nI S) T3 mby vby T0)) (hT : L < 200 → Q (some (.int (nI (L + 1)))) (xw (upd tx L x) (nI (L + 1)) (kd, th, wi, nI H, nI R, nI M, dy) T1 g8 (nI S8) P8 g2 (nI S2) P2 dys hos rms ths (nI S) T3 mby vby T0)) (hF : ¬ L < 200 → Q (some (.int (-3))) (xw tx (nI L) (kd, th, wi, nI H, nI R, nI M, dy) T1 g8 (nI S8) P8 g2 (nI S2) P2 dys hos rms ths (nI S) T3 mby vby T0)) : callok (d + 2) 80 0 0 [.ref 0, .int x] (xw tx (nI L) (kd, th, wi, nI H, nI R, nI M, dy) T1 g8 (nI S8) P8 g2 (nI S2) P2 dys hos rms ths (nI S) T3 mby vby T0) Q := by
  refine beg rfl (gs [] ?_)
  refine Exists.intro [] (Exists.intro [.int x, .int 32, .int 126] (Exists.intro ([]) (Exists.intro 0 (Exists.intro 0 (And.intro ⟨rfl, rfl, Nat.le_of_ble_eq_true rfl, rfl, rfl, rfl, trivial⟩ (And.intro (Nat.le_refl _) (And.intro (Nat.le_refl _) ?_)))))))
  refine t_within (fun c c2 => ?_) (fun c => ?_)
  · rw [p_nil]
    refine br_f ((by decide)) ?_
    refine Exists.intro [1, 2] (Exists.intro [.ref 0, .int x] (Exists.intro (lw tx (nI L)) (Exists.intro 0 (Exists.intro 0 (And.intro ⟨rfl, rfl, Nat.le_of_ble_eq_true rfl, rfl, rfl, rfl, ⟨0, _, rfl, rfl⟩⟩ (And.intro (Nat.le_refl _) (And.intro (Nat.le_refl _) ?_)))))))
    refine t_append hL (fun c3 => ?_) (fun c3 => ?_)
    · rw [p_tx (upd tx L x) (nI (L + 1))]
      refine br_f ((by decide)) ?_
      refine Exists.intro [1, 2] (Exists.intro [.ref 0] (Exists.intro (lw (upd tx L x) (nI (L + 1))) (Exists.intro 0 (Exists.intro 0 (And.intro ⟨rfl, rfl, Nat.le_of_ble_eq_true rfl, rfl, rfl, rfl, ⟨0, _, rfl, rfl⟩⟩ (And.intro (Nat.le_refl _) (And.intro (Nat.le_refl _) ?_)))))))
      refine t_llen ?_
      rw [p_tx (upd tx L x) (nI (L + 1))]
      exact fin0 (hT c3)
    · rw [p_tx tx (nI L)]
      refine br_t ((rfl)) ?_
      exact fin0 (hF c3)
  · rw [p_nil]
    refine br_t ((rfl)) ?_
    exact fin0 (hB c)
theorem x_wipe (hQ : Q (some (.int (nI L))) (xw tx 0 (kd, th, wi, nI H, nI R, nI M, dy) T1 g8 (nI S8) P8 g2 (nI S2) P2 dys hos rms ths (nI S) T3 mby vby T0)) : callok (d + 2) 81 0 0 [.ref 0] (xw tx (nI L) (kd, th, wi, nI H, nI R, nI M, dy) T1 g8 (nI S8) P8 g2 (nI S2) P2 dys hos rms ths (nI S) T3 mby vby T0) Q := by
  refine beg rfl (gs [] ?_)
  refine Exists.intro [1, 2] (Exists.intro [.ref 0] (Exists.intro (lw tx (nI L)) (Exists.intro 0 (Exists.intro 0 (And.intro ⟨rfl, rfl, Nat.le_of_ble_eq_true rfl, rfl, rfl, rfl, ⟨0, _, rfl, rfl⟩⟩ (And.intro (Nat.le_refl _) (And.intro (Nat.le_refl _) ?_)))))))
  refine t_llen ?_
  rw [p_tx tx (nI L)]
  refine Exists.intro [1, 2] (Exists.intro [.ref 0] (Exists.intro (lw tx (nI L)) (Exists.intro 0 (Exists.intro 0 (And.intro ⟨rfl, rfl, Nat.le_of_ble_eq_true rfl, rfl, rfl, rfl, ⟨0, _, rfl, rfl⟩⟩ (And.intro (Nat.le_refl _) (And.intro (Nat.le_refl _) ?_)))))))
  refine t_lclear ?_
  rw [p_tx tx 0]
  exact fin0 (hQ)
theorem x_fault (hL : L ≤ 200) (hQ : ∀ T1 : NV, Q (some (.int (rdG tx L 200 0 (T1.1, T1.2.1, fun _ => 10, 0, 0, 0)).1)) (xw tx (nI L) (kd, th, wi, nI H, nI R, nI M, dy) T1 g8 (nI S8) P8 g2 (nI S2) P2 dys hos rms ths (nI S) T3 mby vby T0)) (hq : ∀ T1 T1' : NV, (rdG tx L 200 0 (T1.1, T1.2.1, fun _ => 10, 0, 0, 0)).1 = (rdG tx L 200 0 (T1'.1, T1'.2.1, fun _ => 10, 0, 0, 0)).1) : callok (d + 7) 82 0 0 [.ref 0] (xw tx (nI L) (kd, th, wi, nI H, nI R, nI M, dy) T1 g8 (nI S8) P8 g2 (nI S2) P2 dys hos rms ths (nI S) T3 mby vby T0) Q := by
  refine beg rfl (gs [] ?_)
  refine Exists.intro [1, 2, 7, 8, 9, 10] (Exists.intro [.ref 0, .ref 2] (Exists.intro (lw tx (nI L) ++ nv 2 T1) (Exists.intro 0 (Exists.intro 0 (And.intro ⟨rfl, rfl, Nat.le_of_ble_eq_true rfl, rfl, rfl, rfl, ⟨0, _, rfl, rfl⟩⟩ (And.intro (Nat.le_refl _) (And.intro (Nat.le_refl _) ?_)))))))
  refine t_readInto hL ?_
  rw [p_txtr tx (nI L) ((rdG tx L 200 0 (T1.1, T1.2.1, fun _ => 10, 0, 0, 0)).2.1, (rdG tx L 200 0 (T1.1, T1.2.1, fun _ => 10, 0, 0, 0)).2.2.1, (rdG tx L 200 0 (T1.1, T1.2.1, fun _ => 10, 0, 0, 0)).2.2.2.1, nI (rdG tx L 200 0 (T1.1, T1.2.1, fun _ => 10, 0, 0, 0)).2.2.2.2.1, nI (rdG tx L 200 0 (T1.1, T1.2.1, fun _ => 10, 0, 0, 0)).2.2.2.2.2.1, nI (rdG tx L 200 0 (T1.1, T1.2.1, fun _ => 10, 0, 0, 0)).2.2.2.2.2.2, 0)]
  rw [hq T1 _]
  exact fin0 (hQ _)
theorem x_room (hH : H ≤ 6) (hR : R ≤ 5) (hT : ∀ a b, a < H → b < R → x = nI a → y = nI b → Q (some (.int (th (5 * a + b)))) (xw tx (nI L) (kd, th, wi, nI H, nI R, nI M, dy) T1 g8 (nI S8) P8 g2 (nI S2) P2 dys hos rms ths (nI S) T3 mby vby T0)) (hF : ¬ (inR x H ∧ inR y R) → Q (some (.int (-1))) (xw tx (nI L) (kd, th, wi, nI H, nI R, nI M, dy) T1 g8 (nI S8) P8 g2 (nI S2) P2 dys hos rms ths (nI S) T3 mby vby T0)) : callok (d + 2) 84 0 0 [.ref 0, .int x, .int y] (xw tx (nI L) (kd, th, wi, nI H, nI R, nI M, dy) T1 g8 (nI S8) P8 g2 (nI S2) P2 dys hos rms ths (nI S) T3 mby vby T0) Q := by
  refine beg rfl (gs [] ?_)
  refine Exists.intro [3, 4, 5, 6] (Exists.intro [.ref 0, .int x] (Exists.intro (nc 0 kd th wi (nI H) (nI R) (nI M) dy) (Exists.intro 0 (Exists.intro 0 (And.intro ⟨rfl, rfl, Nat.le_of_ble_eq_true rfl, rfl, rfl, rfl, ⟨0, _, rfl, rfl⟩⟩ (And.intro (Nat.le_refl _) (And.intro (Nat.le_refl _) ?_)))))))
  refine t_hasHouse (fun c => ?_) (fun c => ?_)
  · rw [p_nw (kd, th, wi, nI H, nI R, nI M, dy)]
    refine br_f ((by decide)) ?_
    refine Exists.intro [3, 4, 5, 6] (Exists.intro [.ref 0, .int y] (Exists.intro (nc 0 kd th wi (nI H) (nI R) (nI M) dy) (Exists.intro 0 (Exists.intro 0 (And.intro ⟨rfl, rfl, Nat.le_of_ble_eq_true rfl, rfl, rfl, rfl, ⟨0, _, rfl, rfl⟩⟩ (And.intro (Nat.le_refl _) (And.intro (Nat.le_refl _) ?_)))))))
    refine t_hasRoom (fun c2 => ?_) (fun c2 => ?_)
    · rw [p_nw (kd, th, wi, nI H, nI R, nI M, dy)]
      obtain ⟨a, ha, rfl⟩ := inR_of c (by omega)
      obtain ⟨b, hb, rfl⟩ := inR_of c2 (by omega)
      refine br_f ((by decide)) ?_
      refine Exists.intro [3, 4, 5, 6] (Exists.intro [.ref 0, .int (nI a), .int (nI b)] (Exists.intro (nc 0 kd th wi (nI H) (nI R) (nI M) dy) (Exists.intro 0 (Exists.intro 0 (And.intro ⟨rfl, rfl, Nat.le_of_ble_eq_true rfl, rfl, rfl, rfl, ⟨0, _, rfl, rfl⟩⟩ (And.intro (Nat.le_refl _) (And.intro (Nat.le_refl _) ?_)))))))
      refine t_thing rfl rfl (by omega) (by omega) ?_
      rw [p_nw (kd, th, wi, nI H, nI R, nI M, dy)]
      exact fin0 (hT a b ha hb rfl rfl)
    · rw [p_nw (kd, th, wi, nI H, nI R, nI M, dy)]
      refine br_t ((rfl)) ?_
      exact fin0 (hF (fun z => c2 z.2))
  · rw [p_nw (kd, th, wi, nI H, nI R, nI M, dy)]
    refine br_t ((rfl)) ?_
    exact fin0 (hF (fun z => c z.1))
theorem x_house (hH : H ≤ 6) (hM : M < 64) (h0 : ∀ a, a < H → x = nI a → y = 0 → Q (some (.int (kd a))) (xw tx (nI L) (kd, th, wi, nI H, nI R, nI M, dy) T1 g8 (nI S8) P8 g2 (nI S2) P2 dys hos rms ths (nI S) T3 mby vby T0)) (h1 : ∀ a, a < H → x = nI a → y = 1 → Q (some (.int (if M.testBit a = true then 1 else 0))) (xw tx (nI L) (kd, th, wi, nI H, nI R, nI M, dy) T1 g8 (nI S8) P8 g2 (nI S2) P2 dys hos rms ths (nI S) T3 mby vby T0)) (hF : ¬ (inR x H ∧ ¬ y < 0 ∧ ¬ 1 < y) → Q (some (.int (-1))) (xw tx (nI L) (kd, th, wi, nI H, nI R, nI M, dy) T1 g8 (nI S8) P8 g2 (nI S2) P2 dys hos rms ths (nI S) T3 mby vby T0)) : callok (d + 3) 85 0 0 [.ref 0, .int x, .int y] (xw tx (nI L) (kd, th, wi, nI H, nI R, nI M, dy) T1 g8 (nI S8) P8 g2 (nI S2) P2 dys hos rms ths (nI S) T3 mby vby T0) Q := by
  refine beg rfl (gs [] ?_)
  refine Exists.intro [3, 4, 5, 6] (Exists.intro [.ref 0, .int x] (Exists.intro (nc 0 kd th wi (nI H) (nI R) (nI M) dy) (Exists.intro 0 (Exists.intro 0 (And.intro ⟨rfl, rfl, Nat.le_of_ble_eq_true rfl, rfl, rfl, rfl, ⟨0, _, rfl, rfl⟩⟩ (And.intro (Nat.le_refl _) (And.intro (Nat.le_refl _) ?_)))))))
  refine t_hasHouse (fun c => ?_) (fun c => ?_)
  · rw [p_nw (kd, th, wi, nI H, nI R, nI M, dy)]
    refine br_f ((by decide)) ?_
    refine Exists.intro [] (Exists.intro [.int y, .int 0, .int 1] (Exists.intro ([]) (Exists.intro 0 (Exists.intro 0 (And.intro ⟨rfl, rfl, Nat.le_of_ble_eq_true rfl, rfl, rfl, rfl, trivial⟩ (And.intro (Nat.le_refl _) (And.intro (Nat.le_refl _) ?_)))))))
    refine t_within (fun c2 c3 => ?_) (fun c2 => ?_)
    · rw [p_nil]
      obtain ⟨a, ha, rfl⟩ := inR_of c (by omega)
      refine br_f ((by decide)) ?_
      refine br_c (fun c4 => ?_) (fun c4 => ?_)
      · refine Exists.intro [3, 4, 5, 6] (Exists.intro [.ref 0, .int (nI a)] (Exists.intro (nc 0 kd th wi (nI H) (nI R) (nI M) dy) (Exists.intro 0 (Exists.intro 0 (And.intro ⟨rfl, rfl, Nat.le_of_ble_eq_true rfl, rfl, rfl, rfl, ⟨0, _, rfl, rfl⟩⟩ (And.intro (Nat.le_refl _) (And.intro (Nat.le_refl _) ?_)))))))
        refine t_kind rfl ha hH ?_
        rw [p_nw (kd, th, wi, nI H, nI R, nI M, dy)]
        exact fin0 (h0 a ha rfl c4)
      · have hy : y = 1 := by
          obtain ⟨j, hj, rfl⟩ := nI_of2 (M := 1) (n := 1) rfl c2 (Int32.not_lt.mp c3)
          rcases (by omega : j = 0 ∨ j = 1) with rfl | rfl
          · exact absurd rfl c4
          · rfl
        have hq := h1 a ha rfl hy
        refine Exists.intro [3, 4, 5, 6] (Exists.intro [.ref 0, .int (nI a)] (Exists.intro (nc 0 kd th wi (nI H) (nI R) (nI M) dy) (Exists.intro 0 (Exists.intro 0 (And.intro ⟨rfl, rfl, Nat.le_of_ble_eq_true rfl, rfl, rfl, rfl, ⟨0, _, rfl, rfl⟩⟩ (And.intro (Nat.le_refl _) (And.intro (Nat.le_refl _) ?_)))))))
        refine t_hasMouse rfl (by omega) hM (fun c5 => ?_) (fun c5 => ?_)
        · rw [if_pos c5] at hq
          rw [p_nw (kd, th, wi, nI H, nI R, nI M, dy)]
          refine br_f ((by decide)) ?_
          exact fin0 (hq)
        · rw [if_neg c5] at hq
          rw [p_nw (kd, th, wi, nI H, nI R, nI M, dy)]
          refine br_t ((rfl)) ?_
          exact fin0 (hq)
    · rw [p_nil]
      refine br_t ((rfl)) ?_
      exact fin0 (hF (fun z => c2 z.2))
  · rw [p_nw (kd, th, wi, nI H, nI R, nI M, dy)]
    refine br_t ((rfl)) ?_
    exact fin0 (hF (fun z => c z.1))
theorem x_wanted (hR : R ≤ 5) (hT : ∀ a, a < R → x = nI a → Q (some (.int (if wi a = 10 then -4 else wi a))) (xw tx (nI L) (kd, th, wi, nI H, nI R, nI M, dy) T1 g8 (nI S8) P8 g2 (nI S2) P2 dys hos rms ths (nI S) T3 mby vby T0)) (hF : ¬ inR x R → Q (some (.int (-1))) (xw tx (nI L) (kd, th, wi, nI H, nI R, nI M, dy) T1 g8 (nI S8) P8 g2 (nI S2) P2 dys hos rms ths (nI S) T3 mby vby T0)) : callok (d + 3) 86 0 0 [.ref 0, .int x] (xw tx (nI L) (kd, th, wi, nI H, nI R, nI M, dy) T1 g8 (nI S8) P8 g2 (nI S2) P2 dys hos rms ths (nI S) T3 mby vby T0) Q := by
  refine beg rfl (gs [] ?_)
  refine Exists.intro [3, 4, 5, 6] (Exists.intro [.ref 0, .int x] (Exists.intro (nc 0 kd th wi (nI H) (nI R) (nI M) dy) (Exists.intro 0 (Exists.intro 0 (And.intro ⟨rfl, rfl, Nat.le_of_ble_eq_true rfl, rfl, rfl, rfl, ⟨0, _, rfl, rfl⟩⟩ (And.intro (Nat.le_refl _) (And.intro (Nat.le_refl _) ?_)))))))
  refine t_hasRoom (fun c => ?_) (fun c => ?_)
  · rw [p_nw (kd, th, wi, nI H, nI R, nI M, dy)]
    obtain ⟨a, ha, rfl⟩ := inR_of c (by omega)
    refine br_f ((by decide)) ?_
    refine Exists.intro [3, 4, 5, 6] (Exists.intro [.ref 0, .int (nI a)] (Exists.intro (nc 0 kd th wi (nI H) (nI R) (nI M) dy) (Exists.intro 0 (Exists.intro 0 (And.intro ⟨rfl, rfl, Nat.le_of_ble_eq_true rfl, rfl, rfl, rfl, ⟨0, _, rfl, rfl⟩⟩ (And.intro (Nat.le_refl _) (And.intro (Nat.le_refl _) ?_)))))))
    refine t_wish rfl ha hR ?_
    rw [p_nw (kd, th, wi, nI H, nI R, nI M, dy)]
    refine Exists.intro [] (Exists.intro [.int (wi a)] (Exists.intro ([]) (Exists.intro 0 (Exists.intro 0 (And.intro ⟨rfl, rfl, Nat.le_of_ble_eq_true rfl, rfl, rfl, rfl, trivial⟩ (And.intro (Nat.le_refl _) (And.intro (Nat.le_refl _) ?_)))))))
    refine t_orNone ?_
    rw [p_nil]
    exact fin0 (hT a ha rfl)
  · rw [p_nw (kd, th, wi, nI H, nI R, nI M, dy)]
    refine br_t ((rfl)) ?_
    exact fin0 (hF c)
theorem x_behind (hH : H ≤ 6) (hR : R ≤ 5) (h0 : 0 < H) (hM : M < 64) (hT : ∀ n a b, n ≤ 40 → a < H → b < R → x = nI n → y = nI a → v = nI b → ∀ T3, Q (some (.int (itT kd M H R n th (5 * a + b)))) (xw tx (nI L) (kd, th, wi, nI H, nI R, nI M, dy) T1 g8 (nI S8) P8 g2 (nI S2) P2 dys hos rms ths (nI S) T3 mby vby T0)) (hF : ¬ ((¬ x < 0 ∧ ¬ 40 < x) ∧ inR y H ∧ inR v R) → Q (some (.int (-1))) (xw tx (nI L) (kd, th, wi, nI H, nI R, nI M, dy) T1 g8 (nI S8) P8 g2 (nI S2) P2 dys hos rms ths (nI S) T3 mby vby T0)) : callok (d + 7) 94 0 0 [.ref 0, .int x, .int y, .int v] (xw tx (nI L) (kd, th, wi, nI H, nI R, nI M, dy) T1 g8 (nI S8) P8 g2 (nI S2) P2 dys hos rms ths (nI S) T3 mby vby T0) Q := by
  refine beg rfl (gs [] ?_)
  refine Exists.intro [] (Exists.intro [.int x, .int 0, .int 40] (Exists.intro ([]) (Exists.intro 0 (Exists.intro 0 (And.intro ⟨rfl, rfl, Nat.le_of_ble_eq_true rfl, rfl, rfl, rfl, trivial⟩ (And.intro (Nat.le_refl _) (And.intro (Nat.le_refl _) ?_)))))))
  refine t_within (fun c c2 => ?_) (fun c => ?_)
  · rw [p_nil]
    refine br_f ((by decide)) ?_
    refine Exists.intro [3, 4, 5, 6] (Exists.intro [.ref 0, .int y] (Exists.intro (nc 0 kd th wi (nI H) (nI R) (nI M) dy) (Exists.intro 0 (Exists.intro 0 (And.intro ⟨rfl, rfl, Nat.le_of_ble_eq_true rfl, rfl, rfl, rfl, ⟨0, _, rfl, rfl⟩⟩ (And.intro (Nat.le_refl _) (And.intro (Nat.le_refl _) ?_)))))))
    refine t_hasHouse (fun c3 => ?_) (fun c3 => ?_)
    · rw [p_nw (kd, th, wi, nI H, nI R, nI M, dy)]
      refine br_f ((by decide)) ?_
      refine Exists.intro [3, 4, 5, 6] (Exists.intro [.ref 0, .int v] (Exists.intro (nc 0 kd th wi (nI H) (nI R) (nI M) dy) (Exists.intro 0 (Exists.intro 0 (And.intro ⟨rfl, rfl, Nat.le_of_ble_eq_true rfl, rfl, rfl, rfl, ⟨0, _, rfl, rfl⟩⟩ (And.intro (Nat.le_refl _) (And.intro (Nat.le_refl _) ?_)))))))
      refine t_hasRoom (fun c4 => ?_) (fun c4 => ?_)
      · rw [p_nw (kd, th, wi, nI H, nI R, nI M, dy)]
        refine br_f ((by decide)) ?_
        obtain ⟨n, hn, rfl⟩ := nI_of2 (M := 40) (n := 40) rfl c (Int32.not_lt.mp c2)
        obtain ⟨a, ha, rfl⟩ := inR_of c3 (by omega)
        obtain ⟨b, hb, rfl⟩ := inR_of c4 (by omega)
        refine Exists.intro [60, 61, 62, 63, 64, 65, 66, 3, 4, 5, 6] (Exists.intro [.ref 0, .ref 7, .int (nI n), .int (nI a), .int (nI b)] (Exists.intro (ow T3 mby vby (kd, th, wi, nI H, nI R, nI M, dy)) (Exists.intro 0 (Exists.intro 0 (And.intro ⟨rfl, rfl, Nat.le_of_ble_eq_true rfl, rfl, rfl, rfl, ⟨0, _, rfl, rfl⟩⟩ (And.intro (Nat.le_refl _) (And.intro (Nat.le_refl _) ?_)))))))
        refine t_thingBehind rfl rfl rfl (by omega) (by omega) (by omega) hM h0 hH hR (fun T3 => ?_)
        rw [p_ounw T3 mby vby (kd, th, wi, nI H, nI R, nI M, dy)]
        exact fin0 (hT n a b hn ha hb rfl rfl rfl T3)
      · rw [p_nw (kd, th, wi, nI H, nI R, nI M, dy)]
        refine br_t ((rfl)) ?_
        exact fin0 (hF (fun z => c4 z.2.2))
    · rw [p_nw (kd, th, wi, nI H, nI R, nI M, dy)]
      refine br_t ((rfl)) ?_
      exact fin0 (hF (fun z => c3 z.2.1))
  · rw [p_nil]
    refine br_t ((rfl)) ?_
    exact fin0 (hF (fun z => c z.1))
theorem x_when (hH : H ≤ 6) (hR : R ≤ 5) (h0 : 0 < H) (hM : M < 64) (hT : ∀ b, b < R → x = nI b → (¬ y < 0 ∧ ¬ 9 < y) → ∀ T3, Q (some (.int (fdG kd M H R b y 41 0 th))) (xw tx (nI L) (kd, th, wi, nI H, nI R, nI M, dy) T1 g8 (nI S8) P8 g2 (nI S2) P2 dys hos rms ths (nI S) T3 mby vby T0)) (hF : ¬ (inR x R ∧ ¬ y < 0 ∧ ¬ 9 < y) → Q (some (.int (-1))) (xw tx (nI L) (kd, th, wi, nI H, nI R, nI M, dy) T1 g8 (nI S8) P8 g2 (nI S2) P2 dys hos rms ths (nI S) T3 mby vby T0)) : callok (d + 6) 95 0 0 [.ref 0, .int x, .int y] (xw tx (nI L) (kd, th, wi, nI H, nI R, nI M, dy) T1 g8 (nI S8) P8 g2 (nI S2) P2 dys hos rms ths (nI S) T3 mby vby T0) Q := by
  refine beg rfl (gs [] ?_)
  refine Exists.intro [3, 4, 5, 6] (Exists.intro [.ref 0, .int x] (Exists.intro (nc 0 kd th wi (nI H) (nI R) (nI M) dy) (Exists.intro 0 (Exists.intro 0 (And.intro ⟨rfl, rfl, Nat.le_of_ble_eq_true rfl, rfl, rfl, rfl, ⟨0, _, rfl, rfl⟩⟩ (And.intro (Nat.le_refl _) (And.intro (Nat.le_refl _) ?_)))))))
  refine t_hasRoom (fun c => ?_) (fun c => ?_)
  · rw [p_nw (kd, th, wi, nI H, nI R, nI M, dy)]
    refine br_f ((by decide)) ?_
    refine Exists.intro [] (Exists.intro [.int y] (Exists.intro ([]) (Exists.intro 0 (Exists.intro 0 (And.intro ⟨rfl, rfl, Nat.le_of_ble_eq_true rfl, rfl, rfl, rfl, trivial⟩ (And.intro (Nat.le_refl _) (And.intro (Nat.le_refl _) ?_)))))))
    refine t_isThing (fun c2 c3 => ?_) (fun c2 => ?_)
    · rw [p_nil]
      refine br_f ((by decide)) ?_
      obtain ⟨b, hb, rfl⟩ := inR_of c (by omega)
      refine Exists.intro [60, 61, 62, 63, 64, 65, 66, 3, 4, 5, 6] (Exists.intro [.ref 0, .ref 7, .int (nI b), .int y] (Exists.intro (ow T3 mby vby (kd, th, wi, nI H, nI R, nI M, dy)) (Exists.intro 0 (Exists.intro 0 (And.intro ⟨rfl, rfl, Nat.le_of_ble_eq_true rfl, rfl, rfl, rfl, ⟨0, _, rfl, rfl⟩⟩ (And.intro (Nat.le_refl _) (And.intro (Nat.le_refl _) ?_)))))))
      refine t_firstDayOf rfl (by omega) hM h0 hH hR (fun T3 => ?_)
      rw [p_ounw T3 mby vby (kd, th, wi, nI H, nI R, nI M, dy)]
      exact fin0 (hT b hb rfl ⟨c2, c3⟩ T3)
    · rw [p_nil]
      refine br_t ((rfl)) ?_
      exact fin0 (hF (fun z => c2 z.2))
  · rw [p_nw (kd, th, wi, nI H, nI R, nI M, dy)]
    refine br_t ((rfl)) ?_
    exact fin0 (hF (fun z => c z.1))
theorem x_rest (hH : H ≤ 6) (hR : R ≤ 5) (h0 : 0 < H) (hM : M < 64) (hQ : ∀ T3, Q (some (.int (fqG kd M H R 41 0 th))) (xw tx (nI L) (kd, th, wi, nI H, nI R, nI M, dy) T1 g8 (nI S8) P8 g2 (nI S2) P2 dys hos rms ths (nI S) T3 mby vby T0)) : callok (d + 6) 96 0 0 [.ref 0] (xw tx (nI L) (kd, th, wi, nI H, nI R, nI M, dy) T1 g8 (nI S8) P8 g2 (nI S2) P2 dys hos rms ths (nI S) T3 mby vby T0) Q := by
  refine beg rfl (gs [] ?_)
  refine Exists.intro [60, 61, 62, 63, 64, 65, 66, 3, 4, 5, 6] (Exists.intro [.ref 0, .ref 7] (Exists.intro (ow T3 mby vby (kd, th, wi, nI H, nI R, nI M, dy)) (Exists.intro 0 (Exists.intro 0 (And.intro ⟨rfl, rfl, Nat.le_of_ble_eq_true rfl, rfl, rfl, rfl, ⟨0, _, rfl, rfl⟩⟩ (And.intro (Nat.le_refl _) (And.intro (Nat.le_refl _) ?_)))))))
  refine t_firstQuietDay hM h0 hH hR (fun T3 => ?_)
  rw [p_ounw T3 mby vby (kd, th, wi, nI H, nI R, nI M, dy)]
  exact fin0 (hQ T3)
theorem x_met (hH : H ≤ 6) (hR : R ≤ 5) (h0 : 0 < H) (hM : M < 64) (hT : ∀ n, n ≤ 40 → x = nI n → ∀ T3, Q (some (.int (nI (metN wi (itT kd M H R n th) R)))) (xw tx (nI L) (kd, th, wi, nI H, nI R, nI M, dy) T1 g8 (nI S8) P8 g2 (nI S2) P2 dys hos rms ths (nI S) T3 mby vby T0)) (hF : ¬ (¬ x < 0 ∧ ¬ 40 < x) → Q (some (.int (-1))) (xw tx (nI L) (kd, th, wi, nI H, nI R, nI M, dy) T1 g8 (nI S8) P8 g2 (nI S2) P2 dys hos rms ths (nI S) T3 mby vby T0)) : callok (d + 7) 97 0 0 [.ref 0, .int x] (xw tx (nI L) (kd, th, wi, nI H, nI R, nI M, dy) T1 g8 (nI S8) P8 g2 (nI S2) P2 dys hos rms ths (nI S) T3 mby vby T0) Q := by
  refine beg rfl (gs [] ?_)
  refine Exists.intro [] (Exists.intro [.int x, .int 0, .int 40] (Exists.intro ([]) (Exists.intro 0 (Exists.intro 0 (And.intro ⟨rfl, rfl, Nat.le_of_ble_eq_true rfl, rfl, rfl, rfl, trivial⟩ (And.intro (Nat.le_refl _) (And.intro (Nat.le_refl _) ?_)))))))
  refine t_within (fun c c2 => ?_) (fun c => ?_)
  · rw [p_nil]
    refine br_f ((by decide)) ?_
    obtain ⟨n, hn, rfl⟩ := nI_of2 (M := 40) (n := 40) rfl c (Int32.not_lt.mp c2)
    refine Exists.intro [60, 61, 62, 63, 64, 65, 66, 3, 4, 5, 6] (Exists.intro [.ref 0, .ref 7, .int (nI n)] (Exists.intro (ow T3 mby vby (kd, th, wi, nI H, nI R, nI M, dy)) (Exists.intro 0 (Exists.intro 0 (And.intro ⟨rfl, rfl, Nat.le_of_ble_eq_true rfl, rfl, rfl, rfl, ⟨0, _, rfl, rfl⟩⟩ (And.intro (Nat.le_refl _) (And.intro (Nat.le_refl _) ?_)))))))
    refine t_metBehind rfl (by omega) hM h0 hH hR (fun T3 => ?_)
    rw [p_ounw T3 mby vby (kd, th, wi, nI H, nI R, nI M, dy)]
    exact fin0 (hT n hn rfl T3)
  · rw [p_nil]
    refine br_t ((rfl)) ?_
    exact fin0 (hF c)

end DV
