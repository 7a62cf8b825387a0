/-! DOLLSVOTE: what was seen, chances, centuries -/
def btN (c : Nat → Bool) : Nat → Nat
  | 0 => 0
  | k + 1 => if c k = true then btN c k + 2 ^ k else btN c k
theorem btN_lt {c : Nat → Bool} : ∀ k, btN c k < 2 ^ k
  | 0 => Nat.zero_lt_one
  | k + 1 => by
    have := btN_lt (c := c) k
    rw [btN, Nat.pow_succ]
    split <;> omega
def lkR (u A B : Int32) : Int32 := if 0 < cdG 64 B A then (if u = 0 then A else B) / cdG 64 B A else (if u = 0 then A else B)
section DZ
variable {d : Nat} {kd th wi tx : Nat → Int32} {dy : Int32} {H R M L S8 S2 S a b n : Nat} {x y v w u : Int32} {T1 T3 T0 N : NV} {p8 p2 p : Nat → Nat} {P8 P2 P : Nat → NV} {ths mby vby : Nat → Int32} {sd sh sr : Nat → Nat} {c : Nat → Bool} {Q : Option Value → List aC → Prop}
theorem x_kinds (hM : M < 64) (h0 : 0 < H) (hH : H ≤ 6) (hR : R ≤ 5) (hS : S ≤ 6) (hd : ∀ i, sd i ≤ 20) (hh : ∀ i, i < S → sh i < 6) (hr : ∀ i, i < S → sr i < 5) (hc : ∀ a, a < H → x = nI a → ∀ k, k < 4 → (c k = true ↔ ASO (upd kd a (nI k)) M H R sd sh sr ths S th)) (hT : inR x H → ∀ T1, Q (some (.int (nI (btN c 4)))) (xw tx (nI L) (kd, th, wi, nI H, nI R, nI M, dy) T1 (gP 13 8 p8) (nI S8) P8 (gP 47 2 p2) (nI S2) P2 (fun i => nI (sd i)) (fun i => nI (sh i)) (fun i => nI (sr i)) ths (nI S) T3 mby vby T0)) (hF : ¬ inR x H → Q (some (.int (-1))) (xw tx (nI L) (kd, th, wi, nI H, nI R, nI M, dy) T1 (gP 13 8 p8) (nI S8) P8 (gP 47 2 p2) (nI S2) P2 (fun i => nI (sd i)) (fun i => nI (sh i)) (fun i => nI (sr i)) ths (nI S) T3 mby vby T0)) : callok (d + 6) 103 0 0 [.ref 0, .int x] (xw tx (nI L) (kd, th, wi, nI H, nI R, nI M, dy) T1 (gP 13 8 p8) (nI S8) P8 (gP 47 2 p2) (nI S2) P2 (fun i => nI (sd i)) (fun i => nI (sh i)) (fun i => nI (sr i)) ths (nI S) T3 mby vby T0) Q := by
  refine beg rfl (gs [17] ?_)
  refine Exists.intro [3, 4, 5, 6] (Exists.intro [.ref 0, .int x] (Exists.intro (nc 0 kd th wi (nI H) (nI R) (nI M) dy) (Exists.intro 0 (Exists.intro 0 (And.intro ⟨rfl, rfl, Nat.le_of_ble_eq_true rfl, rfl, rfl, rfl, ⟨0, _, rfl, rfl⟩⟩ (And.intro (Nat.le_refl _) (And.intro (Nat.le_refl _) ?_)))))))
  refine t_hasHouse (fun c1 => ?_) (fun c1 => ?_)
  · rw [p_nw (kd, th, wi, nI H, nI R, nI M, dy)]
    refine br_f ((by decide)) ?_
    have hq := hT c1
    obtain ⟨a, ha, rfl⟩ := inR_of c1 (by omega)
    have hc := hc a ha rfl
    have key : ∀ (f k : Nat) (T : NV), k + f = 4 → wp (0, 0, callok (d + 5)) (mcode 103) (qE 0 0 Q) 17 [some (.ref 0), some (.int (nI a)), some (.int (nI (btN c k))), some (.int (nI k))] [] (xw tx (nI L) (kd, th, wi, nI H, nI R, nI M, dy) T (gP 13 8 p8) (nI S8) P8 (gP 47 2 p2) (nI S2) P2 (fun i => nI (sd i)) (fun i => nI (sh i)) (fun i => nI (sr i)) ths (nI S) T3 mby vby T0) 0 0 := by
      intro f
      induction f with
      | zero =>
        intro k T hk
        obtain rfl : k = 4 := by omega
        refine gs [17] ?_
        refine br_f ((by decide)) ?_
        exact fin0 (hq T)
      | succ f ih =>
        intro k T hk
        refine gs [17] ?_
        refine br_t ((show nI k < (4 : Int32) from nI_lt (b := 4) (by omega) (by omega))) ?_
        refine Exists.intro [7, 8, 9, 10, 3, 4, 5, 6] (Exists.intro [.ref 0, .ref 4] (Exists.intro (nv 0 T ++ nv 4 (kd, th, wi, nI H, nI R, nI M, dy)) (Exists.intro 0 (Exists.intro 0 (And.intro ⟨rfl, rfl, Nat.le_of_ble_eq_true rfl, rfl, rfl, rfl, ⟨0, _, rfl, rfl⟩⟩ (And.intro (Nat.le_refl _) (And.intro (Nat.le_refl _) ?_)))))))
        refine t_become ?_
        rw [p_trnw (kd, th, wi, nI H, nI R, nI M, dy) (kd, th, wi, nI H, nI R, nI M, dy)]
        refine Exists.intro [7, 8, 9, 10] (Exists.intro [.ref 0, .int (nI a), .int (nI k)] (Exists.intro (nv 0 (kd, th, wi, nI H, nI R, nI M, dy)) (Exists.intro 0 (Exists.intro 0 (And.intro ⟨rfl, rfl, Nat.le_of_ble_eq_true rfl, rfl, rfl, rfl, ⟨0, _, rfl, rfl⟩⟩ (And.intro (Nat.le_refl _) (And.intro (Nat.le_refl _) ?_)))))))
        refine t_setKind rfl ha hH ?_
        rw [p_tr (upd kd a (nI k), th, wi, nI H, nI R, nI M, dy)]
        refine Exists.intro [55, 56, 57, 58, 59, 7, 8, 9, 10] (Exists.intro [.ref 0, .ref 5] (Exists.intro (sw (fun i => nI (sd i)) (fun i => nI (sh i)) (fun i => nI (sr i)) ths (nI S) ++ nv 5 (upd kd a (nI k), th, wi, nI H, nI R, nI M, dy)) (Exists.intro 0 (Exists.intro 0 (And.intro ⟨rfl, rfl, Nat.le_of_ble_eq_true rfl, rfl, rfl, rfl, ⟨0, _, rfl, rfl⟩⟩ (And.intro (Nat.le_refl _) (And.intro (Nat.le_refl _) ?_)))))))
        refine t_comeTrueIn hM h0 hH hR hS hd hh hr (fun c3 th' => ?_) (fun c3 th' => ?_)
        · rw [p_sitr (fun i => nI (sd i)) (fun i => nI (sh i)) (fun i => nI (sr i)) ths (nI S) (upd kd a (nI k), th', wi, nI H, nI R, nI M, dy)]
          refine br_f ((by decide)) ?_
          have h9 := ih (k + 1) (upd kd a (nI k), th', wi, nI H, nI R, nI M, dy) (by omega)
          rw [nI_succ, btN, if_pos ((hc k (by omega)).mpr c3), ← bt_or k (by omega) _ (btN_lt k)] at h9
          exact h9
        · rw [p_sitr (fun i => nI (sd i)) (fun i => nI (sh i)) (fun i => nI (sr i)) ths (nI S) (upd kd a (nI k), th', wi, nI H, nI R, nI M, dy)]
          refine br_t ((rfl)) ?_
          have h9 := ih (k + 1) (upd kd a (nI k), th', wi, nI H, nI R, nI M, dy) (by omega)
          rw [nI_succ, btN, if_neg (fun z => c3 ((hc k (by omega)).mp z))] at h9
          exact h9
    exact key 4 0 T1 (by omega)
  · rw [p_nw (kd, th, wi, nI H, nI R, nI M, dy)]
    refine br_t ((rfl)) ?_
    exact fin0 (hF c1)
theorem x_stood (hM : M < 64) (h0 : 0 < H) (hH : H ≤ 6) (hR : R ≤ 5) (hS : S ≤ 6) (hd : ∀ i, sd i ≤ 20) (hh : ∀ i, i < S → sh i < 6) (hr : ∀ i, i < S → sr i < 5) (hc : ∀ b, b < R → x = nI b → ∀ k, k < 10 → (c k = true ↔ ASO kd M H R sd sh sr ths S (upd th (5 * (H - 1) + b) (nI k)))) (hT : inR x R → ∀ T1, Q (some (.int (nI (btN c 10)))) (xw tx (nI L) (kd, th, wi, nI H, nI R, nI M, dy) T1 (gP 13 8 p8) (nI S8) P8 (gP 47 2 p2) (nI S2) P2 (fun i => nI (sd i)) (fun i => nI (sh i)) (fun i => nI (sr i)) ths (nI S) T3 mby vby T0)) (hF : ¬ inR x R → Q (some (.int (-1))) (xw tx (nI L) (kd, th, wi, nI H, nI R, nI M, dy) T1 (gP 13 8 p8) (nI S8) P8 (gP 47 2 p2) (nI S2) P2 (fun i => nI (sd i)) (fun i => nI (sh i)) (fun i => nI (sr i)) ths (nI S) T3 mby vby T0)) : callok (d + 6) 104 0 0 [.ref 0, .int x] (xw tx (nI L) (kd, th, wi, nI H, nI R, nI M, dy) T1 (gP 13 8 p8) (nI S8) P8 (gP 47 2 p2) (nI S2) P2 (fun i => nI (sd i)) (fun i => nI (sh i)) (fun i => nI (sr i)) ths (nI S) T3 mby vby T0) Q := by
  refine beg rfl (gs [17] ?_)
  refine Exists.intro [3, 4, 5, 6] (Exists.intro [.ref 0, .int x] (Exists.intro (nc 0 kd th wi (nI H) (nI R) (nI M) dy) (Exists.intro 0 (Exists.intro 0 (And.intro ⟨rfl, rfl, Nat.le_of_ble_eq_true rfl, rfl, rfl, rfl, ⟨0, _, rfl, rfl⟩⟩ (And.intro (Nat.le_refl _) (And.intro (Nat.le_refl _) ?_)))))))
  refine t_hasRoom (fun c1 => ?_) (fun c1 => ?_)
  · rw [p_nw (kd, th, wi, nI H, nI R, nI M, dy)]
    refine br_f ((by decide)) ?_
    have hq := hT c1
    obtain ⟨b, ha, rfl⟩ := inR_of c1 (by omega)
    have hc := hc b ha rfl
    have key : ∀ (f k : Nat) (T : NV), k + f = 10 → wp (0, 0, callok (d + 5)) (mcode 104) (qE 0 0 Q) 17 [some (.ref 0), some (.int (nI b)), some (.int (nI (btN c k))), some (.int (nI k))] [] (xw tx (nI L) (kd, th, wi, nI H, nI R, nI M, dy) T (gP 13 8 p8) (nI S8) P8 (gP 47 2 p2) (nI S2) P2 (fun i => nI (sd i)) (fun i => nI (sh i)) (fun i => nI (sr i)) ths (nI S) T3 mby vby T0) 0 0 := by
      intro f
      induction f with
      | zero =>
        intro k T hk
        obtain rfl : k = 10 := by omega
        refine gs [17] ?_
        refine br_f ((by decide)) ?_
        exact fin0 (hq T)
      | succ f ih =>
        intro k T hk
        refine gs [17] ?_
        refine br_t ((show nI k < (10 : Int32) from nI_lt (b := 10) (by omega) (by omega))) ?_
        refine Exists.intro [7, 8, 9, 10, 3, 4, 5, 6] (Exists.intro [.ref 0, .ref 4] (Exists.intro (nv 0 T ++ nv 4 (kd, th, wi, nI H, nI R, nI M, dy)) (Exists.intro 0 (Exists.intro 0 (And.intro ⟨rfl, rfl, Nat.le_of_ble_eq_true rfl, rfl, rfl, rfl, ⟨0, _, rfl, rfl⟩⟩ (And.intro (Nat.le_refl _) (And.intro (Nat.le_refl _) ?_)))))))
        refine t_become ?_
        rw [p_trnw (kd, th, wi, nI H, nI R, nI M, dy) (kd, th, wi, nI H, nI R, nI M, dy)]
        refine Exists.intro [3, 4, 5, 6] (Exists.intro [.ref 0] (Exists.intro (nc 0 kd th wi (nI H) (nI R) (nI M) dy) (Exists.intro 0 (Exists.intro 0 (And.intro ⟨rfl, rfl, Nat.le_of_ble_eq_true rfl, rfl, rfl, rfl, ⟨0, _, rfl, rfl⟩⟩ (And.intro (Nat.le_refl _) (And.intro (Nat.le_refl _) ?_)))))))
        refine t_bottom h0 ?_
        rw [p_nw (kd, th, wi, nI H, nI R, nI M, dy)]
        refine Exists.intro [7, 8, 9, 10] (Exists.intro [.ref 0, .int (nI (H - 1)), .int (nI b), .int (nI k)] (Exists.intro (nv 0 (kd, th, wi, nI H, nI R, nI M, dy)) (Exists.intro 0 (Exists.intro 0 (And.intro ⟨rfl, rfl, Nat.le_of_ble_eq_true rfl, rfl, rfl, rfl, ⟨0, _, rfl, rfl⟩⟩ (And.intro (Nat.le_refl _) (And.intro (Nat.le_refl _) ?_)))))))
        refine t_place rfl rfl (by omega) (by omega) ?_
        rw [p_tr (kd, upd th (5 * (H - 1) + b) (nI k), wi, nI H, nI R, nI M, dy)]
        refine Exists.intro [55, 56, 57, 58, 59, 7, 8, 9, 10] (Exists.intro [.ref 0, .ref 5] (Exists.intro (sw (fun i => nI (sd i)) (fun i => nI (sh i)) (fun i => nI (sr i)) ths (nI S) ++ nv 5 (kd, upd th (5 * (H - 1) + b) (nI k), wi, nI H, nI R, nI M, dy)) (Exists.intro 0 (Exists.intro 0 (And.intro ⟨rfl, rfl, Nat.le_of_ble_eq_true rfl, rfl, rfl, rfl, ⟨0, _, rfl, rfl⟩⟩ (And.intro (Nat.le_refl _) (And.intro (Nat.le_refl _) ?_)))))))
        refine t_comeTrueIn hM h0 hH hR hS hd hh hr (fun c3 th' => ?_) (fun c3 th' => ?_)
        · rw [p_sitr (fun i => nI (sd i)) (fun i => nI (sh i)) (fun i => nI (sr i)) ths (nI S) (kd, th', wi, nI H, nI R, nI M, dy)]
          refine br_f ((by decide)) ?_
          have h9 := ih (k + 1) (kd, th', wi, nI H, nI R, nI M, dy) (by omega)
          rw [nI_succ, btN, if_pos ((hc k (by omega)).mpr c3), ← bt_or k (by omega) _ (btN_lt k)] at h9
          exact h9
        · rw [p_sitr (fun i => nI (sd i)) (fun i => nI (sh i)) (fun i => nI (sr i)) ths (nI S) (kd, th', wi, nI H, nI R, nI M, dy)]
          refine br_t ((rfl)) ?_
          have h9 := ih (k + 1) (kd, th', wi, nI H, nI R, nI M, dy) (by omega)
          rw [nI_succ, btN, if_neg (fun z => c3 ((hc k (by omega)).mp z))] at h9
          exact h9
    exact key 10 0 T1 (by omega)
  · rw [p_nw (kd, th, wi, nI H, nI R, nI M, dy)]
    refine br_t ((rfl)) ?_
    exact fin0 (hF c1)
variable {dys hos rms : Nat → Int32}
theorem x_likely (hM : M < 64) (h0 : 0 < H) (hH : H ≤ 6) (hR : R ≤ 5) (h1 : 0 < R) (h2 : 2 ≤ H) (hT : ∀ n b, n ≤ 8 → b < R → x = nI n → y = nI b → (¬ v < 0 ∧ ¬ 9 < v) → (¬ w < 0 ∧ ¬ 10 < w) → (¬ u < 0 ∧ ¬ 1 < u) → ∀ T0, Q (some (.int (lkR u (wyR kd th M H R n b v w (n + 2 - H) (2 ^ (n + 2 - H)) 0 0) (powI 10 (n + 2 - H))))) (xw tx (nI L) (kd, th, wi, nI H, nI R, nI M, dy) T1 (gP 13 8 p8) (nI S8) P8 (gP 47 2 p2) (nI S2) P2 dys hos rms ths (nI S) T3 mby vby T0)) (hF : ¬ ((¬ x < 0 ∧ ¬ 8 < x) ∧ inR y R ∧ (¬ v < 0 ∧ ¬ 9 < v) ∧ (¬ w < 0 ∧ ¬ 10 < w) ∧ ¬ u < 0 ∧ ¬ 1 < u) → Q (some (.int (-1))) (xw tx (nI L) (kd, th, wi, nI H, nI R, nI M, dy) T1 (gP 13 8 p8) (nI S8) P8 (gP 47 2 p2) (nI S2) P2 dys hos rms ths (nI S) T3 mby vby T0)) : callok (d + 7) 106 0 0 [.ref 0, .int x, .int y, .int v, .int w, .int u] (xw tx (nI L) (kd, th, wi, nI H, nI R, nI M, dy) T1 (gP 13 8 p8) (nI S8) P8 (gP 47 2 p2) (nI S2) P2 dys hos rms ths (nI S) T3 mby vby T0) Q := by
  refine beg rfl (gs [] ?_)
  refine Exists.intro [] (Exists.intro [.int x, .int 0, .int 8] (Exists.intro ([]) (Exists.intro 0 (Exists.intro 0 (And.intro ⟨rfl, rfl, Nat.le_of_ble_eq_true rfl, rfl, rfl, rfl, trivial⟩ (And.intro (Nat.le_refl _) (And.intro (Nat.le_refl _) ?_)))))))
  refine t_within (fun c c2 => ?_) (fun c => ?_)
  · rw [p_nil]
    refine br_f ((by decide)) ?_
    refine Exists.intro [3, 4, 5, 6] (Exists.intro [.ref 0, .int y] (Exists.intro (nc 0 kd th wi (nI H) (nI R) (nI M) dy) (Exists.intro 0 (Exists.intro 0 (And.intro ⟨rfl, rfl, Nat.le_of_ble_eq_true rfl, rfl, rfl, rfl, ⟨0, _, rfl, rfl⟩⟩ (And.intro (Nat.le_refl _) (And.intro (Nat.le_refl _) ?_)))))))
    refine t_hasRoom (fun c3 => ?_) (fun c3 => ?_)
    · rw [p_nw (kd, th, wi, nI H, nI R, nI M, dy)]
      refine br_f ((by decide)) ?_
      refine Exists.intro [] (Exists.intro [.int v] (Exists.intro ([]) (Exists.intro 0 (Exists.intro 0 (And.intro ⟨rfl, rfl, Nat.le_of_ble_eq_true rfl, rfl, rfl, rfl, trivial⟩ (And.intro (Nat.le_refl _) (And.intro (Nat.le_refl _) ?_)))))))
      refine t_isThing (fun c4 c5 => ?_) (fun c4 => ?_)
      · rw [p_nil]
        refine br_f ((by decide)) ?_
        refine Exists.intro [] (Exists.intro [.int w, .int 0, .int 10] (Exists.intro ([]) (Exists.intro 0 (Exists.intro 0 (And.intro ⟨rfl, rfl, Nat.le_of_ble_eq_true rfl, rfl, rfl, rfl, trivial⟩ (And.intro (Nat.le_refl _) (And.intro (Nat.le_refl _) ?_)))))))
        refine t_within (fun c6 c7 => ?_) (fun c6 => ?_)
        · rw [p_nil]
          refine br_f ((by decide)) ?_
          refine Exists.intro [] (Exists.intro [.int u, .int 0, .int 1] (Exists.intro ([]) (Exists.intro 0 (Exists.intro 0 (And.intro ⟨rfl, rfl, Nat.le_of_ble_eq_true rfl, rfl, rfl, rfl, trivial⟩ (And.intro (Nat.le_refl _) (And.intro (Nat.le_refl _) ?_)))))))
          refine t_within (fun c8 c9 => ?_) (fun c8 => ?_)
          · rw [p_nil]
            refine br_f ((by decide)) ?_
            obtain ⟨n, hn, rfl⟩ := nI_of2 (M := 8) (n := 8) rfl c (Int32.not_lt.mp c2)
            obtain ⟨b, hb, rfl⟩ := inR_of c3 (by omega)
            refine Exists.intro [67, 68, 69, 70, 71, 3, 4, 5, 6] (Exists.intro [.ref 0, .ref 5, .int (nI n), .int (nI b), .int v, .int w] (Exists.intro (cw T0 (kd, th, wi, nI H, nI R, nI M, dy)) (Exists.intro 0 (Exists.intro 0 (And.intro ⟨rfl, rfl, Nat.le_of_ble_eq_true rfl, rfl, rfl, rfl, ⟨0, _, rfl, rfl⟩⟩ (And.intro (Nat.le_refl _) (And.intro (Nat.le_refl _) ?_)))))))
            refine t_waysOf rfl rfl hn (by omega) hM h0 hH h1 hR h2 (fun T0 => ?_)
            rw [p_chnw T0 (kd, th, wi, nI H, nI R, nI M, dy)]
            have hq := hT n b hn hb rfl rfl ⟨c4, c5⟩ ⟨c6, c7⟩ ⟨c8, c9⟩ T0
            generalize wyR kd th M H R n b v w (n + 2 - H) (2 ^ (n + 2 - H)) 0 0 = A at hq ⊢
            refine Exists.intro [3, 4, 5, 6] (Exists.intro [.ref 0, .int (nI n)] (Exists.intro (nc 0 kd th wi (nI H) (nI R) (nI M) dy) (Exists.intro 0 (Exists.intro 0 (And.intro ⟨rfl, rfl, Nat.le_of_ble_eq_true rfl, rfl, rfl, rfl, trivial⟩ (And.intro (Nat.le_refl _) (And.intro (Nat.le_refl _) ?_)))))))
            refine t_tellingDays rfl hn hH ?_
            rw [p_nw (kd, th, wi, nI H, nI R, nI M, dy)]
            refine Exists.intro [] (Exists.intro [.int 10, .int (nI (n + 2 - H))] (Exists.intro ([]) (Exists.intro 0 (Exists.intro 0 (And.intro ⟨rfl, rfl, Nat.le_of_ble_eq_true rfl, rfl, rfl, rfl, trivial⟩ (And.intro (Nat.le_refl _) (And.intro (Nat.le_refl _) ?_)))))))
            refine t_power rfl (by omega) ?_
            rw [p_nil]
            generalize powI 10 (n + 2 - H) = B at hq ⊢
            refine Exists.intro [] (Exists.intro [.int A, .int B] (Exists.intro ([]) (Exists.intro 0 (Exists.intro 0 (And.intro ⟨rfl, rfl, Nat.le_of_ble_eq_true rfl, rfl, rfl, rfl, trivial⟩ (And.intro (Nat.le_refl _) (And.intro (Nat.le_refl _) ?_)))))))
            refine t_commonDivisor ?_
            rw [p_nil]
            unfold lkR at hq
            generalize cdG 64 B A = G at hq ⊢
            refine br_c (fun k1 => ?_) (fun k1 => ?_)
            · rw [if_pos k1] at hq
              refine br_c (fun k2 => ?_) (fun k2 => ?_)
              · rw [if_pos k2] at hq
                refine And.intro (fun z => absurd (z ▸ k2) (by decide)) ?_
                exact fin0 (hq)
              · rw [if_neg k2] at hq
                exact fin0 (hq)
            · rw [if_neg k1] at hq
              refine br_c (fun k2 => ?_) (fun k2 => ?_)
              · rw [if_pos k2] at hq
                refine And.intro (fun z => absurd (z ▸ k2) (by decide)) ?_
                exact fin0 (hq)
              · rw [if_neg k2] at hq
                exact fin0 (hq)
          · rw [p_nil]
            refine br_t ((rfl)) ?_
            exact fin0 (hF (fun z => c8 z.2.2.2.2))
        · rw [p_nil]
          refine br_t ((rfl)) ?_
          exact fin0 (hF (fun z => c6 z.2.2.2.1))
      · rw [p_nil]
        refine br_t ((rfl)) ?_
        exact fin0 (hF (fun z => c4 z.2.2.1))
    · rw [p_nw (kd, th, wi, nI H, nI R, nI M, dy)]
      refine br_t ((rfl)) ?_
      exact fin0 (hF (fun z => c3 z.2.1))
  · rw [p_nil]
    refine br_t ((rfl)) ?_
    exact fin0 (hF (fun z => c z.1))
theorem x_century (hM : M < 64) (h0 : 0 < H) (hH : H ≤ 6) (hR : R ≤ 5) (h1 : 0 < R) (hT : ∀ Z n, Z ≤ 9999 → 1 ≤ n → n ≤ 60 → x = nI Z → y = nI n → (¬ v < 0 ∧ ¬ 2 < v) → ∀ T1, Q (some (.int (if v = 0 then nI (pop 10 (metN wi (cyS kd H R Z (th, M) n).1 R)) else if v = 1 then (cyS kd H R Z (th, M) n).1 (5 * 0 + 0) else nI (pop 10 (cyS kd H R Z (th, M) n).2)))) (xw tx (nI L) (kd, th, wi, nI H, nI R, nI M, dy) T1 (gP 13 8 p8) (nI S8) P8 (gP 47 2 p2) (nI S2) P2 dys hos rms ths (nI S) T3 mby vby T0)) (hF : ¬ ((¬ x < 0 ∧ ¬ 9999 < x) ∧ (¬ y < 1 ∧ ¬ 60 < y) ∧ ¬ v < 0 ∧ ¬ 2 < v) → Q (some (.int (-1))) (xw tx (nI L) (kd, th, wi, nI H, nI R, nI M, dy) T1 (gP 13 8 p8) (nI S8) P8 (gP 47 2 p2) (nI S2) P2 dys hos rms ths (nI S) T3 mby vby T0)) : callok (d + 6) 107 0 0 [.ref 0, .int x, .int y, .int v] (xw tx (nI L) (kd, th, wi, nI H, nI R, nI M, dy) T1 (gP 13 8 p8) (nI S8) P8 (gP 47 2 p2) (nI S2) P2 dys hos rms ths (nI S) T3 mby vby T0) Q := by
  refine beg rfl (gs [] ?_)
  refine Exists.intro [] (Exists.intro [.int x, .int 0, .int 9999] (Exists.intro ([]) (Exists.intro 0 (Exists.intro 0 (And.intro ⟨rfl, rfl, Nat.le_of_ble_eq_true rfl, rfl, rfl, rfl, trivial⟩ (And.intro (Nat.le_refl _) (And.intro (Nat.le_refl _) ?_)))))))
  refine t_within (fun c c2 => ?_) (fun c => ?_)
  · rw [p_nil]
    refine br_f ((by decide)) ?_
    refine Exists.intro [] (Exists.intro [.int y, .int 1, .int 60] (Exists.intro ([]) (Exists.intro 0 (Exists.intro 0 (And.intro ⟨rfl, rfl, Nat.le_of_ble_eq_true rfl, rfl, rfl, rfl, trivial⟩ (And.intro (Nat.le_refl _) (And.intro (Nat.le_refl _) ?_)))))))
    refine t_within (fun c3 c4 => ?_) (fun c3 => ?_)
    · rw [p_nil]
      refine br_f ((by decide)) ?_
      refine Exists.intro [] (Exists.intro [.int v, .int 0, .int 2] (Exists.intro ([]) (Exists.intro 0 (Exists.intro 0 (And.intro ⟨rfl, rfl, Nat.le_of_ble_eq_true rfl, rfl, rfl, rfl, trivial⟩ (And.intro (Nat.le_refl _) (And.intro (Nat.le_refl _) ?_)))))))
      refine t_within (fun c5 c6 => ?_) (fun c5 => ?_)
      · rw [p_nil]
        refine br_f ((by decide)) ?_
        obtain ⟨Z, hZ, rfl⟩ := nI_of2 (M := 9999) (n := 9999) rfl c (Int32.not_lt.mp c2)
        obtain ⟨n, hn1, hn, rfl⟩ := in1 (m := 60) (n := 60) rfl c3 c4
        refine Exists.intro [7, 8, 9, 10, 3, 4, 5, 6] (Exists.intro [.ref 0, .ref 4] (Exists.intro (nv 0 T1 ++ nv 4 (kd, th, wi, nI H, nI R, nI M, dy)) (Exists.intro 0 (Exists.intro 0 (And.intro ⟨rfl, rfl, Nat.le_of_ble_eq_true rfl, rfl, rfl, rfl, ⟨0, _, rfl, rfl⟩⟩ (And.intro (Nat.le_refl _) (And.intro (Nat.le_refl _) ?_)))))))
        refine t_become ?_
        rw [p_trnw (kd, th, wi, nI H, nI R, nI M, dy) (kd, th, wi, nI H, nI R, nI M, dy)]
        refine Exists.intro [7, 8, 9, 10] (Exists.intro [.ref 0, .int (nI Z), .int (nI n)] (Exists.intro (nv 0 (kd, th, wi, nI H, nI R, nI M, dy)) (Exists.intro 0 (Exists.intro 0 (And.intro ⟨rfl, rfl, Nat.le_of_ble_eq_true rfl, rfl, rfl, rfl, trivial⟩ (And.intro (Nat.le_refl _) (And.intro (Nat.le_refl _) ?_)))))))
        refine t_liveCentury rfl rfl hZ hn hM h0 hH h1 hR ?_
        have hq := hT Z n hZ hn1 hn rfl rfl ⟨c5, c6⟩ (kd, (cyS kd H R Z (th, M) n).1, wi, nI H, nI R, nI (cyS kd H R Z (th, M) n).2, dy)
        have h64 := cyS_64 (kd := kd) (R := R) (Z := Z) (s := (th, M)) h0 hH hM n
        generalize (cyS kd H R Z (th, M) n) = cy at hq h64 ⊢
        rw [p_tr (kd, cy.1, wi, nI H, nI R, nI cy.2, dy)]
        refine br_c (fun k1 => ?_) (fun k1 => ?_)
        · rw [if_pos k1] at hq
          refine Exists.intro [7, 8, 9, 10] (Exists.intro [.ref 0] (Exists.intro (nv 0 (kd, cy.1, wi, nI H, nI R, nI cy.2, dy)) (Exists.intro 0 (Exists.intro 0 (And.intro ⟨rfl, rfl, Nat.le_of_ble_eq_true rfl, rfl, rfl, rfl, ⟨0, _, rfl, rfl⟩⟩ (And.intro (Nat.le_refl _) (And.intro (Nat.le_refl _) ?_)))))))
          refine t_metRooms hR ?_
          rw [p_tr (kd, cy.1, wi, nI H, nI R, nI cy.2, dy)]
          refine Exists.intro [] (Exists.intro [.int (nI (metN wi cy.1 R))] (Exists.intro ([]) (Exists.intro 0 (Exists.intro 0 (And.intro ⟨rfl, rfl, Nat.le_of_ble_eq_true rfl, rfl, rfl, rfl, trivial⟩ (And.intro (Nat.le_refl _) (And.intro (Nat.le_refl _) ?_)))))))
          refine t_bitCount (h := []) rfl (Nat.lt_of_lt_of_le (metN_32 hR) (by decide)) ?_
          rw [p_nil]
          exact fin0 (hq)
        · rw [if_neg k1] at hq
          refine br_c (fun k2 => ?_) (fun k2 => ?_)
          · rw [if_pos k2] at hq
            refine Exists.intro [7, 8, 9, 10] (Exists.intro [.ref 0, .int 0, .int 0] (Exists.intro (nv 0 (kd, cy.1, wi, nI H, nI R, nI cy.2, dy)) (Exists.intro 0 (Exists.intro 0 (And.intro ⟨rfl, rfl, Nat.le_of_ble_eq_true rfl, rfl, rfl, rfl, ⟨0, _, rfl, rfl⟩⟩ (And.intro (Nat.le_refl _) (And.intro (Nat.le_refl _) ?_)))))))
            refine t_thing (a := 0) (b := 0) rfl rfl (by omega) (by omega) ?_
            rw [p_tr (kd, cy.1, wi, nI H, nI R, nI cy.2, dy)]
            exact fin0 (hq)
          · rw [if_neg k2] at hq
            refine Exists.intro [7, 8, 9, 10] (Exists.intro [.ref 0] (Exists.intro (nv 0 (kd, cy.1, wi, nI H, nI R, nI cy.2, dy)) (Exists.intro 0 (Exists.intro 0 (And.intro ⟨rfl, rfl, Nat.le_of_ble_eq_true rfl, rfl, rfl, rfl, ⟨0, _, rfl, rfl⟩⟩ (And.intro (Nat.le_refl _) (And.intro (Nat.le_refl _) ?_)))))))
            refine t_mice h64 ?_
            rw [p_tr (kd, cy.1, wi, nI H, nI R, nI cy.2, dy)]
            exact fin0 (hq)
      · rw [p_nil]
        refine br_t ((rfl)) ?_
        exact fin0 (hF (fun z => c5 z.2.2))
    · rw [p_nil]
      refine br_t ((rfl)) ?_
      exact fin0 (hF (fun z => c3 z.2.1))
  · rw [p_nil]
    refine br_t ((rfl)) ?_
    exact fin0 (hF (fun z => c z.1))
end DZ
