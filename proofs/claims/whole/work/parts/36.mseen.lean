/-! THE REFERENCE: what was seen -/
theorem upd_upd (f : Nat → Int32) (k : Nat) (x y : Int32) : upd (upd f k x) k y = upd f k y := by
  funext j
  unfold upd
  by_cases e : j = k
  · rw [if_pos e, if_pos e]
  · rw [if_neg e, if_neg e, if_neg e]
theorem upd_own (f : Nat → Int32) (k : Nat) : upd f k (f k) = f := by
  funext j
  unfold upd
  by_cases e : j = k
  · rw [if_pos e, e]
  · rw [if_neg e]
theorem SO_s {sdn shn srn : Nat → Nat} {ths th : Nat → Int32} {n k : Nat} : SO sdn shn srn ths n th (k + 1) ↔ (SO sdn shn srn ths n th k ∧ (sdn k = n → th (5 * shn k + srn k) = ths k)) := by
  constructor
  · intro z
    exact ⟨fun i hi => z i (by omega), z k (by omega)⟩
  · intro z i hi
    by_cases e : i = k
    · rw [e]
      exact z.2
    · exact z.1 i (by omega)
section MI
variable {d : Nat} {hs rm dy sn ln po rh rr pn kn : Int32} {kd th mc wn tx rk rt rm2 rw2 row past pu pin rows kept : Nat → Int32} {ths : Nat → Int32} {sdn shn srn : Nat → Nat} {wi : Nat → Int32} {H R M a b n m k L S S2 S8 : Nat} {x y v w u : Int32} {c : Nat → Bool} {Q : Option Value → List aC → Prop}
theorem m_isSo (h6 : H ≤ 6) (h0 : 0 < H) (h5 : R ≤ 5) (hm : ∀ k, k < H → mc k = nI (if M.testBit k = true then 1 else 0)) (hS : S ≤ 6) (hd : ∀ i, i < S → sdn i ≤ 20) (hh : ∀ i, i < S → shn i < 6) (hr : ∀ i, i < S → srn i < 5) (hQ : ∀ (r : Int32) (row pu : Nat → Int32), (r = 0 ∨ r = 1) → (r = 1 ↔ ASO kd M H R sdn shn srn ths S th) → Q (some (.int r)) (mw (nI H) (nI R) dy (nI S) (nI L) po rh rr (nI S8) (nI S2) kd th mc wn (fun i => nI (sdn i)) (fun i => nI (5 * shn i + srn i)) ths tx rk rt rm2 rw2 row past pu pin rows kept)) : callok (d + 3) 169 0 0 [.ref 0] (mw (nI H) (nI R) dy (nI S) (nI L) po rh rr (nI S8) (nI S2) kd th mc wn (fun i => nI (sdn i)) (fun i => nI (5 * shn i + srn i)) ths tx rk rt rm2 rw2 row past pu pin rows kept) Q := by
  refine beg rfl (gs [8] ?_)
  refine Exists.intro [0, 1, 2, 3, 4, 5, 6, 7, 8, 9, 10, 11, 12, 13, 14, 15, 16, 17, 18] (Exists.intro [.ref 0] (Exists.intro ((mw (nI H) (nI R) dy (nI S) (nI L) po rh rr (nI S8) (nI S2) kd th mc wn (fun i => nI (sdn i)) (fun i => nI (5 * shn i + srn i)) ths tx rk rt rm2 rw2 row past pu pin rows kept)) (Exists.intro 0 (Exists.intro 0 (And.intro ⟨rfl, rfl, Nat.le_of_ble_eq_true rfl, rfl, rfl, rfl, ⟨0, _, rfl, rfl⟩⟩ (And.intro (Nat.le_refl _) (And.intro (Nat.le_refl _) ?_)))))))
  refine m_puts ?_
  rw [q_all rfl]
  have key : ∀ (f n : Nat) (row : Nat → Int32) (dy' r : Int32) (v3 : Option Value), n + f = 21 → (r = 0 ∨ r = 1) → (r = 1 ↔ (∀ m, m < n → SO sdn shn srn ths m (itT kd M H R m th) S)) → wp (0, 0, callok (d + 2)) (mcode 169) (qE 0 0 Q) 8 [some (.ref 0), some (.int r), some (.int (nI n)), v3] [] (mw (nI H) (nI R) dy' (nI S) (nI L) po rh rr (nI S8) (nI S2) kd (itT kd M H R n th) mc wn (fun i => nI (sdn i)) (fun i => nI (5 * shn i + srn i)) ths tx rk rt rm2 rw2 row past (lyF pu 0 dy th mc wn) pin rows kept) 0 0 := by
    intro f
    induction f with
    | zero =>
      intro n row dy' r v3 hn g1 g2
      obtain rfl : n = 21 := by omega
      refine gs [8] ?_
      refine br_t ((by decide)) ?_
      refine Exists.intro [0, 1, 2, 3, 4, 5, 6, 7, 8, 9, 10, 11, 12, 13, 14, 15, 16, 17, 18] (Exists.intro [.ref 0] (Exists.intro ((mw (nI H) (nI R) dy' (nI S) (nI L) po rh rr (nI S8) (nI S2) kd (itT kd M H R 21 th) mc wn (fun i => nI (sdn i)) (fun i => nI (5 * shn i + srn i)) ths tx rk rt rm2 rw2 row past (lyF pu 0 dy th mc wn) pin rows kept)) (Exists.intro 0 (Exists.intro 0 (And.intro ⟨rfl, rfl, Nat.le_of_ble_eq_true rfl, rfl, rfl, rfl, ⟨0, _, rfl, rfl⟩⟩ (And.intro (Nat.le_refl _) (And.intro (Nat.le_refl _) ?_)))))))
      refine m_puttingBack ?_
      rw [q_all rfl]
      exact And.intro g1 (fin0 (hQ r row (lyF pu 0 dy th mc wn) g1 (g2.trans ⟨fun z i hi => z (sdn i) (by have := hd i hi; omega) i hi rfl, fun z m hm i hi e => by rw [← e]; exact z i hi⟩)))
    | succ f ih =>
      intro n row dy' r v3 hn g1 g2
      have l1 := up (W := fun k => ∀ r : Int32, (r = 0 ∨ r = 1) → (r = 1 ↔ ((∀ m, m < n → SO sdn shn srn ths m (itT kd M H R m th) S) ∧ SO sdn shn srn ths n (itT kd M H R n th) k)) → wp (0, 0, callok (d + 2)) (mcode 169) (qE 0 0 Q) 16 [some (.ref 0), some (.int r), some (.int (nI n)), some (.int (nI k))] [] (mw (nI H) (nI R) dy' (nI S) (nI L) po rh rr (nI S8) (nI S2) kd (itT kd M H R n th) mc wn (fun i => nI (sdn i)) (fun i => nI (5 * shn i + srn i)) ths tx rk rt rm2 rw2 row past (lyF pu 0 dy th mc wn) pin rows kept) 0 0) S ?_ ?_
      · refine gs [8, 16] ?_
        refine br_f ((show ¬ (20 : Int32) < nI n from nI_nlt (a := 20) (by omega) (by omega))) ?_
        exact l1 r g1 (g2.trans ⟨fun z => ⟨z, fun i hi => absurd hi (Nat.not_lt_zero i)⟩, fun z => z.1⟩)
      · intro r g1 g2
        refine gs [8, 16] ?_
        refine br_f ((nI_nlt (by omega) (by omega))) ?_
        refine Exists.intro [0, 1, 2, 3, 4, 5, 6, 7, 8, 9, 10, 11, 12, 13, 14, 15, 16, 17, 18] (Exists.intro [.ref 0] (Exists.intro ((mw (nI H) (nI R) dy' (nI S) (nI L) po rh rr (nI S8) (nI S2) kd (itT kd M H R n th) mc wn (fun i => nI (sdn i)) (fun i => nI (5 * shn i + srn i)) ths tx rk rt rm2 rw2 row past (lyF pu 0 dy th mc wn) pin rows kept)) (Exists.intro 0 (Exists.intro 0 (And.intro ⟨rfl, rfl, Nat.le_of_ble_eq_true rfl, rfl, rfl, rfl, ⟨0, _, rfl, rfl⟩⟩ (And.intro (Nat.le_refl _) (And.intro (Nat.le_refl _) ?_)))))))
        refine m_passes h6 h5 h0 hm (fun r2 row k1 k2 => ?_)
        rw [q_all rfl]
        have h9 := ih (n + 1) row (dy' + 1) r (some (.int (nI S))) (by omega) g1 (g2.trans ⟨fun z m hm => (Nat.lt_or_ge m n).elim (fun q => z.1 m q) (fun q => by rw [show m = n by omega]; exact z.2), fun z => ⟨fun m hm => z m (by omega), z n (by omega)⟩⟩)
        rw [nI_succ n, itT_succ] at h9
        exact h9
      · intro k hk ih1 r g1 g2
        refine gs [16] ?_
        refine br_t ((nI_lt hk (by omega))) ?_
        rw [nI_succ k] at ih1
        have hdk := hd k hk
        have hhk := hh k hk
        have hrk := hr k hk
        refine br_c (fun c1 => ?_) (fun c1 => ?_)
        · exact ih1 0 (Or.inl rfl) ⟨fun z => absurd z (by decide), fun z => by rw [c1] at g2; exact absurd (g2.mpr ⟨z.1, (SO_s.mp z.2).1⟩) (by decide)⟩
        · have hr1 : r = 1 := g1.resolve_left c1
          have g3 := g2.mp hr1
          refine Exists.intro (k) (And.intro (rfl) (And.intro ⟨by omega, by omega⟩ ?_))
          refine br_c (fun c2 => ?_) (fun c2 => ?_)
          · have c2' : sdn k = n := (nI_eq (by omega) (by omega)).mp c2
            refine Exists.intro (k) (And.intro (rfl) (And.intro ⟨by omega, by omega⟩ ?_))
            refine Exists.intro (5 * shn k + srn k) (And.intro (rfl) (And.intro ⟨by omega, by omega⟩ ?_))
            refine Exists.intro (k) (And.intro (rfl) (And.intro ⟨by omega, by omega⟩ ?_))
            refine br_c (fun c3 => ?_) (fun c3 => ?_)
            · exact ih1 1 (Or.inr rfl) ⟨fun _ => ⟨g3.1, SO_s.mpr ⟨g3.2, fun _ => c3⟩⟩, fun _ => rfl⟩
            · exact ih1 0 (Or.inl rfl) ⟨fun z => absurd z (by decide), fun z => absurd ((SO_s.mp z.2).2 c2') c3⟩
          · exact ih1 1 (Or.inr rfl) ⟨fun _ => ⟨g3.1, SO_s.mpr ⟨g3.2, fun q => absurd (show nI (sdn k) = nI n by rw [q]) c2⟩⟩, fun _ => rfl⟩
  exact key 21 0 row dy 1 none (by omega) (Or.inr rfl) ⟨fun _ m hm => absurd hm (Nat.not_lt_zero m), fun _ => rfl⟩
theorem y_kinds (h6 : H ≤ 6) (h0 : 0 < H) (h5 : R ≤ 5) (hm : ∀ k, k < H → mc k = nI (if M.testBit k = true then 1 else 0)) (hS : S ≤ 6) (hd : ∀ i, i < S → sdn i ≤ 20) (hh : ∀ i, i < S → shn i < 6) (hr : ∀ i, i < S → srn i < 5) (hc : ∀ a, a < H → x = nI a → ∀ k, k < 4 → (c k = true ↔ ASO (upd kd a (nI k)) M H R sdn shn srn ths S th)) (hT : inR x H → ∀ row pu, Q (some (.int (nI (btN c 4)))) (mw (nI H) (nI R) dy (nI S) (nI L) po rh rr (nI S8) (nI S2) kd th mc wn (fun i => nI (sdn i)) (fun i => nI (5 * shn i + srn i)) ths tx rk rt rm2 rw2 row past pu pin rows kept)) (hF : ¬ inR x H → Q (some (.int (-1))) (mw (nI H) (nI R) dy (nI S) (nI L) po rh rr (nI S8) (nI S2) kd th mc wn (fun i => nI (sdn i)) (fun i => nI (5 * shn i + srn i)) ths tx rk rt rm2 rw2 row past pu pin rows kept)) : callok (d + 4) 170 0 0 [.ref 0, .int x] (mw (nI H) (nI R) dy (nI S) (nI L) po rh rr (nI S8) (nI S2) kd th mc wn (fun i => nI (sdn i)) (fun i => nI (5 * shn i + srn i)) ths tx rk rt rm2 rw2 row past pu pin rows kept) Q := by
  refine beg rfl (gs [22] ?_)
  refine Exists.intro [0, 1, 2, 3, 4, 5, 6, 7, 8, 9, 10, 11, 12, 13, 14, 15, 16, 17, 18] (Exists.intro [.ref 0, .int x] (Exists.intro ((mw (nI H) (nI R) dy (nI S) (nI L) po rh rr (nI S8) (nI S2) kd th mc wn (fun i => nI (sdn i)) (fun i => nI (5 * shn i + srn i)) ths tx rk rt rm2 rw2 row past pu pin rows kept)) (Exists.intro 0 (Exists.intro 0 (And.intro ⟨rfl, rfl, Nat.le_of_ble_eq_true rfl, rfl, rfl, rfl, ⟨0, _, rfl, rfl⟩⟩ (And.intro (Nat.le_refl _) (And.intro (Nat.le_refl _) ?_)))))))
  refine m_isHouse h6 h0 (fun c1 => ?_) (fun c1 => ?_)
  · rw [q_all rfl]
    refine br_f ((by decide)) ?_
    have hq := hT c1
    obtain ⟨a, ha, rfl⟩ := inR_of c1 (by omega)
    have hc := hc a ha rfl
    refine Exists.intro (a) (And.intro (rfl) (And.intro ⟨by omega, by omega⟩ ?_))
    have key : ∀ (f k : Nat) (z : Int32) (row pu : Nat → Int32), k + f = 4 → wp (0, 0, callok (d + 3)) (mcode 170) (qE 0 0 Q) 22 [some (.ref 0), some (.int (nI a)), some (.int (kd a)), some (.int (nI (btN c k))), some (.int (nI k))] [] (mw (nI H) (nI R) dy (nI S) (nI L) po rh rr (nI S8) (nI S2) (upd kd a z) th mc wn (fun i => nI (sdn i)) (fun i => nI (5 * shn i + srn i)) ths tx rk rt rm2 rw2 row past pu pin rows kept) 0 0 := by
      intro f
      induction f with
      | zero =>
        intro k z row pu hk
        obtain rfl : k = 4 := by omega
        refine gs [22] ?_
        refine br_t ((by decide)) ?_
        refine Exists.intro (a) (And.intro (rfl) (And.intro ⟨by omega, by omega⟩ ?_))
        rw [upd_upd, upd_own]
        exact fin0 (hq row pu)
      | succ f ih =>
        intro k z row pu hk
        refine gs [22] ?_
        refine br_f ((show ¬ (3 : Int32) < nI k from nI_nlt (a := 3) (by omega) (by omega))) ?_
        refine Exists.intro (a) (And.intro (rfl) (And.intro ⟨by omega, by omega⟩ ?_))
        rw [upd_upd]
        refine Exists.intro [0, 1, 2, 3, 4, 5, 6, 7, 8, 9, 10, 11, 12, 13, 14, 15, 16, 17, 18] (Exists.intro [.ref 0] (Exists.intro ((mw (nI H) (nI R) dy (nI S) (nI L) po rh rr (nI S8) (nI S2) (upd kd a (nI k)) th mc wn (fun i => nI (sdn i)) (fun i => nI (5 * shn i + srn i)) ths tx rk rt rm2 rw2 row past pu pin rows kept)) (Exists.intro 0 (Exists.intro 0 (And.intro ⟨rfl, rfl, Nat.le_of_ble_eq_true rfl, rfl, rfl, rfl, ⟨0, _, rfl, rfl⟩⟩ (And.intro (Nat.le_refl _) (And.intro (Nat.le_refl _) ?_)))))))
        refine m_isSo h6 h0 h5 hm hS hd hh hr (fun r row pu g1 g2 => ?_)
        rw [q_all rfl]
        have h9 := ih (k + 1) (nI k) row pu (by omega)
        rw [nI_succ k, btN] at h9
        refine br_c (fun c3 => ?_) (fun c3 => ?_)
        · rw [if_neg (fun q => absurd (c3.symm.trans (g2.mpr ((hc k (by omega)).mp q))) (by decide)), ← Int32.or_zero (a := nI (btN c k))] at h9
          exact h9
        · rw [if_pos ((hc k (by omega)).mpr (g2.mp (g1.resolve_left c3))), ← bt_or k (by omega) _ (btN_lt k)] at h9
          exact h9
    have h9 := key 4 0 (kd a) row pu (by omega)
    rw [upd_own] at h9
    exact h9
  · rw [q_all rfl]
    refine br_t ((rfl)) ?_
    exact fin0 (hF c1)
theorem y_stood (h6 : H ≤ 6) (h0 : 0 < H) (h5 : R ≤ 5) (h1 : 0 < R) (hm : ∀ k, k < H → mc k = nI (if M.testBit k = true then 1 else 0)) (hS : S ≤ 6) (hd : ∀ i, i < S → sdn i ≤ 20) (hh : ∀ i, i < S → shn i < 6) (hr : ∀ i, i < S → srn i < 5) (hc : ∀ b, b < R → x = nI b → ∀ k, k < 10 → (c k = true ↔ ASO kd M H R sdn shn srn ths S (upd th (5 * (H - 1) + b) (nI k)))) (hT : inR x R → ∀ row pu, Q (some (.int (nI (btN c 10)))) (mw (nI H) (nI R) dy (nI S) (nI L) po rh rr (nI S8) (nI S2) kd th mc wn (fun i => nI (sdn i)) (fun i => nI (5 * shn i + srn i)) ths tx rk rt rm2 rw2 row past pu pin rows kept)) (hF : ¬ inR x R → Q (some (.int (-1))) (mw (nI H) (nI R) dy (nI S) (nI L) po rh rr (nI S8) (nI S2) kd th mc wn (fun i => nI (sdn i)) (fun i => nI (5 * shn i + srn i)) ths tx rk rt rm2 rw2 row past pu pin rows kept)) : callok (d + 4) 171 0 0 [.ref 0, .int x] (mw (nI H) (nI R) dy (nI S) (nI L) po rh rr (nI S8) (nI S2) kd th mc wn (fun i => nI (sdn i)) (fun i => nI (5 * shn i + srn i)) ths tx rk rt rm2 rw2 row past pu pin rows kept) Q := by
  refine beg rfl (gs [34] ?_)
  refine Exists.intro [0, 1, 2, 3, 4, 5, 6, 7, 8, 9, 10, 11, 12, 13, 14, 15, 16, 17, 18] (Exists.intro [.ref 0, .int x] (Exists.intro ((mw (nI H) (nI R) dy (nI S) (nI L) po rh rr (nI S8) (nI S2) kd th mc wn (fun i => nI (sdn i)) (fun i => nI (5 * shn i + srn i)) ths tx rk rt rm2 rw2 row past pu pin rows kept)) (Exists.intro 0 (Exists.intro 0 (And.intro ⟨rfl, rfl, Nat.le_of_ble_eq_true rfl, rfl, rfl, rfl, ⟨0, _, rfl, rfl⟩⟩ (And.intro (Nat.le_refl _) (And.intro (Nat.le_refl _) ?_)))))))
  refine m_isRoom h5 h1 (fun c1 => ?_) (fun c1 => ?_)
  · rw [q_all rfl]
    refine br_f ((by decide)) ?_
    have hq := hT c1
    obtain ⟨b, hb, rfl⟩ := inR_of c1 (by omega)
    have hc := hc b hb rfl
    have e0 : 5 * (nI H - 1) + nI b = nI (5 * (H - 1) + b) := by rw [nI_m1 h0, j5]
    refine Exists.intro (5 * (H - 1) + b) (And.intro (e0) (And.intro ⟨by omega, by omega⟩ ?_))
    have key : ∀ (f k : Nat) (z : Int32) (row pu : Nat → Int32), k + f = 10 → wp (0, 0, callok (d + 3)) (mcode 171) (qE 0 0 Q) 34 [some (.ref 0), some (.int (nI b)), some (.int (5 * (nI H - 1) + nI b)), some (.int (th (5 * (H - 1) + b))), some (.int (nI (btN c k))), some (.int (nI k))] [] (mw (nI H) (nI R) dy (nI S) (nI L) po rh rr (nI S8) (nI S2) kd (upd th (5 * (H - 1) + b) z) mc wn (fun i => nI (sdn i)) (fun i => nI (5 * shn i + srn i)) ths tx rk rt rm2 rw2 row past pu pin rows kept) 0 0 := by
      intro f
      induction f with
      | zero =>
        intro k z row pu hk
        obtain rfl : k = 10 := by omega
        refine gs [34] ?_
        refine br_t ((by decide)) ?_
        refine Exists.intro (5 * (H - 1) + b) (And.intro (e0) (And.intro ⟨by omega, by omega⟩ ?_))
        rw [upd_upd, upd_own]
        exact fin0 (hq row pu)
      | succ f ih =>
        intro k z row pu hk
        refine gs [34] ?_
        refine br_f ((show ¬ (9 : Int32) < nI k from nI_nlt (a := 9) (by omega) (by omega))) ?_
        refine Exists.intro (5 * (H - 1) + b) (And.intro (e0) (And.intro ⟨by omega, by omega⟩ ?_))
        rw [upd_upd]
        refine Exists.intro [0, 1, 2, 3, 4, 5, 6, 7, 8, 9, 10, 11, 12, 13, 14, 15, 16, 17, 18] (Exists.intro [.ref 0] (Exists.intro ((mw (nI H) (nI R) dy (nI S) (nI L) po rh rr (nI S8) (nI S2) kd (upd th (5 * (H - 1) + b) (nI k)) mc wn (fun i => nI (sdn i)) (fun i => nI (5 * shn i + srn i)) ths tx rk rt rm2 rw2 row past pu pin rows kept)) (Exists.intro 0 (Exists.intro 0 (And.intro ⟨rfl, rfl, Nat.le_of_ble_eq_true rfl, rfl, rfl, rfl, ⟨0, _, rfl, rfl⟩⟩ (And.intro (Nat.le_refl _) (And.intro (Nat.le_refl _) ?_)))))))
        refine m_isSo h6 h0 h5 hm hS hd hh hr (fun r row pu g1 g2 => ?_)
        rw [q_all rfl]
        have h9 := ih (k + 1) (nI k) row pu (by omega)
        rw [nI_succ k, btN] at h9
        refine br_c (fun c3 => ?_) (fun c3 => ?_)
        · rw [if_neg (fun q => absurd (c3.symm.trans (g2.mpr ((hc k (by omega)).mp q))) (by decide)), ← Int32.or_zero (a := nI (btN c k))] at h9
          exact h9
        · rw [if_pos ((hc k (by omega)).mpr (g2.mp (g1.resolve_left c3))), ← bt_or k (by omega) _ (btN_lt k)] at h9
          exact h9
    have h9 := key 10 0 (th (5 * (H - 1) + b)) row pu (by omega)
    rw [upd_own] at h9
    exact h9
  · rw [q_all rfl]
    refine br_t ((rfl)) ?_
    exact fin0 (hF c1)
end MI
