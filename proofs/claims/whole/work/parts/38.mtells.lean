/-! THE REFERENCE: tells -/
def rbN (g : Nat → Int32) : Nat → Int32
  | 0 => 0
  | k + 1 => 10 * rbN g k + g k
def smN (g : Nat → Int32) (v : Nat) : Nat → Nat
  | 0 => 0
  | k + 1 => smN g v k + (if g k = g v then 1 else 0)
def ulN (g : Nat → Int32) : Nat → Nat
  | 0 => 0
  | k + 1 => ulN g k + (if smN g k k = 0 then 1 else 0)
theorem smN_le {g : Nat → Int32} {v : Nat} : ∀ k, smN g v k ≤ k
  | 0 => Nat.le_refl _
  | k + 1 => by
    have := smN_le (g := g) (v := v) k
    rw [smN]
    split <;> omega
abbrev ukG (kd th : Nat → Int32) (M H R n a r : Nat) : Nat → Int32 := fun v => rbN (fun b => itT kd M H R n (upd th (5 * (H - 1) + r) (nI v)) (5 * a + b)) R
def mtM (g : Nat → Nat) : Nat → Nat → Int32 × Int32 → Int32 × Int32
  | 0, _, s => s
  | f + 1, r, s => mtM g f (r + 1) (if s.2 < nI (g r) then (nI r, nI (g r)) else s)
section MK
variable {d : Nat} {hs rm dy sn ln po rh rr pn kn : Int32} {kd th mc wn sd sp st tx rk rt rm2 rw2 row past pu pin rows kept : Nat → Int32} {wi : Nat → Int32} {H R M a b n m k r L S S2 S8 : Nat} {x y v w u : Int32} {Q : Option Value → List aC → Prop}
theorem m_rowBehind (h6 : H ≤ 6) (h0 : 0 < H) (h5 : R ≤ 5) (hm : ∀ k, k < H → mc k = nI (if M.testBit k = true then 1 else 0)) (hx : x = nI n) (hn : n ≤ 1000) (hy : y = nI a) (ha : a < 6) (hQ : ∀ row pu, Q (some (.int (rbN (fun b => itT kd M H R n th (5 * a + b)) R))) (mw (nI H) (nI R) dy (nI S) (nI L) po rh rr (nI S8) (nI S2) kd th mc wn sd sp st tx rk rt rm2 rw2 row past pu pin rows kept)) : callok (d + 4) 172 0 0 [.ref 0, .int x, .int y] (mw (nI H) (nI R) dy (nI S) (nI L) po rh rr (nI S8) (nI S2) kd th mc wn sd sp st tx rk rt rm2 rw2 row past pu pin rows kept) Q := by
  subst hy
  refine beg rfl (gs [14] ?_)
  refine Exists.intro [0, 1, 2, 3, 4, 5, 6, 7, 8, 9, 10, 11, 12, 13, 14, 15, 16, 17, 18] (Exists.intro [.ref 0] (Exists.intro ((mw (nI H) (nI R) dy (nI S) (nI L) po rh rr (nI S8) (nI S2) kd th mc wn sd sp st tx rk rt rm2 rw2 row past pu pin rows kept)) (Exists.intro 0 (Exists.intro 0 (And.intro ⟨rfl, rfl, Nat.le_of_ble_eq_true rfl, rfl, rfl, rfl, ⟨0, _, rfl, rfl⟩⟩ (And.intro (Nat.le_refl _) (And.intro (Nat.le_refl _) ?_)))))))
  refine m_puts ?_
  rw [q_all rfl]
  refine Exists.intro [0, 1, 2, 3, 4, 5, 6, 7, 8, 9, 10, 11, 12, 13, 14, 15, 16, 17, 18] (Exists.intro [.ref 0, .int x] (Exists.intro ((mw (nI H) (nI R) dy (nI S) (nI L) po rh rr (nI S8) (nI S2) kd th mc wn sd sp st tx rk rt rm2 rw2 row past (lyF pu 0 dy th mc wn) pin rows kept)) (Exists.intro 0 (Exists.intro 0 (And.intro ⟨rfl, rfl, Nat.le_of_ble_eq_true rfl, rfl, rfl, rfl, ⟨0, _, rfl, rfl⟩⟩ (And.intro (Nat.le_refl _) (And.intro (Nat.le_refl _) ?_)))))))
  refine m_goesOn h6 h5 h0 hm hx hn (fun row => ?_)
  rw [q_all rfl]
  refine up (W := fun k => wp (0, 0, callok (d + 3)) (mcode 172) (qE 0 0 Q) 14 [some (.ref 0), some (.int x), some (.int (nI a)), some (.int (rbN (fun b => itT kd M H R n th (5 * a + b)) k)), some (.int (nI k))] [] (mw (nI H) (nI R) (dy + nI n) (nI S) (nI L) po rh rr (nI S8) (nI S2) kd (itT kd M H R n th) mc wn sd sp st tx rk rt rm2 rw2 row past (lyF pu 0 dy th mc wn) pin rows kept) 0 0) R ?_ ?_
  · refine gs [14] ?_
    refine br_f ((nI_nlt (by omega) (by omega))) ?_
    refine Exists.intro [0, 1, 2, 3, 4, 5, 6, 7, 8, 9, 10, 11, 12, 13, 14, 15, 16, 17, 18] (Exists.intro [.ref 0] (Exists.intro ((mw (nI H) (nI R) (dy + nI n) (nI S) (nI L) po rh rr (nI S8) (nI S2) kd (itT kd M H R n th) mc wn sd sp st tx rk rt rm2 rw2 row past (lyF pu 0 dy th mc wn) pin rows kept)) (Exists.intro 0 (Exists.intro 0 (And.intro ⟨rfl, rfl, Nat.le_of_ble_eq_true rfl, rfl, rfl, rfl, ⟨0, _, rfl, rfl⟩⟩ (And.intro (Nat.le_refl _) (And.intro (Nat.le_refl _) ?_)))))))
    refine m_puttingBack ?_
    rw [q_all rfl]
    exact fin0 (hQ row (lyF pu 0 dy th mc wn))
  · intro k hk ih
    refine gs [14] ?_
    refine br_t ((nI_lt hk (by omega))) ?_
    refine Exists.intro (5 * a + k) (And.intro (j5 a k) (And.intro ⟨by omega, by omega⟩ ?_))
    rw [nI_succ, rbN] at ih
    exact ih
theorem m_unlike (h6 : H ≤ 6) (h0 : 0 < H) (h5 : R ≤ 5) (hm : ∀ k, k < H → mc k = nI (if M.testBit k = true then 1 else 0)) (hx : x = nI n) (hn : n ≤ 1000) (hy : y = nI a) (ha : a < 6) (hv : v = nI r) (hr : r < R) (hQ : ∀ row pu rows, Q (some (.int (nI (ulN (ukG kd th M H R n a r) 10)))) (mw (nI H) (nI R) dy (nI S) (nI L) po rh rr (nI S8) (nI S2) kd th mc wn sd sp st tx rk rt rm2 rw2 row past pu pin rows kept)) : callok (d + 5) 173 0 0 [.ref 0, .int x, .int y, .int v] (mw (nI H) (nI R) dy (nI S) (nI L) po rh rr (nI S8) (nI S2) kd th mc wn sd sp st tx rk rt rm2 rw2 row past pu pin rows kept) Q := by
  subst hy hv
  have e0 : 5 * (nI H - 1) + nI r = nI (5 * (H - 1) + r) := by rw [nI_m1 h0, j5]
  refine beg rfl (gs [27] ?_)
  refine Exists.intro ((5 * (H - 1) + r)) (And.intro (e0) (And.intro ⟨by omega, by omega⟩ ?_))
  have key : ∀ (f k : Nat) (z : Int32) (row pu rows : Nat → Int32) (v8 v9 : Option Value), k + f = 10 → (∀ i, i < k → rows i = (ukG kd th M H R n a r) i) → wp (0, 0, callok (d + 4)) (mcode 173) (qE 0 0 Q) 27 [some (.ref 0), some (.int x), some (.int (nI a)), some (.int (nI r)), some (.int (5 * (nI H - 1) + nI r)), some (.int (th (5 * (H - 1) + r))), some (.int (nI (ulN (ukG kd th M H R n a r) k))), some (.int (nI k)), v8, v9] [] (mw (nI H) (nI R) dy (nI S) (nI L) po rh rr (nI S8) (nI S2) kd (upd th (5 * (H - 1) + r) z) mc wn sd sp st tx rk rt rm2 rw2 row past pu pin rows kept) 0 0 := by
    intro f
    induction f with
    | zero =>
      intro k z row pu rows v8 v9 hk hrw
      obtain rfl : k = 10 := by omega
      refine gs [27] ?_
      refine br_t ((by decide)) ?_
      refine Exists.intro ((5 * (H - 1) + r)) (And.intro (e0) (And.intro ⟨by omega, by omega⟩ ?_))
      rw [upd_upd, upd_own]
      exact fin0 (hQ row pu rows)
    | succ f ih =>
      intro k z row pu rows v8 v9 hk hrw
      refine gs [27, 62] ?_
      refine br_f ((show ¬ (9 : Int32) < nI k from nI_nlt (a := 9) (by omega) (by omega))) ?_
      refine Exists.intro ((5 * (H - 1) + r)) (And.intro (e0) (And.intro ⟨by omega, by omega⟩ ?_))
      rw [upd_upd]
      refine Exists.intro [0, 1, 2, 3, 4, 5, 6, 7, 8, 9, 10, 11, 12, 13, 14, 15, 16, 17, 18] (Exists.intro [.ref 0, .int x, .int (nI a)] (Exists.intro ((mw (nI H) (nI R) dy (nI S) (nI L) po rh rr (nI S8) (nI S2) kd (upd th (5 * (H - 1) + r) (nI k)) mc wn sd sp st tx rk rt rm2 rw2 row past pu pin rows kept)) (Exists.intro 0 (Exists.intro 0 (And.intro ⟨rfl, rfl, Nat.le_of_ble_eq_true rfl, rfl, rfl, rfl, ⟨0, _, rfl, rfl⟩⟩ (And.intro (Nat.le_refl _) (And.intro (Nat.le_refl _) ?_)))))))
      refine m_rowBehind (n := n) h6 h0 h5 hm hx hn rfl ha (fun row pu => ?_)
      rw [q_all rfl]
      refine Exists.intro (k) (And.intro (rfl) (And.intro ⟨by omega, by omega⟩ ?_))
      have hrw' : ∀ i, i < k + 1 → upd rows k ((ukG kd th M H R n a r) k) i = (ukG kd th M H R n a r) i := by
        intro i hi
        by_cases e : i = k
        · rw [e, up_s]
        · rw [up_n _ _ e, hrw i (by omega)]
      refine up (W := fun j => wp (0, 0, callok (d + 4)) (mcode 173) (qE 0 0 Q) 62 [some (.ref 0), some (.int x), some (.int (nI a)), some (.int (nI r)), some (.int (5 * (nI H - 1) + nI r)), some (.int (th (5 * (H - 1) + r))), some (.int (nI (ulN (ukG kd th M H R n a r) k))), some (.int (nI k)), some (.int (nI (smN (ukG kd th M H R n a r) k j))), some (.int (nI j))] [] (mw (nI H) (nI R) dy (nI S) (nI L) po rh rr (nI S8) (nI S2) kd (upd th (5 * (H - 1) + r) (nI k)) mc wn sd sp st tx rk rt rm2 rw2 row past pu pin (upd rows k ((ukG kd th M H R n a r) k)) kept) 0 0) k ?_ ?_
      · refine gs [27, 62] ?_
        refine br_f ((nI_nlt (by omega) (by omega))) ?_
        have h9 := ih (k + 1) (nI k) row pu (upd rows k ((ukG kd th M H R n a r) k)) (some (.int (nI (smN (ukG kd th M H R n a r) k k)))) (some (.int (nI k))) (by omega) hrw'
        rw [nI_succ k, ulN] at h9
        have hle := smN_le (g := (ukG kd th M H R n a r)) (v := k) k
        refine br_c (fun c => ?_) (fun c => ?_)
        · rw [if_pos ((nI_eq (b := 0) (by omega) (by omega)).mp c), nI_succ] at h9
          exact h9
        · rw [if_neg (fun z => c (show nI (smN (ukG kd th M H R n a r) k k) = 0 by rw [z]; rfl)), Nat.add_zero (ulN (ukG kd th M H R n a r) k), ← Int32.add_zero (nI (ulN (ukG kd th M H R n a r) k))] at h9
          exact h9
      · intro j hj ihj
        refine gs [62] ?_
        refine br_t ((nI_lt hj (by omega))) ?_
        refine Exists.intro (j) (And.intro (rfl) (And.intro ⟨by omega, by omega⟩ ?_))
        refine Exists.intro (k) (And.intro (rfl) (And.intro ⟨by omega, by omega⟩ ?_))
        rw [hrw' j (by omega), hrw' k (by omega)]
        rw [nI_succ j, smN] at ihj
        refine br_c (fun c => ?_) (fun c => ?_)
        · rw [if_pos c, nI_succ] at ihj
          exact ihj
        · rw [if_neg c, Nat.add_zero (smN (ukG kd th M H R n a r) k j), ← Int32.add_zero (nI (smN (ukG kd th M H R n a r) k j))] at ihj
          exact ihj
  have h9 := key 10 0 (th (5 * (H - 1) + r)) row pu rows none none (by omega) (fun i hi => absurd hi (Nat.not_lt_zero i))
  rw [upd_own] at h9
  exact h9
end MK
