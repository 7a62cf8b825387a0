/-! THE REFERENCE: one -/
abbrev onC (kd th wi : Nat → Int32) (M H R n j : Nat) (z : Int32) : Nat := pop 10 (metN wi (itT kd M H R n (upd th j z)) R)
def onR (kd th wi : Nat → Int32) (M H R n : Nat) : Nat → Nat → Int32 × Int32 → Int32 × Int32
  | 0, _, s => s
  | f + 1, i, s => onR kd th wi M H R n f (i + 1) (if i / 10 % 10 < R then (if th (5 * (i / 100) + i / 10 % 10) = nI (i % 10) then s else if s.2 < nI (onC kd th wi M H R n (5 * (i / 100) + i / 10 % 10) (nI (i % 10))) then (nI i, nI (onC kd th wi M H R n (5 * (i / 100) + i / 10 % 10) (nI (i % 10)))) else s) else s)
section MM
variable {d : Nat} {hs rm dy sn ln po rh rr pn kn : Int32} {kd th mc wn sd sp st tx rk rt rm2 rw2 row past pu pin rows kept : Nat → Int32} {wi : Nat → Int32} {H R M a b n m k r L S S2 S8 : Nat} {x y v w u : Int32} {Q : Option Value → List aC → Prop}
theorem y_one (h6 : H ≤ 6) (h0 : 0 < H) (h5 : R ≤ 5) (hm : ∀ k, k < H → mc k = nI (if M.testBit k = true then 1 else 0)) (hw : ∀ j z, z < 10 → ∀ n k, k < R → ((¬ wn k = -4 ∧ itT kd M H R n (upd th j (nI z)) k = wn k) ↔ wi k = itT kd M H R n (upd th j (nI z)) k)) (hT : ∀ n, n ≤ 40 → x = nI n → (¬ y < 0 ∧ ¬ 1 < y) → ∀ row pu, Q (some (.int (if y = 0 then (onR kd th wi M H R n (100 * H) 0 (-4, -1)).1 else (onR kd th wi M H R n (100 * H) 0 (-4, -1)).2))) (mw (nI H) (nI R) dy (nI S) (nI L) po rh rr (nI S8) (nI S2) kd th mc wn sd sp st tx rk rt rm2 rw2 row past pu pin rows kept)) (hF : ¬ ((¬ x < 0 ∧ ¬ 40 < x) ∧ ¬ y < 0 ∧ ¬ 1 < y) → Q (some (.int (-1))) (mw (nI H) (nI R) dy (nI S) (nI L) po rh rr (nI S8) (nI S2) kd th mc wn sd sp st tx rk rt rm2 rw2 row past pu pin rows kept)) : callok (d + 5) 165 0 0 [.ref 0, .int x, .int y] (mw (nI H) (nI R) dy (nI S) (nI L) po rh rr (nI S8) (nI S2) kd th mc wn sd sp st tx rk rt rm2 rw2 row past pu pin rows kept) Q := by
  refine beg rfl (gs [30] ?_)
  refine Exists.intro [] (Exists.intro [.int x, .int 0, .int 40] (Exists.intro ([]) (Exists.intro 0 (Exists.intro 0 (And.intro ⟨rfl, rfl, Nat.le_of_ble_eq_true rfl, rfl, rfl, rfl, trivial⟩ (And.intro (Nat.le_refl _) (And.intro (Nat.le_refl _) ?_)))))))
  refine m_in (fun c c2 => ?_) (fun c => ?_)
  · rw [p_nil]
    refine br_f ((by decide)) ?_
    refine Exists.intro [] (Exists.intro [.int y, .int 0, .int 1] (Exists.intro ([]) (Exists.intro 0 (Exists.intro 0 (And.intro ⟨rfl, rfl, Nat.le_of_ble_eq_true rfl, rfl, rfl, rfl, trivial⟩ (And.intro (Nat.le_refl _) (And.intro (Nat.le_refl _) ?_)))))))
    refine m_in (fun c3 c4 => ?_) (fun c3 => ?_)
    · rw [p_nil]
      refine br_f ((by decide)) ?_
      obtain ⟨n, hn, rfl⟩ := nI_of2 (M := 40) (n := 40) rfl c (Int32.not_lt.mp c2)
      have hq := hT n hn rfl ⟨c3, c4⟩
      have eH : 100 * nI H = nI (100 * H) := by rw [show (100 : Int32) = nI 100 from rfl, pk_mul]
      have key : ∀ (f i : Nat) (s : Int32 × Int32) (th' row pu : Nat → Int32) (v6 v7 v8 v9 v10 : Option Value), i + f = 100 * H → th' = th → onR kd th wi M H R n f i s = (onR kd th wi M H R n (100 * H) 0 (-4, -1)) → wp (0, 0, callok (d + 4)) (mcode 165) (qE 0 0 Q) 30 [some (.ref 0), some (.int (nI n)), some (.int y), some (.int s.1), some (.int s.2), some (.int (nI i)), v6, v7, v8, v9, v10] [] (mw (nI H) (nI R) dy (nI S) (nI L) po rh rr (nI S8) (nI S2) kd th' mc wn sd sp st tx rk rt rm2 rw2 row past pu pin rows kept) 0 0 := by
        intro f
        induction f with
        | zero =>
          intro i s th' row pu v6 v7 v8 v9 v10 hi et e
          subst et
          refine gs [30] ?_
          refine br_f ((show ¬ nI i < 100 * nI H by rw [eH]; exact nI_nlt (by omega) (by omega))) ?_
          rw [onR] at e
          rw [← e] at hq
          refine br_c (fun c5 => ?_) (fun c5 => ?_)
          · rw [if_pos c5] at hq
            exact fin0 (hq row pu)
          · rw [if_neg c5] at hq
            exact fin0 (hq row pu)
        | succ f ih =>
          intro i s th' row pu v6 v7 v8 v9 v10 hi et e
          subst et
          have er : nI i / 10 - nI i / 10 / 10 * 10 = nI (i / 10 % 10) := by rw [show (10 : Int32) = nI 10 from rfl, pk_div (by omega) (by omega) (by omega), pk_rem (by omega) (by omega) (by omega)]
          have e1 : nI i / 100 = nI (i / 100) := by rw [show (100 : Int32) = nI 100 from rfl, pk_div (by omega) (by omega) (by omega)]
          have ev : nI i - nI i / 10 * 10 = nI (i % 10) := by rw [show (10 : Int32) = nI 10 from rfl, pk_rem (by omega) (by omega) (by omega)]
          have eJ : 5 * (nI i / 100) + (nI i / 10 - nI i / 10 / 10 * 10) = nI (5 * (i / 100) + i / 10 % 10) := by rw [er, e1, j5]
          refine gs [30] ?_
          refine br_t ((show nI i < 100 * nI H by rw [eH]; exact nI_lt (by omega) (by omega))) ?_
          refine And.intro (by decide) ?_
          refine And.intro (by decide) ?_
          refine And.intro (by decide) ?_
          rw [onR] at e
          refine br_c (fun c5 => ?_) (fun c5 => ?_)
          · have c5' : nI i / 10 - nI i / 10 / 10 * 10 < nI R := c5
            rw [er] at c5'
            have c6 := (nI_ltI (by omega) (by omega)).mp c5'
            rw [if_pos c6] at e
            have hw' := hw (5 * (i / 100) + i / 10 % 10) (i % 10) (by omega) n
            rw [← ev] at e hw'
            refine Exists.intro ((5 * (i / 100) + i / 10 % 10)) (And.intro (eJ) (And.intro ⟨by omega, by omega⟩ ?_))
            refine And.intro (by decide) ?_
            refine Exists.intro ((5 * (i / 100) + i / 10 % 10)) (And.intro (eJ) (And.intro ⟨by omega, by omega⟩ ?_))
            refine Exists.intro [0, 1, 2, 3, 4, 5, 6, 7, 8, 9, 10, 11, 12, 13, 14, 15, 16, 17, 18] (Exists.intro [.ref 0, .int (nI n)] (Exists.intro ((mw (nI H) (nI R) dy (nI S) (nI L) po rh rr (nI S8) (nI S2) kd (upd th' (5 * (i / 100) + i / 10 % 10) (nI i - nI i / 10 * 10)) mc wn sd sp st tx rk rt rm2 rw2 row past pu pin rows kept)) (Exists.intro 0 (Exists.intro 0 (And.intro ⟨rfl, rfl, Nat.le_of_ble_eq_true rfl, rfl, rfl, rfl, ⟨0, _, rfl, rfl⟩⟩ (And.intro (Nat.le_refl _) (And.intro (Nat.le_refl _) ?_)))))))
            refine m_metBehind (wi := wi) h6 h5 h0 hm rfl (by omega) hw' (fun row pu => ?_)
            rw [q_all rfl]
            refine Exists.intro [] (Exists.intro [.int (nI (metN wi (itT kd M H R n (upd th' (5 * (i / 100) + i / 10 % 10) (nI i - nI i / 10 * 10))) R))] (Exists.intro ([]) (Exists.intro 0 (Exists.intro 0 (And.intro ⟨rfl, rfl, Nat.le_of_ble_eq_true rfl, rfl, rfl, rfl, trivial⟩ (And.intro (Nat.le_refl _) (And.intro (Nat.le_refl _) ?_)))))))
            refine m_bits rfl (Nat.lt_of_lt_of_le (metN_32 h5) (by decide)) ?_
            rw [p_nil]
            refine Exists.intro ((5 * (i / 100) + i / 10 % 10)) (And.intro (eJ) (And.intro ⟨by omega, by omega⟩ ?_))
            refine And.intro (by decide) ?_
            refine br_c (fun k1 => ?_) (fun k1 => ?_)
            · rw [if_pos k1] at e
              refine br_t ((rfl)) ?_
              refine br_t ((rfl)) ?_
              have h9 := ih (i + 1) s (upd (upd th' (5 * (i / 100) + i / 10 % 10) (nI i - nI i / 10 * 10)) (5 * (i / 100) + i / 10 % 10) (th' (5 * (i / 100) + i / 10 % 10))) row pu (some (.int (nI i / 100))) (some (.int (nI i / 10 - nI i / 10 / 10 * 10))) (some (.int (th' (5 * (i / 100) + i / 10 % 10)))) (some (.int (nI (onC kd th' wi M H R n (5 * (i / 100) + i / 10 % 10) (nI i - nI i / 10 * 10))))) (some (.int 0)) (by omega) (by rw [upd_upd, upd_own]) e
              rw [nI_succ i] at h9
              exact h9
            · rw [if_neg k1] at e
              refine br_c (fun k2 => ?_) (fun k2 => ?_)
              · have k2 : s.2 < nI (onC kd th' wi M H R n (5 * (i / 100) + i / 10 % 10) (nI i - nI i / 10 * 10)) := k2
                rw [if_pos k2] at e
                refine br_f ((by decide)) ?_
                refine br_f ((by decide)) ?_
                have h9 := ih (i + 1) (nI i, nI (onC kd th' wi M H R n (5 * (i / 100) + i / 10 % 10) (nI i - nI i / 10 * 10))) (upd (upd th' (5 * (i / 100) + i / 10 % 10) (nI i - nI i / 10 * 10)) (5 * (i / 100) + i / 10 % 10) (th' (5 * (i / 100) + i / 10 % 10))) row pu (some (.int (nI i / 100))) (some (.int (nI i / 10 - nI i / 10 / 10 * 10))) (some (.int (th' (5 * (i / 100) + i / 10 % 10)))) (some (.int (nI (onC kd th' wi M H R n (5 * (i / 100) + i / 10 % 10) (nI i - nI i / 10 * 10))))) (some (.int 1)) (by omega) (by rw [upd_upd, upd_own]) e
                rw [nI_succ i] at h9
                exact h9
              · have k2 : ¬ s.2 < nI (onC kd th' wi M H R n (5 * (i / 100) + i / 10 % 10) (nI i - nI i / 10 * 10)) := k2
                rw [if_neg k2] at e
                refine br_t ((rfl)) ?_
                refine br_t ((rfl)) ?_
                have h9 := ih (i + 1) s (upd (upd th' (5 * (i / 100) + i / 10 % 10) (nI i - nI i / 10 * 10)) (5 * (i / 100) + i / 10 % 10) (th' (5 * (i / 100) + i / 10 % 10))) row pu (some (.int (nI i / 100))) (some (.int (nI i / 10 - nI i / 10 / 10 * 10))) (some (.int (th' (5 * (i / 100) + i / 10 % 10)))) (some (.int (nI (onC kd th' wi M H R n (5 * (i / 100) + i / 10 % 10) (nI i - nI i / 10 * 10))))) (some (.int 0)) (by omega) (by rw [upd_upd, upd_own]) e
                rw [nI_succ i] at h9
                exact h9
          · have c6 : ¬ i / 10 % 10 < R := fun z => c5 (show nI i / 10 - nI i / 10 / 10 * 10 < nI R by rw [er]; exact nI_lt z (by omega))
            rw [if_neg c6] at e
            have h9 := ih (i + 1) s th' row pu (some (.int (nI i / 100))) (some (.int (nI i / 10 - nI i / 10 / 10 * 10))) v8 v9 v10 (by omega) rfl e
            rw [nI_succ i] at h9
            exact h9
      exact key (100 * H) 0 (-4, -1) th row pu none none none none none (by omega) rfl rfl
    · rw [p_nil]
      refine br_t ((rfl)) ?_
      exact fin0 (hF (fun z => c3 z.2))
  · rw [p_nil]
    refine br_t ((rfl)) ?_
    exact fin0 (hF (fun z => c z.1))
end MM
