/-! THE REFERENCE: tells -/
section ML
variable {d : Nat} {hs rm dy sn ln po rh rr pn kn : Int32} {kd th mc wn sd sp st tx rk rt rm2 rw2 row past pu pin rows kept : Nat → Int32} {wi : Nat → Int32} {H R M a b n m k r L S S2 S8 : Nat} {x y v w u : Int32} {Q : Option Value → List aC → Prop}
theorem y_tells (h6 : H ≤ 6) (h0 : 0 < H) (h5 : R ≤ 5) (hm : ∀ k, k < H → mc k = nI (if M.testBit k = true then 1 else 0)) (hT : ∀ n a, n ≤ 20 → a < H → x = nI n → y = nI a → (¬ v < 0 ∧ ¬ 1 < v) → ∀ row pu rows, Q (some (.int (if v = 0 then (mtM (fun r => ulN (ukG kd th M H R n a r) 10) R 0 (0, 0)).1 else (mtM (fun r => ulN (ukG kd th M H R n a r) 10) R 0 (0, 0)).2))) (mw (nI H) (nI R) dy (nI S) (nI L) po rh rr (nI S8) (nI S2) kd th mc wn sd sp st tx rk rt rm2 rw2 row past pu pin rows kept)) (hF : ¬ ((¬ x < 0 ∧ ¬ 20 < x) ∧ inR y H ∧ ¬ v < 0 ∧ ¬ 1 < v) → Q (some (.int (-1))) (mw (nI H) (nI R) dy (nI S) (nI L) po rh rr (nI S8) (nI S2) kd th mc wn sd sp st tx rk rt rm2 rw2 row past pu pin rows kept)) : callok (d + 6) 174 0 0 [.ref 0, .int x, .int y, .int v] (mw (nI H) (nI R) dy (nI S) (nI L) po rh rr (nI S8) (nI S2) kd th mc wn sd sp st tx rk rt rm2 rw2 row past pu pin rows kept) Q := by
  refine beg rfl (gs [38] ?_)
  refine Exists.intro [] (Exists.intro [.int x, .int 0, .int 20] (Exists.intro ([]) (Exists.intro 0 (Exists.intro 0 (And.intro ⟨rfl, rfl, Nat.le_of_ble_eq_true rfl, rfl, rfl, rfl, trivial⟩ (And.intro (Nat.le_refl _) (And.intro (Nat.le_refl _) ?_)))))))
  refine m_in (fun c c2 => ?_) (fun c => ?_)
  · rw [p_nil]
    refine br_f ((by decide)) ?_
    refine Exists.intro [0, 1, 2, 3, 4, 5, 6, 7, 8, 9, 10, 11, 12, 13, 14, 15, 16, 17, 18] (Exists.intro [.ref 0, .int y] (Exists.intro ((mw (nI H) (nI R) dy (nI S) (nI L) po rh rr (nI S8) (nI S2) kd th mc wn sd sp st tx rk rt rm2 rw2 row past pu pin rows kept)) (Exists.intro 0 (Exists.intro 0 (And.intro ⟨rfl, rfl, Nat.le_of_ble_eq_true rfl, rfl, rfl, rfl, ⟨0, _, rfl, rfl⟩⟩ (And.intro (Nat.le_refl _) (And.intro (Nat.le_refl _) ?_)))))))
    refine m_isHouse h6 h0 (fun c6 => ?_) (fun c6 => ?_)
    · rw [q_all rfl]
      refine br_f ((by decide)) ?_
      refine Exists.intro [] (Exists.intro [.int v, .int 0, .int 1] (Exists.intro ([]) (Exists.intro 0 (Exists.intro 0 (And.intro ⟨rfl, rfl, Nat.le_of_ble_eq_true rfl, rfl, rfl, rfl, trivial⟩ (And.intro (Nat.le_refl _) (And.intro (Nat.le_refl _) ?_)))))))
      refine m_in (fun c3 c4 => ?_) (fun c3 => ?_)
      · rw [p_nil]
        refine br_f ((by decide)) ?_
        obtain ⟨n, hn, rfl⟩ := nI_of2 (M := 20) (n := 20) rfl c (Int32.not_lt.mp c2)
        obtain ⟨a, ha, rfl⟩ := inR_of c6 (by omega)
        have hq := hT n a hn ha rfl rfl ⟨c3, c4⟩
        have key : ∀ (f r : Nat) (s : Int32 × Int32) (row pu rows : Nat → Int32) (v7 : Option Value), r + f = R → mtM (fun r => ulN (ukG kd th M H R n a r) 10) f r s = (mtM (fun r => ulN (ukG kd th M H R n a r) 10) R 0 (0, 0)) → wp (0, 0, callok (d + 5)) (mcode 174) (qE 0 0 Q) 38 [some (.ref 0), some (.int (nI n)), some (.int (nI a)), some (.int v), some (.int s.1), some (.int s.2), some (.int (nI r)), v7] [] (mw (nI H) (nI R) dy (nI S) (nI L) po rh rr (nI S8) (nI S2) kd th mc wn sd sp st tx rk rt rm2 rw2 row past pu pin rows kept) 0 0 := by
          intro f
          induction f with
          | zero =>
            intro r s row pu rows v7 hr e
            obtain rfl : r = R := by omega
            refine gs [38] ?_
            refine br_f ((nI_nlt (by omega) (by omega))) ?_
            rw [mtM] at e
            rw [← e] at hq
            refine br_c (fun c5 => ?_) (fun c5 => ?_)
            · rw [if_pos c5] at hq
              exact fin0 (hq row pu rows)
            · rw [if_neg c5] at hq
              exact fin0 (hq row pu rows)
          | succ f ih =>
            intro r s row pu rows v7 hr e
            refine gs [38] ?_
            refine br_t ((nI_lt (by omega) (by omega))) ?_
            refine Exists.intro [0, 1, 2, 3, 4, 5, 6, 7, 8, 9, 10, 11, 12, 13, 14, 15, 16, 17, 18] (Exists.intro [.ref 0, .int (nI n), .int (nI a), .int (nI r)] (Exists.intro ((mw (nI H) (nI R) dy (nI S) (nI L) po rh rr (nI S8) (nI S2) kd th mc wn sd sp st tx rk rt rm2 rw2 row past pu pin rows kept)) (Exists.intro 0 (Exists.intro 0 (And.intro ⟨rfl, rfl, Nat.le_of_ble_eq_true rfl, rfl, rfl, rfl, ⟨0, _, rfl, rfl⟩⟩ (And.intro (Nat.le_refl _) (And.intro (Nat.le_refl _) ?_)))))))
            refine m_unlike (n := n) (a := a) (r := r) (M := M) h6 h0 h5 hm rfl (by omega) rfl (by omega) rfl (by omega) (fun row pu rows => ?_)
            rw [q_all rfl]
            rw [mtM] at e
            have e : mtM (fun r => ulN (ukG kd th M H R n a r) 10) f (r + 1) (if s.2 < nI (ulN (ukG kd th M H R n a r) 10) then (nI r, nI (ulN (ukG kd th M H R n a r) 10)) else s) = (mtM (fun r => ulN (ukG kd th M H R n a r) 10) R 0 (0, 0)) := e
            generalize ulN (ukG kd th M H R n a r) 10 = ux at e ⊢
            refine br_c (fun c5 => ?_) (fun c5 => ?_)
            · rw [if_pos c5] at e
              refine br_t ((c5)) ?_
              have h9 := ih (r + 1) (nI r, nI ux) row pu rows (some (.int (nI ux))) (by omega) e
              rw [nI_succ r] at h9
              exact h9
            · rw [if_neg c5] at e
              refine br_f ((c5)) ?_
              have h9 := ih (r + 1) s row pu rows (some (.int (nI ux))) (by omega) e
              rw [nI_succ r] at h9
              exact h9
        exact key R 0 (0, 0) row pu rows none (by omega) rfl
      · rw [p_nil]
        refine br_t ((rfl)) ?_
        exact fin0 (hF (fun z => c3 z.2.2))
    · rw [q_all rfl]
      refine br_t ((rfl)) ?_
      exact fin0 (hF (fun z => c6 z.2.1))
  · rw [p_nil]
    refine br_t ((rfl)) ?_
    exact fin0 (hF (fun z => c z.1))
end ML
