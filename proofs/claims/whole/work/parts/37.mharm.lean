/-! THE REFERENCE: harm -/
section MJ
variable {d : Nat} {hs rm dy sn ln po rh rr pn kn : Int32} {kd th mc wn sd sp st tx rk rt rm2 rw2 row past pu pin rows kept : Nat → Int32} {wi : Nat → Int32} {H R M a b n m k L S S2 S8 : Nat} {x y v w u : Int32} {Q : Option Value → List aC → Prop}
theorem y_harm (h6 : H ≤ 6) (h0 : 0 < H) (h5 : R ≤ 5) (hm : ∀ k, k < H → mc k = nI (if M.testBit k = true then 1 else 0)) (hw : ∀ M' n k, k < R → ((¬ wn k = -4 ∧ itT kd M' H R n th k = wn k) ↔ wi k = itT kd M' H R n th k)) (hT : ∀ n, n ≤ 40 → x = nI n → (¬ y < 0 ∧ ¬ 1 < y) → ∀ row pu, Q (some (.int (if (wmR kd th wi M H R n H 0 (1048576, -4)).2 = -4 then (wmR kd th wi M H R n H 0 (1048576, -4)).2 else if y = 0 then (wmR kd th wi M H R n H 0 (1048576, -4)).2 else (wmR kd th wi M H R n H 0 (1048576, -4)).1))) (mw (nI H) (nI R) dy (nI S) (nI L) po rh rr (nI S8) (nI S2) kd th mc wn sd sp st tx rk rt rm2 rw2 row past pu pin rows kept)) (hF : ¬ ((¬ x < 0 ∧ ¬ 40 < x) ∧ ¬ y < 0 ∧ ¬ 1 < y) → Q (some (.int (-1))) (mw (nI H) (nI R) dy (nI S) (nI L) po rh rr (nI S8) (nI S2) kd th mc wn sd sp st tx rk rt rm2 rw2 row past pu pin rows kept)) : callok (d + 5) 166 0 0 [.ref 0, .int x, .int y] (mw (nI H) (nI R) dy (nI S) (nI L) po rh rr (nI S8) (nI S2) kd th mc wn sd sp st tx rk rt rm2 rw2 row past pu pin rows kept) Q := by
  refine beg rfl (gs [31] ?_)
  refine Exists.intro [] (Exists.intro [.int x, .int 0, .int 40] (Exists.intro ([]) (Exists.intro 0 (Exists.intro 0 (And.intro ⟨rfl, rfl, Nat.le_of_ble_eq_true rfl, rfl, rfl, rfl, trivial⟩ (And.intro (Nat.le_refl _) (And.intro (Nat.le_refl _) ?_)))))))
  refine m_in (fun c c2 => ?_) (fun c => ?_)
  · rw [p_nil]
    refine br_f ((by decide)) ?_
    refine Exists.intro [] (Exists.intro [.int y, .int 0, .int 1] (Exists.intro ([]) (Exists.intro 0 (Exists.intro 0 (And.intro ⟨rfl, rfl, Nat.le_of_ble_eq_true rfl, rfl, rfl, rfl, trivial⟩ (And.intro (Nat.le_refl _) (And.intro (Nat.le_refl _) ?_)))))))
    refine m_in (fun c3 c4 => ?_) (fun c3 => ?_)
    · rw [p_nil]
      refine br_f ((by decide)) ?_
      obtain ⟨n, hn, rfl⟩ := nI_of2 (M := 40) (n := 40) rfl c (Int32.not_lt.mp c2)
      have hq := hT n hn rfl ⟨c3, c4⟩
      have key : ∀ (f h : Nat) (s : Int32 × Int32) (row pu : Nat → Int32) (v6 : Option Value), h + f = H → wmR kd th wi M H R n f h s = (wmR kd th wi M H R n H 0 (1048576, -4)) → wp (0, 0, callok (d + 4)) (mcode 166) (qE 0 0 Q) 31 [some (.ref 0), some (.int (nI n)), some (.int y), some (.int s.2), some (.int s.1), some (.int (nI h)), v6] [] (mw (nI H) (nI R) dy (nI S) (nI L) po rh rr (nI S8) (nI S2) kd th mc wn sd sp st tx rk rt rm2 rw2 row past pu pin rows kept) 0 0 := by
        intro f
        induction f with
        | zero =>
          intro h s row pu v6 hh e
          obtain rfl : h = H := by omega
          refine gs [31] ?_
          refine br_f ((nI_nlt (by omega) (by omega))) ?_
          rw [wmR] at e
          rw [← e] at hq
          refine br_c (fun c5 => ?_) (fun c5 => ?_)
          · rw [if_pos c5] at hq
            exact fin0 (hq row pu)
          · rw [if_neg c5] at hq
            refine br_c (fun c6 => ?_) (fun c6 => ?_)
            · rw [if_pos c6] at hq
              exact fin0 (hq row pu)
            · rw [if_neg c6] at hq
              exact fin0 (hq row pu)
        | succ f ih =>
          intro h s row pu v6 hh e
          refine gs [31] ?_
          refine br_t ((nI_lt (by omega) (by omega))) ?_
          rw [wmR] at e
          refine Exists.intro (h) (And.intro (rfl) (And.intro ⟨by omega, by omega⟩ ?_))
          have hmh := hm h (by omega)
          refine br_c (fun c5 => ?_) (fun c5 => ?_)
          · have cb : ¬ M.testBit h = true := fun z => by rw [hmh, if_pos z] at c5; exact absurd c5 (by decide)
            rw [if_neg cb] at e
            refine Exists.intro (h) (And.intro (rfl) (And.intro ⟨by omega, by omega⟩ ?_))
            refine Exists.intro [0, 1, 2, 3, 4, 5, 6, 7, 8, 9, 10, 11, 12, 13, 14, 15, 16, 17, 18] (Exists.intro [.ref 0, .int (nI n)] (Exists.intro ((mw (nI H) (nI R) dy (nI S) (nI L) po rh rr (nI S8) (nI S2) kd th (upd mc h 1) wn sd sp st tx rk rt rm2 rw2 row past pu pin rows kept)) (Exists.intro 0 (Exists.intro 0 (And.intro ⟨rfl, rfl, Nat.le_of_ble_eq_true rfl, rfl, rfl, rfl, ⟨0, _, rfl, rfl⟩⟩ (And.intro (Nat.le_refl _) (And.intro (Nat.le_refl _) ?_)))))))
            refine m_metBehind (M := M ^^^ 2 ^ h) (wi := wi) h6 h5 h0 (xor_bit hm (by rw [if_neg cb]; rfl)) rfl (by omega) (hw _ n) (fun row pu => ?_)
            rw [q_all rfl]
            refine Exists.intro [] (Exists.intro [.int (nI (metN wi (itT kd (M ^^^ 2 ^ h) H R n th) R))] (Exists.intro ([]) (Exists.intro 0 (Exists.intro 0 (And.intro ⟨rfl, rfl, Nat.le_of_ble_eq_true rfl, rfl, rfl, rfl, trivial⟩ (And.intro (Nat.le_refl _) (And.intro (Nat.le_refl _) ?_)))))))
            refine m_bits rfl (Nat.lt_of_lt_of_le (metN_32 h5) (by decide)) ?_
            rw [p_nil]
            generalize (pop 10 (metN wi (itT kd (M ^^^ 2 ^ h) H R n th) R)) = mx at e ⊢
            have eu : upd (upd mc h 1) h 0 = mc := by rw [upd_upd, show (0 : Int32) = mc h from c5.symm, upd_own]
            refine Exists.intro (h) (And.intro (rfl) (And.intro ⟨by omega, by omega⟩ ?_))
            rw [eu]
            refine br_c (fun c6 => ?_) (fun c6 => ?_)
            · rw [if_pos c6] at e
              refine br_t ((c6)) ?_
              have h9 := ih (h + 1) (nI mx, nI h) row pu (some (.int (nI mx))) (by omega) e
              rw [nI_succ h] at h9
              exact h9
            · rw [if_neg c6] at e
              refine br_f ((c6)) ?_
              have h9 := ih (h + 1) s row pu (some (.int (nI mx))) (by omega) e
              rw [nI_succ h] at h9
              exact h9
          · have cb : M.testBit h = true := by
              by_cases z : M.testBit h = true
              · exact z
              · rw [hmh, if_neg z] at c5
                exact absurd rfl c5
            rw [if_pos cb] at e
            have h9 := ih (h + 1) s row pu v6 (by omega) e
            rw [nI_succ h] at h9
            exact h9
      exact key H 0 (1048576, -4) row pu none (by omega) rfl
    · rw [p_nil]
      refine br_t ((rfl)) ?_
      exact fin0 (hF (fun z => c3 z.2))
  · rw [p_nil]
    refine br_t ((rfl)) ?_
    exact fin0 (hF (fun z => c z.1))
end MJ
