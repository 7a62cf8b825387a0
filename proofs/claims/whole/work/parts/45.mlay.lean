/-! THE REFERENCE: items, fault, lay -/
def wnf (x : Int32) : Int32 := if x = 10 then -4 else x
def rdR (rm2 rw2 wi : Nat → Int32) (M : Nat) : Prop := (∀ k, k < 6 → rm2 k = nI (if M.testBit k = true then 1 else 0)) ∧ ∀ k, k < 5 → rw2 k = wnf (wi k)
section MT
variable {d : Nat} {hs rm dy sn ln po rh rr pn kn : Int32} {kd th mc wn sd sp st tx rk rt rm2 rw2 row past pu pin rows kept : Nat → Int32} {wi : Nat → Int32} {H R M a b n m k r p G T L S S2 S8 : Nat} {x y v w u : Int32} {Q : Option Value → List aC → Prop}
theorem m_readsItem (hL : L ≤ 200) (hp : p ≤ 200) (hG : G ≤ 6) (hR : T ≤ 5) (hr : rdR rm2 rw2 wi M) (hT : ∀ (q : Nat × PS) (rm2 rw2 : Nat → Int32), itm tx L p (rk, rt, wi, G, T, M) = some q → rdR rm2 rw2 q.2.2.2.1 q.2.2.2.2.2.2 → Q (some (.int 1)) (mw (nI H) (nI R) dy (nI S) (nI L) (nI q.1) (nI q.2.2.2.2.1) (nI q.2.2.2.2.2.1) (nI S8) (nI S2) kd th mc wn sd sp st tx q.2.1 q.2.2.1 rm2 rw2 row past pu pin rows kept)) (hF : itm tx L p (rk, rt, wi, G, T, M) = none → ∀ po rt, Q (some (.int 0)) (mw (nI H) (nI R) dy (nI S) (nI L) po (nI G) (nI T) (nI S8) (nI S2) kd th mc wn sd sp st tx rk rt rm2 rw2 row past pu pin rows kept)) : callok (d + 4) 132 0 0 [.ref 0] (mw (nI H) (nI R) dy (nI S) (nI L) (nI p) (nI G) (nI T) (nI S8) (nI S2) kd th mc wn sd sp st tx rk rt rm2 rw2 row past pu pin rows kept) Q := by
  refine beg rfl (gs [] ?_)
  refine Exists.intro [0, 1, 2, 3, 4, 5, 6, 7, 8, 9, 10, 11, 12, 13, 14, 15, 16, 17, 18] (Exists.intro [.ref 0] (Exists.intro ((mw (nI H) (nI R) dy (nI S) (nI L) (nI p) (nI G) (nI T) (nI S8) (nI S2) kd th mc wn sd sp st tx rk rt rm2 rw2 row past pu pin rows kept)) (Exists.intro 0 (Exists.intro 0 (And.intro ⟨rfl, rfl, Nat.le_of_ble_eq_true rfl, rfl, rfl, rfl, ⟨0, _, rfl, rfl⟩⟩ (And.intro (Nat.le_refl _) (And.intro (Nat.le_refl _) ?_)))))))
  refine m_here hL (by omega) ?_
  rw [q_all rfl]
  have ep : nI p + 1 = nI (p + 1) := nI_1 p
  refine br_c (fun c => ?_) (fun c => ?_)
  · have c' : ltA tx L p = 104 := (hr_lt (by decide) (by decide)).mp c
    refine Exists.intro [0, 1, 2, 3, 4, 5, 6, 7, 8, 9, 10, 11, 12, 13, 14, 15, 16, 17, 18] (Exists.intro [.ref 0] (Exists.intro ((mw (nI H) (nI R) dy (nI S) (nI L) (nI p + 1) (nI G) (nI T) (nI S8) (nI S2) kd th mc wn sd sp st tx rk rt rm2 rw2 row past pu pin rows kept)) (Exists.intro 0 (Exists.intro 0 (And.intro ⟨rfl, rfl, Nat.le_of_ble_eq_true rfl, rfl, rfl, rfl, ⟨0, _, rfl, rfl⟩⟩ (And.intro (Nat.le_refl _) (And.intro (Nat.le_refl _) ?_)))))))
    rw [ep]
    refine m_readsHouse hL hp hG hR (fun ok => ?_) (fun no po rt => ?_)
    · rw [q_all rfl]
      exact And.intro (Or.inr rfl) (fin0 (hT (p + 3 + hsW tx L p + 1, (upd rk G (fgA tx L (p + 1)), hsR tx L p rt G (hsW tx L p), wi, G + 1, hsW tx L p, M)) rm2 rw2 (by unfold itm; rw [if_pos c', if_pos ok]) hr))
    · rw [q_all rfl]
      exact And.intro (Or.inl rfl) (fin0 (hF (by unfold itm; rw [if_pos c', if_neg no]) po rt))
  · have c' : ¬ ltA tx L p = 104 := fun z => c ((hr_lt (by decide) (by decide)).mpr z)
    refine br_c (fun c2 => ?_) (fun c2 => ?_)
    · have c2' : ltA tx L p = 109 := (hr_lt (by decide) (by decide)).mp c2
      refine Exists.intro [0, 1, 2, 3, 4, 5, 6, 7, 8, 9, 10, 11, 12, 13, 14, 15, 16, 17, 18] (Exists.intro [.ref 0] (Exists.intro ((mw (nI H) (nI R) dy (nI S) (nI L) (nI p + 1) (nI G) (nI T) (nI S8) (nI S2) kd th mc wn sd sp st tx rk rt rm2 rw2 row past pu pin rows kept)) (Exists.intro 0 (Exists.intro 0 (And.intro ⟨rfl, rfl, Nat.le_of_ble_eq_true rfl, rfl, rfl, rfl, ⟨0, _, rfl, rfl⟩⟩ (And.intro (Nat.le_refl _) (And.intro (Nat.le_refl _) ?_)))))))
      rw [ep]
      refine m_readsMouse hL hp hG (fun a ha ea ek => ?_) (fun no po => ?_)
      · rw [q_all rfl]
        have ok : (¬ fgA tx L (p + 1) < 0 ∧ fgA tx L (p + 1) < nI G) ∧ ltA tx L (p + 2) = 59 := ⟨by rw [ea]; exact inR_nI ha (by omega), ek⟩
        have ec : (fgA tx L (p + 1)).toNatClampNeg = a := by rw [ea, nI_clamp (by omega)]
        have hrr : rdR (upd rm2 a 1) rw2 wi (if M.testBit a = true then M else M ^^^ 2 ^ a) := by
          refine ⟨fun k hk => ?_, hr.2⟩
          by_cases t : M.testBit a = true
          · rw [if_pos t]
            by_cases e : k = a
            · rw [e, up_s, if_pos t]
              rfl
            · rw [up_n _ _ e, hr.1 k hk]
          · rw [if_neg t]
            exact xor_bit (H := 6) hr.1 (by rw [if_neg t]; rfl) k hk
        exact And.intro (Or.inr rfl) (fin0 (hT (p + 3, (rk, rt, wi, G, T, if M.testBit a = true then M else M ^^^ 2 ^ a)) (upd rm2 a 1) rw2 (by unfold itm; rw [if_neg c', if_pos c2', if_pos ok, ec]) hrr))
      · rw [q_all rfl]
        exact And.intro (Or.inl rfl) (fin0 (hF (by unfold itm; rw [if_neg c', if_pos c2']; exact if_neg (fun z => no z)) po rt))
    · have c2' : ¬ ltA tx L p = 109 := fun z => c2 ((hr_lt (by decide) (by decide)).mpr z)
      refine br_c (fun c3 => ?_) (fun c3 => ?_)
      · have c3' : ltA tx L p = 113 := (hr_lt (by decide) (by decide)).mp c3
        refine Exists.intro [0, 1, 2, 3, 4, 5, 6, 7, 8, 9, 10, 11, 12, 13, 14, 15, 16, 17, 18] (Exists.intro [.ref 0] (Exists.intro ((mw (nI H) (nI R) dy (nI S) (nI L) (nI p + 1) (nI G) (nI T) (nI S8) (nI S2) kd th mc wn sd sp st tx rk rt rm2 rw2 row past pu pin rows kept)) (Exists.intro 0 (Exists.intro 0 (And.intro ⟨rfl, rfl, Nat.le_of_ble_eq_true rfl, rfl, rfl, rfl, ⟨0, _, rfl, rfl⟩⟩ (And.intro (Nat.le_refl _) (And.intro (Nat.le_refl _) ?_)))))))
        rw [ep]
        refine m_readsWant hL hp hR (fun a ha ea ok => ?_) (fun no po => ?_)
        · rw [q_all rfl]
          have ec : (fgA tx L (p + 1)).toNatClampNeg = a := by rw [ea, nI_clamp (by omega)]
          refine br_f ((by decide)) ?_
          have hrr : rdR rm2 (upd rw2 a (fgA tx L (p + 3))) (upd wi a (fgA tx L (p + 3))) M := by
            refine ⟨hr.1, fun k hk => ?_⟩
            by_cases e : k = a
            · rw [e, up_s, up_s]
              unfold wnf
              rw [if_neg (fun z => ok.2.1.2 (by rw [z]; decide))]
            · rw [up_n _ _ e, up_n _ _ e, hr.2 k hk]
          have ok2 : ((¬ fgA tx L (p + 1) < 0 ∧ fgA tx L (p + 1) < nI T) ∧ ltA tx L (p + 2) = 44) ∧ (¬ fgA tx L (p + 3) < 0 ∧ ¬ 9 < fgA tx L (p + 3)) ∧ ltA tx L (p + 4) = 59 := ok
          exact And.intro (Or.inr rfl) (fin0 (hT (p + 5, (rk, rt, upd wi a (fgA tx L (p + 3)), G, T, M)) rm2 (upd rw2 a (fgA tx L (p + 3))) (by unfold itm; rw [if_neg c', if_neg c2', if_pos c3', if_pos ok2, ec]) hrr))
        · rw [q_all rfl]
          refine br_t ((rfl)) ?_
          exact And.intro (Or.inl rfl) (fin0 (hF (by unfold itm; rw [if_neg c', if_neg c2', if_pos c3']; exact if_neg (fun z => no z)) po rt))
      · have c3' : ¬ ltA tx L p = 113 := fun z => c3 ((hr_lt (by decide) (by decide)).mpr z)
        exact And.intro (Or.inl rfl) (fin0 (hF (by unfold itm; rw [if_neg c', if_neg c2', if_neg c3']) _ rt))
theorem m_fault (hL : L ≤ 200) (hOK : (rdG tx L 200 0 (rk, rt, fun _ => 10, 0, 0, 0)).1 = -4 → ∀ po rm2 rw2, rdR rm2 rw2 (rdG tx L 200 0 (rk, rt, fun _ => 10, 0, 0, 0)).2.2.2.1 (rdG tx L 200 0 (rk, rt, fun _ => 10, 0, 0, 0)).2.2.2.2.2.2 → Q (some (.int (-4))) (mw (nI H) (nI R) dy (nI S) (nI L) po (nI (rdG tx L 200 0 (rk, rt, fun _ => 10, 0, 0, 0)).2.2.2.2.1) (nI (rdG tx L 200 0 (rk, rt, fun _ => 10, 0, 0, 0)).2.2.2.2.2.1) (nI S8) (nI S2) kd th mc wn sd sp st tx (rdG tx L 200 0 (rk, rt, fun _ => 10, 0, 0, 0)).2.1 (rdG tx L 200 0 (rk, rt, fun _ => 10, 0, 0, 0)).2.2.1 rm2 rw2 row past pu pin rows kept)) (hNO : ¬ (rdG tx L 200 0 (rk, rt, fun _ => 10, 0, 0, 0)).1 = -4 → ∀ po rh rr rk' rt' rm2 rw2, Q (some (.int (rdG tx L 200 0 (rk, rt, fun _ => 10, 0, 0, 0)).1)) (mw (nI H) (nI R) dy (nI S) (nI L) po rh rr (nI S8) (nI S2) kd th mc wn sd sp st tx rk' rt' rm2 rw2 row past pu pin rows kept)) : callok (d + 5) 133 0 0 [.ref 0] (mw (nI H) (nI R) dy (nI S) (nI L) po rh rr (nI S8) (nI S2) kd th mc wn sd sp st tx rk rt rm2 rw2 row past pu pin rows kept) Q := by
  refine beg rfl (gs [17] ?_)
  refine up (W := fun k => wp (0, 0, callok (d + 4)) (mcode 133) (qE 0 0 Q) 17 [some (.ref 0), some (.int (nI k))] [] (mw (nI H) (nI R) dy (nI S) (nI L) 0 0 0 (nI S8) (nI S2) kd th mc wn sd sp st tx rk rt (flT 0 rm2 k) rw2 row past pu pin rows kept) 0 0) 6 ?_ ?_
  · refine gs [38] ?_
    refine br_f ((by decide)) ?_
    refine up (W := fun k => wp (0, 0, callok (d + 4)) (mcode 133) (qE 0 0 Q) 38 [some (.ref 0), some (.int (nI k))] [] (mw (nI H) (nI R) dy (nI S) (nI L) 0 0 0 (nI S8) (nI S2) kd th mc wn sd sp st tx rk rt (flT 0 rm2 6) (flT (-4) rw2 k) row past pu pin rows kept) 0 0) 5 ?_ ?_
    · refine gs [57] ?_
      refine br_f ((by decide)) ?_
      generalize hg : (rdG tx L 200 0 (rk, rt, fun _ => 10, 0, 0, 0)) = g at hOK hNO
      have key : ∀ (f p : Nat) (s : PS) (rm2 rw2 : Nat → Int32) (v1 : Option Value), psOK s → p ≤ L → L ≤ f + p → rdG tx L f p s = g → rdR rm2 rw2 s.2.2.1 s.2.2.2.2.2 → wp (0, 0, callok (d + 4)) (mcode 133) (qE 0 0 Q) 57 [some (.ref 0), v1] [] (mw (nI H) (nI R) dy (nI S) (nI L) (nI p) (nI s.2.2.2.1) (nI s.2.2.2.2.1) (nI S8) (nI S2) kd th mc wn sd sp st tx s.1 s.2.1 rm2 rw2 row past pu pin rows kept) 0 0 := by
        intro f
        induction f with
        | zero =>
          intro p s rm2 rw2 v1 ho hp hf e hr
          rw [rdG] at e
          subst e
          refine gs [57] ?_
          refine br_f ((show ¬ nI p < nI L from nI_nlt (by omega) (by omega))) ?_
          exact fin0 (hOK rfl _ rm2 rw2 hr)
        | succ f ih =>
          intro p s rm2 rw2 v1 ho hp hf e hr
          rw [rdG] at e
          refine gs [57] ?_
          refine br_c (fun c => ?_) (fun c => ?_)
          · have c' := (nI_ltI (by omega) (by omega)).mp c
            rw [if_pos c'] at e
            refine Exists.intro [0, 1, 2, 3, 4, 5, 6, 7, 8, 9, 10, 11, 12, 13, 14, 15, 16, 17, 18] (Exists.intro [.ref 0] (Exists.intro ((mw (nI H) (nI R) dy (nI S) (nI L) (nI p) (nI s.2.2.2.1) (nI s.2.2.2.2.1) (nI S8) (nI S2) kd th mc wn sd sp st tx s.1 s.2.1 rm2 rw2 row past pu pin rows kept)) (Exists.intro 0 (Exists.intro 0 (And.intro ⟨rfl, rfl, Nat.le_of_ble_eq_true rfl, rfl, rfl, rfl, ⟨0, _, rfl, rfl⟩⟩ (And.intro (Nat.le_refl _) (And.intro (Nat.le_refl _) ?_)))))))
            refine m_readsItem (wi := s.2.2.1) (M := s.2.2.2.2.2) hL (by omega) ho.1 ho.2.1 hr (fun q rm2 rw2 eq hr2 => ?_) (fun eq po rt => ?_)
            · rw [q_all rfl]
              refine br_f ((by decide)) ?_
              have eq' : itm tx L p s = some q := eq
              rw [eq'] at e
              have hk := itm_ok ho (p' := q.1) (s' := q.2) eq'
              exact ih q.1 q.2 rm2 rw2 _ hk.1 hk.2.2 (by omega) e hr2
            · rw [q_all rfl]
              refine br_t ((rfl)) ?_
              have eq' : itm tx L p s = none := eq
              rw [eq'] at e
              subst e
              have hne : ¬ nI p = -4 := fun z => absurd (show nI p < 0 by rw [z]; decide) (nI_pos (by omega))
              exact fin0 (hNO hne _ _ _ _ _ _ _)
          · have c' : ¬ p < L := fun z => c (nI_lt z (by omega))
            rw [if_neg c'] at e
            subst e
            exact fin0 (hOK rfl _ rm2 rw2 hr)
      exact key 200 0 (rk, rt, fun _ => 10, 0, 0, 0) (flT 0 rm2 6) (flT (-4) rw2 5) _ ⟨Nat.zero_le _, Nat.zero_le _, Nat.zero_lt_succ 63⟩ (Nat.zero_le _) (by omega) hg ⟨fun k hk => by rw [flT_eq hk]; simp; rfl, fun k hk => by rw [flT_eq hk]; rfl⟩
    · intro k hk ih
      refine gs [38] ?_
      refine br_t ((show nI k < 5 from nI_lt (b := 5) hk (by omega))) ?_
      refine Exists.intro (k) (And.intro (rfl) (And.intro ⟨by omega, by omega⟩ ?_))
      rw [flT, nI_succ k] at ih
      exact ih
  · intro k hk ih
    refine gs [17] ?_
    refine br_t ((show nI k < 6 from nI_lt (b := 6) hk (by omega))) ?_
    refine Exists.intro (k) (And.intro (rfl) (And.intro ⟨by omega, by omega⟩ ?_))
    rw [flT, nI_succ k] at ih
    exact ih
theorem y_fault (hL : L ≤ 200) (hQ : ∀ po rh rr rk' rt' rm2 rw2, Q (some (.int (rdG tx L 200 0 (rk, rt, fun _ => 10, 0, 0, 0)).1)) (mw (nI H) (nI R) dy (nI S) (nI L) po rh rr (nI S8) (nI S2) kd th mc wn sd sp st tx rk' rt' rm2 rw2 row past pu pin rows kept)) : callok (d + 5) 133 0 0 [.ref 0] (mw (nI H) (nI R) dy (nI S) (nI L) po rh rr (nI S8) (nI S2) kd th mc wn sd sp st tx rk rt rm2 rw2 row past pu pin rows kept) Q := by
  refine m_fault hL (fun e po rm2 rw2 _ => ?_) (fun e po rh rr rk' rt' rm2 rw2 => ?_)
  · rw [← e]
    exact hQ _ _ _ _ _ _ _
  · exact hQ _ _ _ _ _ _ _
theorem mw_E2 {hs rm dy sn ln po rh rr pn kn : Int32} {kd th mc wn kd' th' mc' wn' sd sp st tx rk rt rm2 rw2 row past pu pin rows kept : Nat → Int32} (h0 : ∀ j, j < 6 → kd j = kd' j) (h1 : ∀ j, j < 30 → th j = th' j) (h2 : ∀ j, j < 6 → mc j = mc' j) (h3 : ∀ j, j < 5 → wn j = wn' j) : hE (mw hs rm dy sn ln po rh rr pn kn kd th mc wn sd sp st tx rk rt rm2 rw2 row past pu pin rows kept) (mw hs rm dy sn ln po rh rr pn kn kd' th' mc' wn' sd sp st tx rk rt rm2 rw2 row past pu pin rows kept) := ⟨rfl, ⟨rfl, h0⟩, ⟨rfl, h1⟩, ⟨rfl, h2⟩, ⟨rfl, h3⟩, hE_rf _⟩
theorem y_lay (hL : L ≤ 200) (hT : (rdG tx L 200 0 (rk, rt, fun _ => 10, 0, 0, 0)).1 = -4 → ¬ nI (rdG tx L 200 0 (rk, rt, fun _ => 10, 0, 0, 0)).2.2.2.2.1 < 2 → ∀ po rm2 rw2, rdR rm2 rw2 (rdG tx L 200 0 (rk, rt, fun _ => 10, 0, 0, 0)).2.2.2.1 (rdG tx L 200 0 (rk, rt, fun _ => 10, 0, 0, 0)).2.2.2.2.2.2 → Q (some (.int (nI (rdG tx L 200 0 (rk, rt, fun _ => 10, 0, 0, 0)).2.2.2.2.1))) (mw (nI (rdG tx L 200 0 (rk, rt, fun _ => 10, 0, 0, 0)).2.2.2.2.1) (nI (rdG tx L 200 0 (rk, rt, fun _ => 10, 0, 0, 0)).2.2.2.2.2.1) 0 0 (nI L) po (nI (rdG tx L 200 0 (rk, rt, fun _ => 10, 0, 0, 0)).2.2.2.2.1) (nI (rdG tx L 200 0 (rk, rt, fun _ => 10, 0, 0, 0)).2.2.2.2.2.1) 0 0 (rdG tx L 200 0 (rk, rt, fun _ => 10, 0, 0, 0)).2.1 (rdG tx L 200 0 (rk, rt, fun _ => 10, 0, 0, 0)).2.2.1 rm2 rw2 sd sp st tx (rdG tx L 200 0 (rk, rt, fun _ => 10, 0, 0, 0)).2.1 (rdG tx L 200 0 (rk, rt, fun _ => 10, 0, 0, 0)).2.2.1 rm2 rw2 row past pu pin rows kept)) (hF : ¬ ((rdG tx L 200 0 (rk, rt, fun _ => 10, 0, 0, 0)).1 = -4 ∧ ¬ nI (rdG tx L 200 0 (rk, rt, fun _ => 10, 0, 0, 0)).2.2.2.2.1 < 2) → ∀ po rh rr rk rt rm2 rw2, Q (some (.int (-2))) (mw (nI H) (nI R) dy (nI S) (nI L) po rh rr (nI S8) (nI S2) kd th mc wn sd sp st tx rk rt rm2 rw2 row past pu pin rows kept)) : callok (d + 6) 134 0 0 [.ref 0] (mw (nI H) (nI R) dy (nI S) (nI L) po rh rr (nI S8) (nI S2) kd th mc wn sd sp st tx rk rt rm2 rw2 row past pu pin rows kept) Q := by
  refine beg rfl (gs [38] ?_)
  refine Exists.intro [0, 1, 2, 3, 4, 5, 6, 7, 8, 9, 10, 11, 12, 13, 14, 15, 16, 17, 18] (Exists.intro [.ref 0] (Exists.intro ((mw (nI H) (nI R) dy (nI S) (nI L) po rh rr (nI S8) (nI S2) kd th mc wn sd sp st tx rk rt rm2 rw2 row past pu pin rows kept)) (Exists.intro 0 (Exists.intro 0 (And.intro ⟨rfl, rfl, Nat.le_of_ble_eq_true rfl, rfl, rfl, rfl, ⟨0, _, rfl, rfl⟩⟩ (And.intro (Nat.le_refl _) (And.intro (Nat.le_refl _) ?_)))))))
  refine m_fault hL (fun e po rm2 rw2 hr => ?_) (fun e po rh rr rk rt rm2 rw2 => ?_)
  · rw [q_all rfl]
    generalize (rdG tx L 200 0 (rk, rt, fun _ => 10, 0, 0, 0)) = g at hT hF e hr ⊢
    refine br_t ((rfl)) ?_
    refine br_c (fun c => ?_) (fun c => ?_)
    · exact fin0 (hF (fun z => z.2 c) _ _ _ _ _ _ _)
    · have hq := hT e c po rm2 rw2 hr
      have key := up (W := fun k => wp (0, 0, callok (d + 5)) (mcode 134) (qE 0 0 Q) 38 [some (.ref 0), some (.int (nI k))] [] (mw (nI g.2.2.2.2.1) (nI g.2.2.2.2.2.1) dy (nI S) (nI L) po (nI g.2.2.2.2.1) (nI g.2.2.2.2.2.1) (nI S8) (nI S2) (cpT kd g.2.1 0 k) th (cpT mc rm2 0 k) wn sd sp st tx g.2.1 g.2.2.1 rm2 rw2 row past pu pin rows kept) 0 0) 6 ?_ ?_
      · rw [cpT_0, cpT_0] at key
        exact key
      · refine gs [76] ?_
        refine br_f ((by decide)) ?_
        have key2 := up (W := fun k => wp (0, 0, callok (d + 5)) (mcode 134) (qE 0 0 Q) 76 [some (.ref 0), some (.int (nI k))] [] (mw (nI g.2.2.2.2.1) (nI g.2.2.2.2.2.1) dy (nI S) (nI L) po (nI g.2.2.2.2.1) (nI g.2.2.2.2.2.1) (nI S8) (nI S2) (cpT kd g.2.1 0 6) (cpT th g.2.2.1 0 k) (cpT mc rm2 0 6) wn sd sp st tx g.2.1 g.2.2.1 rm2 rw2 row past pu pin rows kept) 0 0) 30 ?_ ?_
        · rw [cpT_0] at key2
          exact key2
        · refine gs [102] ?_
          refine br_f ((by decide)) ?_
          have key3 := up (W := fun k => wp (0, 0, callok (d + 5)) (mcode 134) (qE 0 0 Q) 102 [some (.ref 0), some (.int (nI k))] [] (mw (nI g.2.2.2.2.1) (nI g.2.2.2.2.2.1) dy (nI S) (nI L) po (nI g.2.2.2.2.1) (nI g.2.2.2.2.2.1) (nI S8) (nI S2) (cpT kd g.2.1 0 6) (cpT th g.2.2.1 0 30) (cpT mc rm2 0 6) (cpT wn rw2 0 k) sd sp st tx g.2.1 g.2.2.1 rm2 rw2 row past pu pin rows kept) 0 0) 5 ?_ ?_
          · rw [cpT_0] at key3
            exact key3
          · refine gs [] ?_
            refine br_f ((by decide)) ?_
            exact finE (mw_E2 (fun j hj => cp0 hj) (fun j hj => cp0 hj) (fun j hj => cp0 hj) (fun j hj => cp0 hj)) hq
          · intro k hk ih
            refine gs [102] ?_
            refine br_t ((show nI k < 5 from nI_lt (b := 5) hk (by omega))) ?_
            refine Exists.intro (k) (And.intro (rfl) (And.intro ⟨by omega, by omega⟩ ?_))
            refine Exists.intro (k) (And.intro (rfl) (And.intro ⟨by omega, by omega⟩ ?_))
            rw [← cpT_s (c := wn) (k := k), Nat.zero_add k, nI_succ k] at ih
            exact ih
        · intro k hk ih
          refine gs [76] ?_
          refine br_t ((show nI k < 30 from nI_lt (b := 30) hk (by omega))) ?_
          refine Exists.intro (k) (And.intro (rfl) (And.intro ⟨by omega, by omega⟩ ?_))
          refine Exists.intro (k) (And.intro (rfl) (And.intro ⟨by omega, by omega⟩ ?_))
          rw [← cpT_s (c := th) (k := k), Nat.zero_add k, nI_succ k] at ih
          exact ih
      · intro k hk ih
        refine gs [38] ?_
        refine br_t ((show nI k < 6 from nI_lt (b := 6) hk (by omega))) ?_
        refine Exists.intro (k) (And.intro (rfl) (And.intro ⟨by omega, by omega⟩ ?_))
        refine Exists.intro (k) (And.intro (rfl) (And.intro ⟨by omega, by omega⟩ ?_))
        refine Exists.intro (k) (And.intro (rfl) (And.intro ⟨by omega, by omega⟩ ?_))
        refine Exists.intro (k) (And.intro (rfl) (And.intro ⟨by omega, by omega⟩ ?_))
        rw [← cpT_s (c := kd) (k := k), ← cpT_s (c := mc) (k := k), Nat.zero_add k, nI_succ k] at ih
        exact ih
  · rw [q_all rfl]
    generalize (rdG tx L 200 0 (rk, rt, fun _ => 10, 0, 0, 0)) = g at hT hF e ⊢
    refine br_f ((e)) ?_
    exact fin0 (hF (fun z => e z.1) _ _ _ _ _ _ _)
end MT
