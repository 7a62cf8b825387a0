/-! LETTERS: an item, the whole text -/
def itm (tx : Nat → Int32) (L p : Nat) (s : PS) : Option (Nat × PS) :=
  if ltA tx L p = 104 then (if hsOK tx L p s.2.2.2.1 s.2.2.2.2.1 then some (p + 3 + hsW tx L p + 1, (upd s.1 s.2.2.2.1 (fgA tx L (p + 1)), hsR tx L p s.2.1 s.2.2.2.1 (hsW tx L p), s.2.2.1, s.2.2.2.1 + 1, hsW tx L p, s.2.2.2.2.2)) else none)
  else if ltA tx L p = 109 then (if (¬ fgA tx L (p + 1) < 0 ∧ fgA tx L (p + 1) < nI s.2.2.2.1) ∧ ltA tx L (p + 2) = 59 then some (p + 3, (s.1, s.2.1, s.2.2.1, s.2.2.2.1, s.2.2.2.2.1, if s.2.2.2.2.2.testBit (fgA tx L (p + 1)).toNatClampNeg = true then s.2.2.2.2.2 else s.2.2.2.2.2 ^^^ 2 ^ (fgA tx L (p + 1)).toNatClampNeg)) else none)
  else if ltA tx L p = 113 then (if ((¬ fgA tx L (p + 1) < 0 ∧ fgA tx L (p + 1) < nI s.2.2.2.2.1) ∧ ltA tx L (p + 2) = 44) ∧ (¬ fgA tx L (p + 3) < 0 ∧ ¬ 9 < fgA tx L (p + 3)) ∧ ltA tx L (p + 4) = 59 then some (p + 5, (s.1, s.2.1, upd s.2.2.1 (fgA tx L (p + 1)).toNatClampNeg (fgA tx L (p + 3)), s.2.2.2.1, s.2.2.2.2.1, s.2.2.2.2.2)) else none)
  else none
abbrev psOK (s : PS) : Prop := s.2.2.2.1 ≤ 6 ∧ s.2.2.2.2.1 ≤ 5 ∧ s.2.2.2.2.2 < 64
theorem ltA_lt {tx : Nat → Int32} {L k : Nat} {c : Int32} (h : ltA tx L k = c) (hc : c ≠ -4) : k < L := by
  unfold ltA at h
  rcases Nat.lt_or_ge k L with q | q
  · exact q
  · rw [if_neg (by omega)] at h
    exact absurd h.symm hc
theorem itm_ok {tx : Nat → Int32} {L p p' : Nat} {s s' : PS} (hs : psOK s) (h : itm tx L p s = some (p', s')) : psOK s' ∧ p < p' ∧ p' ≤ L := by
  have hw5 : hsW tx L p ≤ 5 := by have := ffR_le (tx := tx) (L := L) (p := p + 3) 5 0; omega
  unfold itm at h
  split at h
  · split at h
    · rename_i c
      obtain ⟨⟨-, -, c4⟩, c5⟩ := c
      have := ltA_lt c4 (by decide)
      have h6 := c5.1
      cases h
      exact ⟨⟨by show s.2.2.2.1 + 1 ≤ 6; omega, hw5, hs.2.2⟩, by omega, by omega⟩
    · cases h
  · split at h
    · split at h
      · rename_i c
        have := ltA_lt c.2 (by decide)
        obtain ⟨a, ha, ea⟩ := inR_of (x := fgA tx L (p + 1)) (n := s.2.2.2.1) c.1 (by have := hs.1; omega)
        rw [ea, nI_clamp (by have := hs.1; omega)] at h
        cases h
        refine ⟨⟨hs.1, hs.2.1, ?_⟩, by omega, by omega⟩
        show (if s.2.2.2.2.2.testBit a = true then s.2.2.2.2.2 else s.2.2.2.2.2 ^^^ 2 ^ a) < 64
        split
        · exact hs.2.2
        · exact xor_64 _ hs.2.2 _ (by have := hs.1; omega)
      · cases h
    · split at h
      · split at h
        · rename_i c
          have := ltA_lt c.2.2 (by decide)
          cases h
          exact ⟨hs, by omega, by omega⟩
        · cases h
      · cases h
def rdG (tx : Nat → Int32) (L : Nat) : Nat → Nat → PS → Int32 × PS
  | 0, _, s => (-4, s)
  | f + 1, p, s => if p < L then (match itm tx L p s with
    | none => (nI p, s)
    | some q => rdG tx L f q.1 q.2) else (-4, s)
theorem rdG_ok {tx : Nat → Int32} {L : Nat} : ∀ f p s, psOK s → psOK (rdG tx L f p s).2
  | 0, p, s, h => h
  | f + 1, p, s, h => by
    rw [rdG]
    split
    · cases e : itm tx L p s with
      | none => exact h
      | some q => exact rdG_ok f q.1 q.2 (itm_ok h (s' := q.2) (p' := q.1) e).1
    · exact h
section RE
variable {d : Nat} {kd th wi tx : Nat → Int32} {hs rm mb dy : Int32} {H R M L a b n p : Nat} {x y v w : Int32} {s : PS} {Q : Option Value → List aC → Prop}
theorem t_itemEnd (hx : x = nI p) (hp : p ≤ 200) (hL : L ≤ 200) (ho : psOK s) (hT : ∀ p' s', itm tx L p s = some (p', s') → Q (some (.int (nI p'))) (lw tx (nI L) ++ pn 2 s' dy)) (hF : itm tx L p s = none → Q (some (.int (-4))) (lw tx (nI L) ++ pn 2 s dy)) : callok (d + 5) 13 0 0 [.ref 0, .int x, .ref 2] (lw tx (nI L) ++ pn 2 s dy) Q := by
  obtain ⟨kd, th, wi, H, R, M⟩ := s
  obtain ⟨hH, hR, hM⟩ := ho
  have hH : H ≤ 6 := hH
  have hR : R ≤ 5 := hR
  have hM : M < 64 := hM
  refine beg rfl (gs [] ?_)
  refine Exists.intro [0, 1] (Exists.intro [.ref 0, .int x] (Exists.intro (lw tx (nI L)) (Exists.intro 0 (Exists.intro 0 (And.intro ⟨rfl, rfl, Nat.le_of_ble_eq_true rfl, rfl, rfl, rfl, ⟨0, _, rfl, rfl⟩⟩ (And.intro (Nat.le_refl _) (And.intro (Nat.le_refl _) ?_)))))))
  refine t_letterAt hx (by omega) hL ?_
  show runS _ _ _ _ _ _ [some (.ref 0), some (.int x), some (.ref 2)] [.int (ltA tx L p)] (lw tx (nI L) ++ nc 2 kd th wi (nI H) (nI R) (nI M) dy) _ _
  refine And.intro (fun c => ?_) (fun q hq c => ?_)
  · have c1 : ¬ ltA tx L p = 104 := fun z => c (104, 40) (by simp) (by rw [z]; decide)
    have c2 : ¬ ltA tx L p = 109 := fun z => c (109, 47) (by simp) (by rw [z]; decide)
    have c3 : ¬ ltA tx L p = 113 := fun z => c (113, 54) (by simp) (by rw [z]; decide)
    exact fin0 (hF (by unfold itm; rw [if_neg c1, if_neg c2, if_neg c3]))
  · simp only [List.mem_cons, List.not_mem_nil, or_false] at hq
    rcases hq with rfl | rfl | rfl
    · have c1 : ltA tx L p = 104 := Int32.toInt_inj.mp (by rw [c]; decide)
      refine Exists.intro [0, 1, 2, 3, 4, 5] (Exists.intro [.ref 0, .int x, .ref 2] (Exists.intro (lw tx (nI L) ++ nc 2 kd th wi (nI H) (nI R) (nI M) dy) (Exists.intro 0 (Exists.intro 0 (And.intro ⟨rfl, rfl, Nat.le_of_ble_eq_true rfl, rfl, rfl, rfl, ⟨0, _, rfl, rfl⟩⟩ (And.intro (Nat.le_refl _) (And.intro (Nat.le_refl _) ?_)))))))
      refine t_houseEnd hx hp hL hH hR (fun c2 => ?_) (fun c2 => ?_)
      · exact fin0 (hT _ _ (by unfold itm; rw [if_pos c1, if_pos c2]))
      · exact fin0 (hF (by unfold itm; rw [if_pos c1, if_neg c2]))
    · have c1 : ltA tx L p = 109 := Int32.toInt_inj.mp (by rw [c]; decide)
      refine Exists.intro [0, 1, 2, 3, 4, 5] (Exists.intro [.ref 0, .int x, .ref 2] (Exists.intro (lw tx (nI L) ++ nc 2 kd th wi (nI H) (nI R) (nI M) dy) (Exists.intro 0 (Exists.intro 0 (And.intro ⟨rfl, rfl, Nat.le_of_ble_eq_true rfl, rfl, rfl, rfl, ⟨0, _, rfl, rfl⟩⟩ (And.intro (Nat.le_refl _) (And.intro (Nat.le_refl _) ?_)))))))
      refine t_mouseEnd hx hp hL hH hM (fun a ha ea c2 => ?_) (fun c2 => ?_)
      · have hin : ¬ fgA tx L (p + 1) < 0 ∧ fgA tx L (p + 1) < nI H := by rw [ea]; exact inR_nI ha (by omega)
        have hq := hT (p + 3) (kd, th, wi, H, R, if M.testBit a = true then M else M ^^^ 2 ^ a) (by unfold itm; rw [if_neg (by rw [c1]; decide), if_pos c1, if_pos ⟨hin, c2⟩, ea, nI_clamp (by omega)])
        exact fin0 (hq)
      · exact fin0 (hF (by unfold itm; rw [if_neg (by rw [c1]; decide), if_pos c1]; exact if_neg c2))
    · have c1 : ltA tx L p = 113 := Int32.toInt_inj.mp (by rw [c]; decide)
      refine Exists.intro [0, 1, 2, 3, 4, 5] (Exists.intro [.ref 0, .int x, .ref 2] (Exists.intro (lw tx (nI L) ++ nc 2 kd th wi (nI H) (nI R) (nI M) dy) (Exists.intro 0 (Exists.intro 0 (And.intro ⟨rfl, rfl, Nat.le_of_ble_eq_true rfl, rfl, rfl, rfl, ⟨0, _, rfl, rfl⟩⟩ (And.intro (Nat.le_refl _) (And.intro (Nat.le_refl _) ?_)))))))
      refine t_wishEnd hx hp hL hR (fun a ha ea c2 => ?_) (fun c2 => ?_)
      · have hq := hT (p + 5) (kd, th, upd wi a (fgA tx L (p + 3)), H, R, M) (by unfold itm; rw [if_neg (by rw [c1]; decide), if_neg (by rw [c1]; decide), if_pos c1]; exact (if_pos c2).trans (by rw [ea, nI_clamp (by omega)]))
        exact fin0 (hq)
      · exact fin0 (hF (by unfold itm; rw [if_neg (by rw [c1]; decide), if_neg (by rw [c1]; decide), if_pos c1]; exact if_neg c2))
theorem t_readInto (hL : L ≤ 200) (hQ : Q (some (.int (rdG tx L 200 0 (kd, th, fun _ => 10, 0, 0, 0)).1)) (lw tx (nI L) ++ pn 2 (rdG tx L 200 0 (kd, th, fun _ => 10, 0, 0, 0)).2 0)) : callok (d + 6) 12 0 0 [.ref 0, .ref 2] (lw tx (nI L) ++ nc 2 kd th wi hs rm mb dy) Q := by
  have key : ∀ (f k p : Nat) (s : PS) (v4 : Option Value), k + f = 200 → p ≤ 200 → psOK s → rdG tx L f p s = rdG tx L 200 0 (kd, th, fun _ => 10, 0, 0, 0) → wp (0, 0, callok (d + 5)) (mcode 12) (qE 0 0 Q) 8 [some (.ref 0), some (.ref 2), some (.int (nI p)), some (.int (nI k)), v4] [] (lw tx (nI L) ++ pn 2 s 0) 0 0 := by
    intro f
    induction f with
    | zero =>
      intro k p s v4 hk hp ho e
      refine gs [8] ?_
      refine br_f ((show ¬ nI k < (200 : Int32) from nI_nlt (b := 200) (by omega) (by omega))) ?_
      rw [← e] at hQ
      exact fin0 (hQ)
    | succ f ih =>
      intro k p s v4 hk hp ho e
      refine gs [8] ?_
      refine br_t ((show nI k < (200 : Int32) from nI_lt (b := 200) (by omega) (by omega))) ?_
      rw [rdG] at e
      by_cases c : p < L
      · refine br_t ((nI_lt c (by omega))) ?_
        rw [if_pos c] at e
        refine Exists.intro [0, 1, 2, 3, 4, 5] (Exists.intro [.ref 0, .int (nI p), .ref 2] (Exists.intro (lw tx (nI L) ++ pn 2 s 0) (Exists.intro 0 (Exists.intro 0 (And.intro ⟨rfl, rfl, Nat.le_of_ble_eq_true rfl, rfl, rfl, rfl, ⟨0, _, rfl, rfl⟩⟩ (And.intro (Nat.le_refl _) (And.intro (Nat.le_refl _) ?_)))))))
        refine t_itemEnd rfl hp hL ho (fun p' s' ei => ?_) (fun ei => ?_)
        · rw [ei] at e
          obtain ⟨ho', h1, h2⟩ := itm_ok ho ei
          show runS _ _ _ _ _ _ [some (.ref 0), some (.ref 2), some (.int (nI p)), some (.int (nI k)), v4] [.int (nI p')] (lw tx (nI L) ++ pn 2 s' 0) _ _
          refine br_t ((show nI p < nI p' from nI_lt h1 (by omega))) ?_
          have h9 := ih (k + 1) p' s' (some (.int (nI p'))) (by omega) (by omega) ho' e
          rw [nI_succ k] at h9
          exact h9
        · rw [ei] at e
          show runS _ _ _ _ _ _ [some (.ref 0), some (.ref 2), some (.int (nI p)), some (.int (nI k)), v4] [.int (-4)] (lw tx (nI L) ++ pn 2 s 0) _ _
          have hneg : ¬ nI p < (-4 : Int32) := fun z => nI_pos (n := p) (by omega) (Int32.lt_trans z (by decide))
          refine br_f (hneg) ?_
          rw [← e] at hQ
          exact fin0 (hQ)
      · refine br_f ((nI_nlt (by omega) (by omega))) ?_
        rw [if_neg c] at e
        rw [← e] at hQ
        exact fin0 (hQ)
  refine beg rfl (gs [8] ?_)
  refine Exists.intro [2, 3, 4, 5] (Exists.intro [.ref 0] (Exists.intro (nc 0 kd th wi hs rm mb dy) (Exists.intro 0 (Exists.intro 0 (And.intro ⟨rfl, rfl, Nat.le_of_ble_eq_true rfl, rfl, rfl, rfl, ⟨0, _, rfl, rfl⟩⟩ (And.intro (Nat.le_refl _) (And.intro (Nat.le_refl _) ?_)))))))
  refine t_clear ?_
  exact key 200 0 0 (kd, th, fun _ => 10, 0, 0, 0) none (by omega) (by omega) ⟨Nat.zero_le _, Nat.zero_le _, by show 0 < 64; omega⟩ rfl
end RE
