/-! LETTERS: object, row; a nursery at 2 -/
abbrev lw (tx : Nat → Int32) (len : Int32) : List aC := [ao 1 [.ref 1, .int len], ai 200 tx]
def ltA (tx : Nat → Int32) (L k : Nat) : Int32 := if k < L then tx k else -4
abbrev isF (c : Int32) : Prop := ¬ c < 48 ∧ ¬ 57 < c
def fgA (tx : Nat → Int32) (L k : Nat) : Int32 := if isF (ltA tx L k) then ltA tx L k - 48 else -4
/-- how many figures from p on, k of them seen, f at most to come -/
def ffR (tx : Nat → Int32) (L p : Nat) : Nat → Nat → Nat
  | 0, k => k
  | f + 1, k => if fgA tx L (p + k) = -4 then k else ffR tx L p f (k + 1)
theorem ffR_le {tx : Nat → Int32} {L p : Nat} : ∀ f k, ffR tx L p f k ≤ k + f
  | 0, k => Nat.le_refl _
  | f + 1, k => by
    rw [ffR]
    split
    · omega
    · have := ffR_le (tx := tx) (L := L) (p := p) f (k + 1)
      omega
abbrev PS : Type := (Nat → Int32) × (Nat → Int32) × (Nat → Int32) × Nat × Nat × Nat
abbrev pn (b : Nat) (s : PS) (dy : Int32) : List aC := nc b s.1 s.2.1 s.2.2.1 (nI s.2.2.2.1) (nI s.2.2.2.2.1) (nI s.2.2.2.2.2) dy
abbrev hsW (tx : Nat → Int32) (L p : Nat) : Nat := ffR tx L (p + 3) 5 0
abbrev fitsN (w H R : Nat) : Prop := H < 6 ∧ 2 ≤ w ∧ (H = 0 ∨ w = R)
abbrev hsOK (tx : Nat → Int32) (L p H R : Nat) : Prop := ((¬ fgA tx L (p + 1) < 0 ∧ ¬ 3 < fgA tx L (p + 1)) ∧ ltA tx L (p + 2) = 44 ∧ ltA tx L (p + 3 + hsW tx L p) = 59) ∧ fitsN (hsW tx L p) H R
def hsR (tx : Nat → Int32) (L p : Nat) (th : Nat → Int32) (H : Nat) : Nat → Nat → Int32
  | 0 => th
  | k + 1 => upd (hsR tx L p th H k) (5 * H + k) (fgA tx L (p + 3 + k))
section LE
variable {d : Nat} {kd th wi tx : Nat → Int32} {hs rm mb dy : Int32} {H R M L a b n p : Nat} {x y v w : Int32} {Q : Option Value → List aC → Prop}
theorem t_llen {len : Int32} (hQ : Q (some (.int len)) (lw tx len)) : callok (d + 1) 9 0 0 [.ref 0] (lw tx len) Q := by
  refine beg rfl (gs [] ?_)
  exact fin0 (hQ)
theorem t_lclear {len : Int32} (hQ : Q none (lw tx 0)) : callok (d + 1) 10 0 0 [.ref 0] (lw tx len) Q := by
  refine beg rfl (gs [] ?_)
  exact fin0 (hQ)
theorem t_append (hL : L ≤ 200) (hT : L < 200 → Q (some (.int 1)) (lw (upd tx L x) (nI (L + 1)))) (hF : ¬ L < 200 → Q (some (.int 0)) (lw tx (nI L))) : callok (d + 1) 11 0 0 [.ref 0, .int x] (lw tx (nI L)) Q := by
  refine beg rfl (gs [] ?_)
  by_cases c : L < 200
  · refine br_t ((show nI L < (200 : Int32) from nI_lt (b := 200) c (by omega))) ?_
    refine Exists.intro (L) (And.intro (rfl) (And.intro ⟨by omega, by omega⟩ ?_))
    have := hT c
    rw [nI_succ] at this
    exact And.intro (Or.inr rfl) (fin0 (this))
  · refine br_f ((show ¬ nI L < (200 : Int32) from nI_nlt (b := 200) (by omega) (by omega))) ?_
    exact And.intro (Or.inl rfl) (fin0 (hF c))
theorem t_letterAt (hx : x = nI a) (ha : a ≤ 1000) (hL : L ≤ 200) (hQ : Q (some (.int (ltA tx L a))) (lw tx (nI L))) : callok (d + 1) 19 0 0 [.ref 0, .int x] (lw tx (nI L)) Q := by
  subst hx
  refine beg rfl (gs [] ?_)
  unfold ltA at hQ
  refine br_f ((nI_pos (by omega))) ?_
  by_cases c : a < L
  · rw [if_pos c] at hQ
    refine br_t ((nI_lt c (by omega))) ?_
    refine Exists.intro (a) (And.intro (rfl) (And.intro ⟨by omega, by omega⟩ ?_))
    exact fin0 (hQ)
  · rw [if_neg c] at hQ
    refine br_f ((nI_nlt (by omega) (by omega))) ?_
    exact fin0 (hQ)
theorem t_figureAt (hx : x = nI a) (ha : a ≤ 1000) (hL : L ≤ 200) (hQ : Q (some (.int (fgA tx L a))) (lw tx (nI L))) : callok (d + 2) 18 0 0 [.ref 0, .int x] (lw tx (nI L)) Q := by
  refine beg rfl (gs [] ?_)
  refine Exists.intro [0, 1] (Exists.intro [.ref 0, .int x] (Exists.intro (lw tx (nI L)) (Exists.intro 0 (Exists.intro 0 (And.intro ⟨rfl, rfl, Nat.le_of_ble_eq_true rfl, rfl, rfl, rfl, ⟨0, _, rfl, rfl⟩⟩ (And.intro (Nat.le_refl _) (And.intro (Nat.le_refl _) ?_)))))))
  refine t_letterAt hx ha hL ?_
  refine Exists.intro [] (Exists.intro [.int (ltA tx L a), .int 48, .int 57] (Exists.intro ([]) (Exists.intro 0 (Exists.intro 0 (And.intro ⟨rfl, rfl, Nat.le_of_ble_eq_true rfl, rfl, rfl, rfl, trivial⟩ (And.intro (Nat.le_refl _) (And.intro (Nat.le_refl _) ?_)))))))
  unfold fgA at hQ
  refine t_within (fun c c2 => ?_) (fun c => ?_)
  · rw [if_pos ⟨c, c2⟩] at hQ
    refine br_f ((by decide)) ?_
    exact fin0 (hQ)
  · rw [if_neg c] at hQ
    refine br_t ((rfl)) ?_
    exact fin0 (hQ)
theorem t_figuresFrom (hx : x = nI p) (hp : p ≤ 500) (hL : L ≤ 200) (hQ : Q (some (.int (nI (ffR tx L p 5 0)))) (lw tx (nI L))) : callok (d + 3) 17 0 0 [.ref 0, .int x] (lw tx (nI L)) Q := by
  subst hx
  refine beg rfl (gs [2] ?_)
  have key : ∀ f k, k + f = 5 → ffR tx L p f k = ffR tx L p 5 0 → wp (0, 0, callok (d + 2)) (mcode 17) (qE 0 0 Q) 2 [some (.ref 0), some (.int (nI p)), some (.int (nI k))] [] (lw tx (nI L)) 0 0 := by
    intro f
    induction f with
    | zero =>
      intro k hk e
      refine gs [2] ?_
      refine br_f ((show ¬ nI k < (5 : Int32) from nI_nlt (b := 5) (by omega) (by omega))) ?_
      rw [← e] at hQ
      exact fin0 (hQ)
    | succ f ih =>
      intro k hk e
      refine gs [2] ?_
      refine br_t ((show nI k < (5 : Int32) from nI_lt (b := 5) (by omega) (by omega))) ?_
      refine Exists.intro [0, 1] (Exists.intro [.ref 0, .int (nI p + nI k)] (Exists.intro (lw tx (nI L)) (Exists.intro 0 (Exists.intro 0 (And.intro ⟨rfl, rfl, Nat.le_of_ble_eq_true rfl, rfl, rfl, rfl, ⟨0, _, rfl, rfl⟩⟩ (And.intro (Nat.le_refl _) (And.intro (Nat.le_refl _) ?_)))))))
      refine t_figureAt (a := p + k) (nI_add p k) (by omega) hL ?_
      rw [ffR] at e
      refine br_c (fun c => ?_) (fun c => ?_)
      · rw [if_pos c] at e
        rw [← e] at hQ
        exact fin0 (hQ)
      · rw [if_neg c] at e
        have h9 := ih (k + 1) (by omega) e
        rw [nI_succ] at h9
        exact h9
  exact key 5 0 (by omega) rfl
theorem t_fits (hx : x = nI a) (ha : a ≤ 5) (hH : H ≤ 6) (hR : R ≤ 5) (hT : fitsN a H R → Q (some (.int 1)) (nc 0 kd th wi (nI H) (nI R) mb dy)) (hF : ¬ fitsN a H R → Q (some (.int 0)) (nc 0 kd th wi (nI H) (nI R) mb dy)) : callok (d + 2) 23 0 0 [.ref 0, .int x] (nc 0 kd th wi (nI H) (nI R) mb dy) Q := by
  subst hx
  refine beg rfl (gs [] ?_)
  by_cases c1 : H < 6
  · refine br_t ((show nI H < (6 : Int32) from nI_lt (b := 6) c1 (by omega))) ?_
    refine Exists.intro [] (Exists.intro [.int (nI a), .int 2, .int 5] (Exists.intro ([]) (Exists.intro 0 (Exists.intro 0 (And.intro ⟨rfl, rfl, Nat.le_of_ble_eq_true rfl, rfl, rfl, rfl, trivial⟩ (And.intro (Nat.le_refl _) (And.intro (Nat.le_refl _) ?_)))))))
    refine t_within (fun c c2 => ?_) (fun c => ?_)
    · have ha2 : 2 ≤ a := by
        rcases Nat.lt_or_ge a 2 with q | q
        · exact absurd (nI_lt (b := 2) q (by omega)) c
        · exact q
      refine br_f ((by decide)) ?_
      refine br_c (fun c3 => ?_) (fun c3 => ?_)
      · have h3 : H = 0 := (nI_eq (b := 0) (by omega) (by omega)).mp c3
        exact And.intro (Or.inr rfl) (fin0 (hT ⟨c1, ha2, Or.inl h3⟩))
      · refine br_c (fun c4 => ?_) (fun c4 => ?_)
        · have h4 : a = R := (nI_eq (by omega) (by omega)).mp c4
          exact And.intro (Or.inr rfl) (fin0 (hT ⟨c1, ha2, Or.inr h4⟩))
        · exact And.intro (Or.inl rfl) (fin0 (hF (fun z => z.2.2.elim (fun q => c3 (by rw [q]; rfl)) (fun q => c4 (by rw [q])))))
    · refine br_t ((rfl)) ?_
      exact And.intro (Or.inl rfl) (fin0 (hF (fun z => c ⟨nI_nlt (b := 2) z.2.1 (by omega), nI_nlt (a := 5) (by omega) (by omega)⟩)))
  · refine br_f ((show ¬ nI H < (6 : Int32) from nI_nlt (b := 6) (by omega) (by omega))) ?_
    exact And.intro (Or.inl rfl) (fin0 (hF (fun z => c1 z.1)))
theorem t_addHouse (hy : y = nI a) (ha : a ≤ 5) (hH : H ≤ 6) (hR : R ≤ 5) (hf : fitsN a H R) (hQ : Q none (nc 0 (upd kd H x) th wi (nI (H + 1)) (nI a) mb dy)) : callok (d + 3) 24 0 0 [.ref 0, .int x, .int y] (nc 0 kd th wi (nI H) (nI R) mb dy) Q := by
  refine beg rfl (gs [] ?_)
  refine Exists.intro [0, 1, 2, 3] (Exists.intro [.ref 0, .int y] (Exists.intro (nc 0 kd th wi (nI H) (nI R) mb dy) (Exists.intro 0 (Exists.intro 0 (And.intro ⟨rfl, rfl, Nat.le_of_ble_eq_true rfl, rfl, rfl, rfl, ⟨0, _, rfl, rfl⟩⟩ (And.intro (Nat.le_refl _) (And.intro (Nat.le_refl _) ?_)))))))
  refine t_fits hy ha hH hR (fun _ => ?_) (fun c => absurd hf c)
  have h6 := hf.1
  refine br_f ((by decide)) ?_
  show runS _ _ _ _ _ _ [some (.ref 0), some (.int x), some (.int y)] [] (nc 0 kd th wi (nI H) (nI R) mb dy) _ _
  refine Exists.intro (H) (And.intro (rfl) (And.intro ⟨by omega, by omega⟩ ?_))
  rw [nI_succ, ← hy] at hQ
  exact fin0 (hQ)
theorem t_houseEnd (hx : x = nI p) (hp : p ≤ 200) (hL : L ≤ 200) (hH : H ≤ 6) (hR : R ≤ 5) (hT : hsOK tx L p H R → Q (some (.int (nI (p + 3 + hsW tx L p + 1)))) (lw tx (nI L) ++ nc 2 (upd kd H (fgA tx L (p + 1))) (hsR tx L p th H (hsW tx L p)) wi (nI (H + 1)) (nI (hsW tx L p)) mb dy)) (hF : ¬ hsOK tx L p H R → Q (some (.int (-4))) (lw tx (nI L) ++ nc 2 kd th wi (nI H) (nI R) mb dy)) : callok (d + 4) 14 0 0 [.ref 0, .int x, .ref 2] (lw tx (nI L) ++ nc 2 kd th wi (nI H) (nI R) mb dy) Q := by
  subst hx
  have hw5 : hsW tx L p ≤ 5 := by have := ffR_le (tx := tx) (L := L) (p := p + 3) 5 0; omega
  have e1 : nI p + 1 = nI (p + 1) := nI_1 p
  have e3 : nI p + 3 = nI (p + 3) := nI_add p 3
  have e2 : nI p + 2 = nI (p + 2) := nI_add p 2
  refine beg rfl (gs [78] ?_)
  refine Exists.intro [0, 1] (Exists.intro [.ref 0, .int (nI p + 1)] (Exists.intro (lw tx (nI L)) (Exists.intro 0 (Exists.intro 0 (And.intro ⟨rfl, rfl, Nat.le_of_ble_eq_true rfl, rfl, rfl, rfl, ⟨0, _, rfl, rfl⟩⟩ (And.intro (Nat.le_refl _) (And.intro (Nat.le_refl _) ?_)))))))
  refine t_figureAt e1 (by omega) hL ?_
  show runS _ _ _ _ _ _ [some (.ref 0), some (.int (nI p)), some (.ref 2), none, none, none, none] [.int (fgA tx L (p + 1))] (lw tx (nI L) ++ nc 2 kd th wi (nI H) (nI R) mb dy) _ _
  refine Exists.intro [0, 1] (Exists.intro [.ref 0, .int (nI p + 3)] (Exists.intro (lw tx (nI L)) (Exists.intro 0 (Exists.intro 0 (And.intro ⟨rfl, rfl, Nat.le_of_ble_eq_true rfl, rfl, rfl, rfl, ⟨0, _, rfl, rfl⟩⟩ (And.intro (Nat.le_refl _) (And.intro (Nat.le_refl _) ?_)))))))
  refine t_figuresFrom e3 (by omega) hL ?_
  generalize hwg : hsW tx L p = wd at hT hF hw5
  generalize hfg : fgA tx L (p + 1) = kn at hT hF
  have hwg' : ffR tx L (p + 3) 5 0 = wd := hwg
  rw [hwg']
  show runS _ _ _ _ _ _ [some (.ref 0), some (.int (nI p)), some (.ref 2), some (.int kn), some (.int (nI p + 3)), none, none] [.int (nI wd)] (lw tx (nI L) ++ nc 2 kd th wi (nI H) (nI R) mb dy) _ _
  refine Exists.intro [] (Exists.intro [.int kn, .int 0, .int 3] (Exists.intro ([]) (Exists.intro 0 (Exists.intro 0 (And.intro ⟨rfl, rfl, Nat.le_of_ble_eq_true rfl, rfl, rfl, rfl, trivial⟩ (And.intro (Nat.le_refl _) (And.intro (Nat.le_refl _) ?_)))))))
  refine t_within (fun c c2 => ?_) (fun c => ?_)
  · show runS _ _ _ _ _ _ [some (.ref 0), some (.int (nI p)), some (.ref 2), some (.int kn), some (.int (nI p + 3)), some (.int (nI wd)), none] [.int 1] (lw tx (nI L) ++ nc 2 kd th wi (nI H) (nI R) mb dy) _ _
    refine br_f ((by decide)) ?_
    refine Exists.intro [0, 1] (Exists.intro [.ref 0, .int (nI p + 2)] (Exists.intro (lw tx (nI L)) (Exists.intro 0 (Exists.intro 0 (And.intro ⟨rfl, rfl, Nat.le_of_ble_eq_true rfl, rfl, rfl, rfl, ⟨0, _, rfl, rfl⟩⟩ (And.intro (Nat.le_refl _) (And.intro (Nat.le_refl _) ?_)))))))
    refine t_letterAt e2 (by omega) hL ?_
    show runS _ _ _ _ _ _ [some (.ref 0), some (.int (nI p)), some (.ref 2), some (.int kn), some (.int (nI p + 3)), some (.int (nI wd)), none] [.int (ltA tx L (p + 2))] (lw tx (nI L) ++ nc 2 kd th wi (nI H) (nI R) mb dy) _ _
    refine br_c (fun c3 => ?_) (fun c3 => ?_)
    · refine Exists.intro [0, 1] (Exists.intro [.ref 0, .int (nI p + 3 + nI wd)] (Exists.intro (lw tx (nI L)) (Exists.intro 0 (Exists.intro 0 (And.intro ⟨rfl, rfl, Nat.le_of_ble_eq_true rfl, rfl, rfl, rfl, ⟨0, _, rfl, rfl⟩⟩ (And.intro (Nat.le_refl _) (And.intro (Nat.le_refl _) ?_)))))))
      refine t_letterAt (a := p + 3 + wd) (by rw [e3, nI_add]) (by omega) hL ?_
      show runS _ _ _ _ _ _ [some (.ref 0), some (.int (nI p)), some (.ref 2), some (.int kn), some (.int (nI p + 3)), some (.int (nI wd)), none] [.int (ltA tx L (p + 3 + wd))] (lw tx (nI L) ++ nc 2 kd th wi (nI H) (nI R) mb dy) _ _
      refine br_c (fun c4 => ?_) (fun c4 => ?_)
      · refine Exists.intro [2, 3, 4, 5] (Exists.intro [.ref 0, .int (nI wd)] (Exists.intro (nc 0 kd th wi (nI H) (nI R) mb dy) (Exists.intro 0 (Exists.intro 0 (And.intro ⟨rfl, rfl, Nat.le_of_ble_eq_true rfl, rfl, rfl, rfl, ⟨0, _, rfl, rfl⟩⟩ (And.intro (Nat.le_refl _) (And.intro (Nat.le_refl _) ?_)))))))
        refine t_fits rfl hw5 hH hR (fun c5 => ?_) (fun c5 => ?_)
        · show runS _ _ _ _ _ _ [some (.ref 0), some (.int (nI p)), some (.ref 2), some (.int kn), some (.int (nI p + 3)), some (.int (nI wd)), none] [.int 1] (lw tx (nI L) ++ nc 2 kd th wi (nI H) (nI R) mb dy) _ _
          have hq := hT ⟨⟨⟨by rw [hfg]; exact c, by rw [hfg]; exact c2⟩, c3, by rw [hwg]; exact c4⟩, by rw [hwg]; exact c5⟩
          have h6 := c5.1
          refine br_f ((by decide)) ?_
          refine Exists.intro [2, 3, 4, 5] (Exists.intro [.ref 0, .int kn, .int (nI wd)] (Exists.intro (nc 0 kd th wi (nI H) (nI R) mb dy) (Exists.intro 0 (Exists.intro 0 (And.intro ⟨rfl, rfl, Nat.le_of_ble_eq_true rfl, rfl, rfl, rfl, ⟨0, _, rfl, rfl⟩⟩ (And.intro (Nat.le_refl _) (And.intro (Nat.le_refl _) ?_)))))))
          refine t_addHouse rfl hw5 hH hR c5 ?_
          refine up (W := fun k => wp (0, 0, callok (d + 3)) (mcode 14) (qE 0 0 Q) 78 [some (.ref 0), some (.int (nI p)), some (.ref 2), some (.int kn), some (.int (nI p + 3)), some (.int (nI wd)), some (.int (nI k))] [] (lw tx (nI L) ++ nc 2 (upd kd H kn) (hsR tx L p th H k) wi (nI (H + 1)) (nI wd) mb dy) 0 0) wd ?_ ?_
          · refine gs [78] ?_
            refine br_f ((nI_nlt (by omega) (by omega))) ?_
            have e9 : nI p + 3 + nI wd + 1 = nI (p + 3 + wd + 1) := by rw [e3, nI_add, nI_1]
            rw [← e9] at hq
            exact fin0 (hq)
          · intro k hk ih
            refine gs [78] ?_
            refine br_t ((nI_lt hk (by omega))) ?_
            refine Exists.intro [2, 3, 4, 5] (Exists.intro [.ref 0] (Exists.intro (nc 0 (upd kd H kn) (hsR tx L p th H k) wi (nI (H + 1)) (nI wd) mb dy) (Exists.intro 0 (Exists.intro 0 (And.intro ⟨rfl, rfl, Nat.le_of_ble_eq_true rfl, rfl, rfl, rfl, ⟨0, _, rfl, rfl⟩⟩ (And.intro (Nat.le_refl _) (And.intro (Nat.le_refl _) ?_)))))))
            refine t_bottom (by omega) ?_
            rw [Nat.add_sub_cancel]
            show runS _ _ _ _ _ _ [some (.ref 0), some (.int (nI p)), some (.ref 2), some (.int kn), some (.int (nI p + 3)), some (.int (nI wd)), some (.int (nI k))] [.int (nI H), .ref 2] (lw tx (nI L) ++ nc 2 (upd kd H kn) (hsR tx L p th H k) wi (nI (H + 1)) (nI wd) mb dy) _ _
            refine Exists.intro [0, 1] (Exists.intro [.ref 0, .int (nI p + 3 + nI k)] (Exists.intro (lw tx (nI L)) (Exists.intro 0 (Exists.intro 0 (And.intro ⟨rfl, rfl, Nat.le_of_ble_eq_true rfl, rfl, rfl, rfl, ⟨0, _, rfl, rfl⟩⟩ (And.intro (Nat.le_refl _) (And.intro (Nat.le_refl _) ?_)))))))
            refine t_figureAt (a := p + 3 + k) (by rw [e3, nI_add]) (by omega) hL ?_
            show runS _ _ _ _ _ _ [some (.ref 0), some (.int (nI p)), some (.ref 2), some (.int kn), some (.int (nI p + 3)), some (.int (nI wd)), some (.int (nI k))] [.int (fgA tx L (p + 3 + k)), .int (nI k), .int (nI H), .ref 2] (lw tx (nI L) ++ nc 2 (upd kd H kn) (hsR tx L p th H k) wi (nI (H + 1)) (nI wd) mb dy) _ _
            refine Exists.intro [2, 3, 4, 5] (Exists.intro [.ref 0, .int (nI H), .int (nI k), .int (fgA tx L (p + 3 + k))] (Exists.intro (nc 0 (upd kd H kn) (hsR tx L p th H k) wi (nI (H + 1)) (nI wd) mb dy) (Exists.intro 0 (Exists.intro 0 (And.intro ⟨rfl, rfl, Nat.le_of_ble_eq_true rfl, rfl, rfl, rfl, ⟨0, _, rfl, rfl⟩⟩ (And.intro (Nat.le_refl _) (And.intro (Nat.le_refl _) ?_)))))))
            refine t_place rfl rfl (by omega) (by omega) ?_
            rw [nI_succ k, hsR] at ih
            exact ih
        · show runS _ _ _ _ _ _ [some (.ref 0), some (.int (nI p)), some (.ref 2), some (.int kn), some (.int (nI p + 3)), some (.int (nI wd)), none] [.int 0] (lw tx (nI L) ++ nc 2 kd th wi (nI H) (nI R) mb dy) _ _
          refine br_t ((rfl)) ?_
          exact fin0 (hF (fun z => c5 (by rw [← hwg]; exact z.2)))
      · exact fin0 (hF (fun z => c4 (by rw [← hwg]; exact z.1.2.2)))
    · exact fin0 (hF (fun z => c3 z.1.2.1))
  · show runS _ _ _ _ _ _ [some (.ref 0), some (.int (nI p)), some (.ref 2), some (.int kn), some (.int (nI p + 3)), some (.int (nI wd)), none] [.int 0] (lw tx (nI L) ++ nc 2 kd th wi (nI H) (nI R) mb dy) _ _
    refine br_t ((rfl)) ?_
    exact fin0 (hF (fun z => c (by rw [← hfg]; exact z.1.1)))
abbrev msOK (tx : Nat → Int32) (L p H : Nat) : Prop := inR (fgA tx L (p + 1)) H ∧ ltA tx L (p + 2) = 59
theorem t_mouseEnd (hx : x = nI p) (hp : p ≤ 200) (hL : L ≤ 200) (hH : H ≤ 6) (hM : M < 64) (hT : ∀ a, a < H → fgA tx L (p + 1) = nI a → ltA tx L (p + 2) = 59 → Q (some (.int (nI (p + 3)))) (lw tx (nI L) ++ nc 2 kd th wi (nI H) rm (nI (if M.testBit a = true then M else M ^^^ 2 ^ a)) dy)) (hF : ¬ msOK tx L p H → Q (some (.int (-4))) (lw tx (nI L) ++ nc 2 kd th wi (nI H) rm (nI M) dy)) : callok (d + 3) 15 0 0 [.ref 0, .int x, .ref 2] (lw tx (nI L) ++ nc 2 kd th wi (nI H) rm (nI M) dy) Q := by
  subst hx
  have e1 : nI p + 1 = nI (p + 1) := nI_1 p
  have e3 : nI p + 3 = nI (p + 3) := nI_add p 3
  have e2 : nI p + 2 = nI (p + 2) := nI_add p 2
  refine beg rfl (gs [] ?_)
  refine Exists.intro [0, 1] (Exists.intro [.ref 0, .int (nI p + 1)] (Exists.intro (lw tx (nI L)) (Exists.intro 0 (Exists.intro 0 (And.intro ⟨rfl, rfl, Nat.le_of_ble_eq_true rfl, rfl, rfl, rfl, ⟨0, _, rfl, rfl⟩⟩ (And.intro (Nat.le_refl _) (And.intro (Nat.le_refl _) ?_)))))))
  refine t_figureAt e1 (by omega) hL ?_
  show runS _ _ _ _ _ _ [some (.ref 0), some (.int (nI p)), some (.ref 2), none] [.int (fgA tx L (p + 1))] (lw tx (nI L) ++ nc 2 kd th wi (nI H) rm (nI M) dy) _ _
  refine Exists.intro [2, 3, 4, 5] (Exists.intro [.ref 0, .int (fgA tx L (p + 1))] (Exists.intro (nc 0 kd th wi (nI H) rm (nI M) dy) (Exists.intro 0 (Exists.intro 0 (And.intro ⟨rfl, rfl, Nat.le_of_ble_eq_true rfl, rfl, rfl, rfl, ⟨0, _, rfl, rfl⟩⟩ (And.intro (Nat.le_refl _) (And.intro (Nat.le_refl _) ?_)))))))
  refine t_hasHouse (fun c => ?_) (fun c => ?_)
  · show runS _ _ _ _ _ _ [some (.ref 0), some (.int (nI p)), some (.ref 2), some (.int (fgA tx L (p + 1)))] [.int 1] (lw tx (nI L) ++ nc 2 kd th wi (nI H) rm (nI M) dy) _ _
    refine br_f ((by decide)) ?_
    refine Exists.intro [0, 1] (Exists.intro [.ref 0, .int (nI p + 2)] (Exists.intro (lw tx (nI L)) (Exists.intro 0 (Exists.intro 0 (And.intro ⟨rfl, rfl, Nat.le_of_ble_eq_true rfl, rfl, rfl, rfl, ⟨0, _, rfl, rfl⟩⟩ (And.intro (Nat.le_refl _) (And.intro (Nat.le_refl _) ?_)))))))
    refine t_letterAt e2 (by omega) hL ?_
    show runS _ _ _ _ _ _ [some (.ref 0), some (.int (nI p)), some (.ref 2), some (.int (fgA tx L (p + 1)))] [.int (ltA tx L (p + 2))] (lw tx (nI L) ++ nc 2 kd th wi (nI H) rm (nI M) dy) _ _
    refine br_c (fun c3 => ?_) (fun c3 => ?_)
    · obtain ⟨a, ha, ea⟩ := inR_of c (by omega)
      have hq := hT a ha ea c3
      rw [← e3] at hq
      refine Exists.intro [2, 3, 4, 5] (Exists.intro [.ref 0, .int (fgA tx L (p + 1))] (Exists.intro (nc 0 kd th wi (nI H) rm (nI M) dy) (Exists.intro 0 (Exists.intro 0 (And.intro ⟨rfl, rfl, Nat.le_of_ble_eq_true rfl, rfl, rfl, rfl, ⟨0, _, rfl, rfl⟩⟩ (And.intro (Nat.le_refl _) (And.intro (Nat.le_refl _) ?_)))))))
      refine t_hasMouse ea (by omega) hM (fun c4 => ?_) (fun c4 => ?_)
      · rw [if_pos c4] at hq
        refine br_f ((by decide)) ?_
        exact fin0 (hq)
      · rw [if_neg c4] at hq
        refine br_t ((rfl)) ?_
        show runS _ _ _ _ _ _ [some (.ref 0), some (.int (nI p)), some (.ref 2), some (.int (fgA tx L (p + 1)))] [] (lw tx (nI L) ++ nc 2 kd th wi (nI H) rm (nI M) dy) _ _
        refine Exists.intro [2, 3, 4, 5] (Exists.intro [.ref 0, .int (fgA tx L (p + 1))] (Exists.intro (nc 0 kd th wi (nI H) rm (nI M) dy) (Exists.intro 0 (Exists.intro 0 (And.intro ⟨rfl, rfl, Nat.le_of_ble_eq_true rfl, rfl, rfl, rfl, ⟨0, _, rfl, rfl⟩⟩ (And.intro (Nat.le_refl _) (And.intro (Nat.le_refl _) ?_)))))))
        refine t_toggleMouse ea (by omega) hM ?_
        exact fin0 (hq)
    · exact fin0 (hF (fun z => c3 z.2))
  · show runS _ _ _ _ _ _ [some (.ref 0), some (.int (nI p)), some (.ref 2), some (.int (fgA tx L (p + 1)))] [.int 0] (lw tx (nI L) ++ nc 2 kd th wi (nI H) rm (nI M) dy) _ _
    refine br_t ((rfl)) ?_
    exact fin0 (hF (fun z => c z.1))
abbrev wsOK (tx : Nat → Int32) (L p R : Nat) : Prop := (inR (fgA tx L (p + 1)) R ∧ ltA tx L (p + 2) = 44) ∧ (¬ fgA tx L (p + 3) < 0 ∧ ¬ 9 < fgA tx L (p + 3)) ∧ ltA tx L (p + 4) = 59
theorem t_wishEnd (hx : x = nI p) (hp : p ≤ 200) (hL : L ≤ 200) (hR : R ≤ 5) (hT : ∀ a, a < R → fgA tx L (p + 1) = nI a → wsOK tx L p R → Q (some (.int (nI (p + 5)))) (lw tx (nI L) ++ nc 2 kd th (upd wi a (fgA tx L (p + 3))) hs (nI R) mb dy)) (hF : ¬ wsOK tx L p R → Q (some (.int (-4))) (lw tx (nI L) ++ nc 2 kd th wi hs (nI R) mb dy)) : callok (d + 3) 16 0 0 [.ref 0, .int x, .ref 2] (lw tx (nI L) ++ nc 2 kd th wi hs (nI R) mb dy) Q := by
  subst hx
  have e1 : nI p + 1 = nI (p + 1) := nI_1 p
  have e3 : nI p + 3 = nI (p + 3) := nI_add p 3
  have e2 : nI p + 2 = nI (p + 2) := nI_add p 2
  have e4 : nI p + 4 = nI (p + 4) := nI_add p 4
  have e5 : nI p + 5 = nI (p + 5) := nI_add p 5
  refine beg rfl (gs [] ?_)
  refine Exists.intro [0, 1] (Exists.intro [.ref 0, .int (nI p + 1)] (Exists.intro (lw tx (nI L)) (Exists.intro 0 (Exists.intro 0 (And.intro ⟨rfl, rfl, Nat.le_of_ble_eq_true rfl, rfl, rfl, rfl, ⟨0, _, rfl, rfl⟩⟩ (And.intro (Nat.le_refl _) (And.intro (Nat.le_refl _) ?_)))))))
  refine t_figureAt e1 (by omega) hL ?_
  show runS _ _ _ _ _ _ [some (.ref 0), some (.int (nI p)), some (.ref 2), none, none] [.int (fgA tx L (p + 1))] (lw tx (nI L) ++ nc 2 kd th wi hs (nI R) mb dy) _ _
  refine Exists.intro [0, 1] (Exists.intro [.ref 0, .int (nI p + 3)] (Exists.intro (lw tx (nI L)) (Exists.intro 0 (Exists.intro 0 (And.intro ⟨rfl, rfl, Nat.le_of_ble_eq_true rfl, rfl, rfl, rfl, ⟨0, _, rfl, rfl⟩⟩ (And.intro (Nat.le_refl _) (And.intro (Nat.le_refl _) ?_)))))))
  refine t_figureAt e3 (by omega) hL ?_
  show runS _ _ _ _ _ _ [some (.ref 0), some (.int (nI p)), some (.ref 2), some (.int (fgA tx L (p + 1))), none] [.int (fgA tx L (p + 3))] (lw tx (nI L) ++ nc 2 kd th wi hs (nI R) mb dy) _ _
  refine Exists.intro [2, 3, 4, 5] (Exists.intro [.ref 0, .int (fgA tx L (p + 1))] (Exists.intro (nc 0 kd th wi hs (nI R) mb dy) (Exists.intro 0 (Exists.intro 0 (And.intro ⟨rfl, rfl, Nat.le_of_ble_eq_true rfl, rfl, rfl, rfl, ⟨0, _, rfl, rfl⟩⟩ (And.intro (Nat.le_refl _) (And.intro (Nat.le_refl _) ?_)))))))
  refine t_hasRoom (fun c => ?_) (fun c => ?_)
  · show runS _ _ _ _ _ _ [some (.ref 0), some (.int (nI p)), some (.ref 2), some (.int (fgA tx L (p + 1))), some (.int (fgA tx L (p + 3)))] [.int 1] (lw tx (nI L) ++ nc 2 kd th wi hs (nI R) mb dy) _ _
    refine br_f ((by decide)) ?_
    refine Exists.intro [0, 1] (Exists.intro [.ref 0, .int (nI p + 2)] (Exists.intro (lw tx (nI L)) (Exists.intro 0 (Exists.intro 0 (And.intro ⟨rfl, rfl, Nat.le_of_ble_eq_true rfl, rfl, rfl, rfl, ⟨0, _, rfl, rfl⟩⟩ (And.intro (Nat.le_refl _) (And.intro (Nat.le_refl _) ?_)))))))
    refine t_letterAt e2 (by omega) hL ?_
    show runS _ _ _ _ _ _ [some (.ref 0), some (.int (nI p)), some (.ref 2), some (.int (fgA tx L (p + 1))), some (.int (fgA tx L (p + 3)))] [.int (ltA tx L (p + 2))] (lw tx (nI L) ++ nc 2 kd th wi hs (nI R) mb dy) _ _
    refine br_c (fun c2 => ?_) (fun c2 => ?_)
    · refine Exists.intro [] (Exists.intro [.int (fgA tx L (p + 3))] (Exists.intro ([]) (Exists.intro 0 (Exists.intro 0 (And.intro ⟨rfl, rfl, Nat.le_of_ble_eq_true rfl, rfl, rfl, rfl, trivial⟩ (And.intro (Nat.le_refl _) (And.intro (Nat.le_refl _) ?_)))))))
      refine t_isThing (fun c3 c4 => ?_) (fun c3 => ?_)
      · show runS _ _ _ _ _ _ [some (.ref 0), some (.int (nI p)), some (.ref 2), some (.int (fgA tx L (p + 1))), some (.int (fgA tx L (p + 3)))] [.int 1] (lw tx (nI L) ++ nc 2 kd th wi hs (nI R) mb dy) _ _
        refine br_f ((by decide)) ?_
        refine Exists.intro [0, 1] (Exists.intro [.ref 0, .int (nI p + 4)] (Exists.intro (lw tx (nI L)) (Exists.intro 0 (Exists.intro 0 (And.intro ⟨rfl, rfl, Nat.le_of_ble_eq_true rfl, rfl, rfl, rfl, ⟨0, _, rfl, rfl⟩⟩ (And.intro (Nat.le_refl _) (And.intro (Nat.le_refl _) ?_)))))))
        refine t_letterAt e4 (by omega) hL ?_
        show runS _ _ _ _ _ _ [some (.ref 0), some (.int (nI p)), some (.ref 2), some (.int (fgA tx L (p + 1))), some (.int (fgA tx L (p + 3)))] [.int (ltA tx L (p + 4))] (lw tx (nI L) ++ nc 2 kd th wi hs (nI R) mb dy) _ _
        refine br_c (fun c5 => ?_) (fun c5 => ?_)
        · obtain ⟨a, ha, ea⟩ := inR_of c (by omega)
          have hq := hT a ha ea ⟨⟨c, c2⟩, ⟨c3, c4⟩, c5⟩
          rw [← e5] at hq
          refine Exists.intro [2, 3, 4, 5] (Exists.intro [.ref 0, .int (fgA tx L (p + 1)), .int (fgA tx L (p + 3))] (Exists.intro (nc 0 kd th wi hs (nI R) mb dy) (Exists.intro 0 (Exists.intro 0 (And.intro ⟨rfl, rfl, Nat.le_of_ble_eq_true rfl, rfl, rfl, rfl, ⟨0, _, rfl, rfl⟩⟩ (And.intro (Nat.le_refl _) (And.intro (Nat.le_refl _) ?_)))))))
          refine t_setWish ea ha hR ?_
          exact fin0 (hq)
        · exact fin0 (hF (fun z => c5 z.2.2))
      · show runS _ _ _ _ _ _ [some (.ref 0), some (.int (nI p)), some (.ref 2), some (.int (fgA tx L (p + 1))), some (.int (fgA tx L (p + 3)))] [.int 0] (lw tx (nI L) ++ nc 2 kd th wi hs (nI R) mb dy) _ _
        refine br_t ((rfl)) ?_
        exact fin0 (hF (fun z => c3 z.2.1))
    · exact fin0 (hF (fun z => c2 z.1.2))
  · show runS _ _ _ _ _ _ [some (.ref 0), some (.int (nI p)), some (.ref 2), some (.int (fgA tx L (p + 1))), some (.int (fgA tx L (p + 3)))] [.int 0] (lw tx (nI L) ++ nc 2 kd th wi hs (nI R) mb dy) _ _
    refine br_t ((rfl)) ?_
    exact fin0 (hF (fun z => c z.1.1))
end LE
