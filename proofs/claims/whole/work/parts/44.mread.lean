/-! THE REFERENCE: reading -/
def hrA (tx : Nat → Int32) (L k : Nat) : Int32 := if k < L then tx k else 0
theorem hr_lt {tx : Nat → Int32} {L k : Nat} {c : Int32} (h1 : c ≠ 0) (h2 : c ≠ -4) : hrA tx L k = c ↔ ltA tx L k = c := by
  unfold hrA ltA
  split
  · exact Iff.rfl
  · exact ⟨fun z => absurd z.symm h1, fun z => absurd z.symm h2⟩
theorem isF_in {h : Int32} : (¬ h - 48 < 0 ∧ ¬ 9 < h - 48) ↔ isF h := by
  constructor
  · rintro ⟨z1, z2⟩
    obtain ⟨j, hj, e⟩ := nI_of2 (M := 9) (n := 9) rfl z1 (Int32.not_lt.mp z2)
    have e2 : h = nI (j + 48) := by
      have : h - 48 + 48 = nI j + nI 48 := by rw [e]; rfl
      rw [Int32.sub_add_cancel, nI_add] at this
      exact this
    subst e2
    exact ⟨nI_nlt (b := 48) (by omega) (by omega), nI_nlt (a := 57) (by omega) (by omega)⟩
  · rintro ⟨z1, z2⟩
    have z0 : ¬ h < 0 := fun q => z1 (Int32.lt_trans q (by decide))
    obtain ⟨j, hj, rfl⟩ := nI_of z0
    have g1 : ¬ j < 48 := fun q => z1 ((nI_ltI (b := 48) (by omega) (by omega)).mpr q)
    have g2 : ¬ 57 < j := fun q => z2 ((nI_ltI (a := 57) (by omega) (by omega)).mpr q)
    rw [show (48 : Int32) = nI 48 from rfl, pk_sub (by omega)]
    exact ⟨nI_pos (by omega), nI_nlt (a := 9) (by omega) (by omega)⟩
theorem isF_hr {tx : Nat → Int32} {L k : Nat} : isF (hrA tx L k) ↔ isF (ltA tx L k) := by
  unfold hrA ltA
  split
  · exact Iff.rfl
  · exact ⟨fun z => absurd z (by decide), fun z => absurd z (by decide)⟩
theorem fg_hr {tx : Nat → Int32} {L k : Nat} (h : isF (hrA tx L k)) : fgA tx L k = hrA tx L k - 48 := by
  have h2 := isF_hr.mp h
  unfold fgA
  rw [if_pos h2]
  unfold hrA ltA
  unfold ltA at h2
  split
  · rfl
  · rename_i c
    rw [if_neg c] at h2
    exact absurd h2 (by decide)
theorem fg_no {tx : Nat → Int32} {L k : Nat} (h : ¬ isF (hrA tx L k)) : fgA tx L k = -4 := by
  unfold fgA
  rw [if_neg (fun z => h (isF_hr.mpr z))]
theorem fg_in {tx : Nat → Int32} {L k : Nat} {x : Int32} (hx : ¬ 9 < x) : (¬ hrA tx L k - 48 < 0 ∧ ¬ x < hrA tx L k - 48) ↔ (¬ fgA tx L k < 0 ∧ ¬ x < fgA tx L k) := by
  constructor
  · rintro ⟨z1, z2⟩
    have hf : isF (hrA tx L k) := isF_in.mp ⟨z1, fun q => z2 (Int32.lt_of_le_of_lt (Int32.not_lt.mp hx) q)⟩
    rw [fg_hr hf]
    exact ⟨z1, z2⟩
  · rintro ⟨z1, z2⟩
    by_cases hf : isF (hrA tx L k)
    · rw [fg_hr hf] at z1 z2
      exact ⟨z1, z2⟩
    · rw [fg_no hf] at z1
      exact absurd (by decide) z1
theorem fg_ne {tx : Nat → Int32} {L k : Nat} {x : Int32} (hx : ¬ 9 < x) (h : ¬ hrA tx L k - 48 < 0 ∧ ¬ x < hrA tx L k - 48) : fgA tx L k = hrA tx L k - 48 := fg_hr (isF_in.mp ⟨h.1, fun q => h.2 (Int32.lt_of_le_of_lt (Int32.not_lt.mp hx) q)⟩)
theorem n1_le {n : Nat} (h : n ≤ 9) : ¬ 9 < nI n - 1 := by
  cases n with
  | zero => decide
  | succ k => rw [nI_pred]; exact nI_nlt (a := 9) (by omega) (by omega)
theorem in_n1 {x : Int32} {n : Nat} (h : n ≤ 9) : (¬ x < 0 ∧ ¬ nI n - 1 < x) ↔ inR x n := by
  cases n with
  | zero =>
    constructor
    · rintro ⟨z1, z2⟩
      refine absurd ?_ z2
      exact Int32.lt_of_lt_of_le (by decide) (Int32.not_lt.mp z1)
    · intro z
      obtain ⟨a, ha, -⟩ := inR_of z (by omega)
      omega
  | succ k =>
    rw [nI_pred]
    constructor
    · rintro ⟨z1, z2⟩
      obtain ⟨j, hj, rfl⟩ := nI_of z1
      have h1 : ¬ k < j := fun q => z2 ((nI_ltI (by omega) hj).mpr q)
      exact inR_nI (by omega) (by omega)
    · intro z
      obtain ⟨a, ha, rfl⟩ := inR_of z (by omega)
      exact ⟨z.1, nI_nlt (by omega) (by omega)⟩
section MS
variable {d : Nat} {hs rm dy sn ln po rh rr pn kn : Int32} {kd th mc wn sd sp st tx rk rt rm2 rw2 row past pu pin rows kept : Nat → Int32} {wi : Nat → Int32} {H R M a b n m k r p G T L S S2 S8 : Nat} {x y v w u : Int32} {Q : Option Value → List aC → Prop}
theorem m_here (hL : L ≤ 200) (hp : p ≤ 1000) (hQ : Q (some (.int (hrA tx L p))) (mw (nI H) (nI R) dy (nI S) (nI L) (nI p) rh rr (nI S8) (nI S2) kd th mc wn sd sp st tx rk rt rm2 rw2 row past pu pin rows kept)) : callok (d + 1) 126 0 0 [.ref 0] (mw (nI H) (nI R) dy (nI S) (nI L) (nI p) rh rr (nI S8) (nI S2) kd th mc wn sd sp st tx rk rt rm2 rw2 row past pu pin rows kept) Q := by
  unfold hrA at hQ
  refine beg rfl (gs [] ?_)
  refine br_c (fun c => ?_) (fun c => ?_)
  · have c' := (nI_ltI (by omega) (by omega)).mp c
    rw [if_pos c'] at hQ
    refine Exists.intro (p) (And.intro (rfl) (And.intro ⟨by omega, by omega⟩ ?_))
    exact fin0 (hQ)
  · rw [if_neg (fun z => c (nI_lt z (by omega)))] at hQ
    exact fin0 (hQ)
theorem m_figure (hL : L ≤ 200) (hp : p ≤ 1000) (hT : (¬ hrA tx L p - 48 < 0 ∧ ¬ x < hrA tx L p - 48) → Q (some (.int (hrA tx L p - 48))) (mw (nI H) (nI R) dy (nI S) (nI L) (nI (p + 1)) rh rr (nI S8) (nI S2) kd th mc wn sd sp st tx rk rt rm2 rw2 row past pu pin rows kept)) (hF : ¬ (¬ hrA tx L p - 48 < 0 ∧ ¬ x < hrA tx L p - 48) → Q (some (.int (-4))) (mw (nI H) (nI R) dy (nI S) (nI L) (nI p) rh rr (nI S8) (nI S2) kd th mc wn sd sp st tx rk rt rm2 rw2 row past pu pin rows kept)) : callok (d + 2) 127 0 0 [.ref 0, .int x] (mw (nI H) (nI R) dy (nI S) (nI L) (nI p) rh rr (nI S8) (nI S2) kd th mc wn sd sp st tx rk rt rm2 rw2 row past pu pin rows kept) Q := by
  refine beg rfl (gs [] ?_)
  refine Exists.intro [0, 1, 2, 3, 4, 5, 6, 7, 8, 9, 10, 11, 12, 13, 14, 15, 16, 17, 18] (Exists.intro [.ref 0] (Exists.intro ((mw (nI H) (nI R) dy (nI S) (nI L) (nI p) rh rr (nI S8) (nI S2) kd th mc wn sd sp st tx rk rt rm2 rw2 row past pu pin rows kept)) (Exists.intro 0 (Exists.intro 0 (And.intro ⟨rfl, rfl, Nat.le_of_ble_eq_true rfl, rfl, rfl, rfl, ⟨0, _, rfl, rfl⟩⟩ (And.intro (Nat.le_refl _) (And.intro (Nat.le_refl _) ?_)))))))
  refine m_here hL hp ?_
  rw [q_all rfl]
  refine Exists.intro [] (Exists.intro [.int (hrA tx L p - 48), .int 0, .int x] (Exists.intro ([]) (Exists.intro 0 (Exists.intro 0 (And.intro ⟨rfl, rfl, Nat.le_of_ble_eq_true rfl, rfl, rfl, rfl, trivial⟩ (And.intro (Nat.le_refl _) (And.intro (Nat.le_refl _) ?_)))))))
  refine m_in (fun c c2 => ?_) (fun c => ?_)
  · rw [p_nil]
    refine br_f ((by decide)) ?_
    rw [nI_succ p] at hT
    exact fin0 (hT ⟨c, c2⟩)
  · rw [p_nil]
    refine br_t ((rfl)) ?_
    exact fin0 (hF c)
theorem m_sign (hL : L ≤ 200) (hp : p ≤ 1000) (hT : hrA tx L p = x → Q (some (.int 1)) (mw (nI H) (nI R) dy (nI S) (nI L) (nI (p + 1)) rh rr (nI S8) (nI S2) kd th mc wn sd sp st tx rk rt rm2 rw2 row past pu pin rows kept)) (hF : ¬ hrA tx L p = x → Q (some (.int 0)) (mw (nI H) (nI R) dy (nI S) (nI L) (nI p) rh rr (nI S8) (nI S2) kd th mc wn sd sp st tx rk rt rm2 rw2 row past pu pin rows kept)) : callok (d + 2) 128 0 0 [.ref 0, .int x] (mw (nI H) (nI R) dy (nI S) (nI L) (nI p) rh rr (nI S8) (nI S2) kd th mc wn sd sp st tx rk rt rm2 rw2 row past pu pin rows kept) Q := by
  refine beg rfl (gs [] ?_)
  refine Exists.intro [0, 1, 2, 3, 4, 5, 6, 7, 8, 9, 10, 11, 12, 13, 14, 15, 16, 17, 18] (Exists.intro [.ref 0] (Exists.intro ((mw (nI H) (nI R) dy (nI S) (nI L) (nI p) rh rr (nI S8) (nI S2) kd th mc wn sd sp st tx rk rt rm2 rw2 row past pu pin rows kept)) (Exists.intro 0 (Exists.intro 0 (And.intro ⟨rfl, rfl, Nat.le_of_ble_eq_true rfl, rfl, rfl, rfl, ⟨0, _, rfl, rfl⟩⟩ (And.intro (Nat.le_refl _) (And.intro (Nat.le_refl _) ?_)))))))
  refine m_here hL hp ?_
  rw [q_all rfl]
  refine br_c (fun c => ?_) (fun c => ?_)
  · rw [nI_succ p] at hT
    exact And.intro (Or.inr rfl) (fin0 (hT c))
  · exact And.intro (Or.inl rfl) (fin0 (hF c))
theorem m_readsMouse (hL : L ≤ 200) (hp : p ≤ 200) (hG : G ≤ 6) (hT : ∀ a, a < G → fgA tx L (p + 1) = nI a → ltA tx L (p + 2) = 59 → Q (some (.int 1)) (mw (nI H) (nI R) dy (nI S) (nI L) (nI (p + 3)) (nI G) (nI T) (nI S8) (nI S2) kd th mc wn sd sp st tx rk rt (upd rm2 a 1) rw2 row past pu pin rows kept)) (hF : ¬ msOK tx L p G → ∀ po, Q (some (.int 0)) (mw (nI H) (nI R) dy (nI S) (nI L) po (nI G) (nI T) (nI S8) (nI S2) kd th mc wn sd sp st tx rk rt rm2 rw2 row past pu pin rows kept)) : callok (d + 3) 130 0 0 [.ref 0] (mw (nI H) (nI R) dy (nI S) (nI L) (nI (p + 1)) (nI G) (nI T) (nI S8) (nI S2) kd th mc wn sd sp st tx rk rt rm2 rw2 row past pu pin rows kept) Q := by
  refine beg rfl (gs [] ?_)
  refine Exists.intro [0, 1, 2, 3, 4, 5, 6, 7, 8, 9, 10, 11, 12, 13, 14, 15, 16, 17, 18] (Exists.intro [.ref 0, .int (nI G - 1)] (Exists.intro ((mw (nI H) (nI R) dy (nI S) (nI L) (nI (p + 1)) (nI G) (nI T) (nI S8) (nI S2) kd th mc wn sd sp st tx rk rt rm2 rw2 row past pu pin rows kept)) (Exists.intro 0 (Exists.intro 0 (And.intro ⟨rfl, rfl, Nat.le_of_ble_eq_true rfl, rfl, rfl, rfl, ⟨0, _, rfl, rfl⟩⟩ (And.intro (Nat.le_refl _) (And.intro (Nat.le_refl _) ?_)))))))
  refine m_figure hL (by omega) (fun c => ?_) (fun c => ?_)
  · rw [q_all rfl]
    have c2 := (in_n1 (by omega)).mp ((fg_in (n1_le (by omega))).mp c)
    rw [← fg_ne (n1_le (by omega)) c]
    obtain ⟨a, ha, ea⟩ := inR_of c2 (by omega)
    rw [ea]
    refine br_f ((show ¬ nI a = -4 from fun z => absurd (show nI a < 0 by rw [z]; decide) (nI_pos (by omega)))) ?_
    refine Exists.intro [0, 1, 2, 3, 4, 5, 6, 7, 8, 9, 10, 11, 12, 13, 14, 15, 16, 17, 18] (Exists.intro [.ref 0, .int 59] (Exists.intro ((mw (nI H) (nI R) dy (nI S) (nI L) (nI (p + 2)) (nI G) (nI T) (nI S8) (nI S2) kd th mc wn sd sp st tx rk rt rm2 rw2 row past pu pin rows kept)) (Exists.intro 0 (Exists.intro 0 (And.intro ⟨rfl, rfl, Nat.le_of_ble_eq_true rfl, rfl, rfl, rfl, ⟨0, _, rfl, rfl⟩⟩ (And.intro (Nat.le_refl _) (And.intro (Nat.le_refl _) ?_)))))))
    refine m_sign hL (by omega) (fun c3 => ?_) (fun c3 => ?_)
    · rw [q_all rfl]
      refine br_f ((by decide)) ?_
      refine Exists.intro (a) (And.intro (rfl) (And.intro ⟨by omega, by omega⟩ ?_))
      exact And.intro (Or.inr rfl) (fin0 (hT a ha ea ((hr_lt (by decide) (by decide)).mp c3)))
    · rw [q_all rfl]
      refine br_t ((rfl)) ?_
      exact And.intro (Or.inl rfl) (fin0 (hF (fun z => c3 ((hr_lt (by decide) (by decide)).mpr z.2)) _))
  · rw [q_all rfl]
    refine br_t ((rfl)) ?_
    exact And.intro (Or.inl rfl) (fin0 (hF (fun z => c ((fg_in (n1_le (by omega))).mpr ((in_n1 (by omega)).mpr z.1))) _))
theorem m_readsWant (hL : L ≤ 200) (hp : p ≤ 200) (hR : T ≤ 5) (hT : ∀ a, a < T → fgA tx L (p + 1) = nI a → wsOK tx L p T → Q (some (.int 1)) (mw (nI H) (nI R) dy (nI S) (nI L) (nI (p + 5)) (nI G) (nI T) (nI S8) (nI S2) kd th mc wn sd sp st tx rk rt rm2 (upd rw2 a (fgA tx L (p + 3))) row past pu pin rows kept)) (hF : ¬ wsOK tx L p T → ∀ po, Q (some (.int 0)) (mw (nI H) (nI R) dy (nI S) (nI L) po (nI G) (nI T) (nI S8) (nI S2) kd th mc wn sd sp st tx rk rt rm2 rw2 row past pu pin rows kept)) : callok (d + 3) 131 0 0 [.ref 0] (mw (nI H) (nI R) dy (nI S) (nI L) (nI (p + 1)) (nI G) (nI T) (nI S8) (nI S2) kd th mc wn sd sp st tx rk rt rm2 rw2 row past pu pin rows kept) Q := by
  refine beg rfl (gs [] ?_)
  refine Exists.intro [0, 1, 2, 3, 4, 5, 6, 7, 8, 9, 10, 11, 12, 13, 14, 15, 16, 17, 18] (Exists.intro [.ref 0, .int (nI T - 1)] (Exists.intro ((mw (nI H) (nI R) dy (nI S) (nI L) (nI (p + 1)) (nI G) (nI T) (nI S8) (nI S2) kd th mc wn sd sp st tx rk rt rm2 rw2 row past pu pin rows kept)) (Exists.intro 0 (Exists.intro 0 (And.intro ⟨rfl, rfl, Nat.le_of_ble_eq_true rfl, rfl, rfl, rfl, ⟨0, _, rfl, rfl⟩⟩ (And.intro (Nat.le_refl _) (And.intro (Nat.le_refl _) ?_)))))))
  refine m_figure hL (by omega) (fun c => ?_) (fun c => ?_)
  · rw [q_all rfl]
    have c2 := (in_n1 (by omega)).mp ((fg_in (n1_le (by omega))).mp c)
    rw [← fg_ne (n1_le (by omega)) c]
    obtain ⟨a, ha, ea⟩ := inR_of c2 (by omega)
    rw [ea]
    refine br_f ((show ¬ nI a = -4 from fun z => absurd (show nI a < 0 by rw [z]; decide) (nI_pos (by omega)))) ?_
    refine Exists.intro [0, 1, 2, 3, 4, 5, 6, 7, 8, 9, 10, 11, 12, 13, 14, 15, 16, 17, 18] (Exists.intro [.ref 0, .int 44] (Exists.intro ((mw (nI H) (nI R) dy (nI S) (nI L) (nI (p + 2)) (nI G) (nI T) (nI S8) (nI S2) kd th mc wn sd sp st tx rk rt rm2 rw2 row past pu pin rows kept)) (Exists.intro 0 (Exists.intro 0 (And.intro ⟨rfl, rfl, Nat.le_of_ble_eq_true rfl, rfl, rfl, rfl, ⟨0, _, rfl, rfl⟩⟩ (And.intro (Nat.le_refl _) (And.intro (Nat.le_refl _) ?_)))))))
    refine m_sign hL (by omega) (fun c3 => ?_) (fun c3 => ?_)
    · rw [q_all rfl]
      refine br_f ((by decide)) ?_
      refine Exists.intro [0, 1, 2, 3, 4, 5, 6, 7, 8, 9, 10, 11, 12, 13, 14, 15, 16, 17, 18] (Exists.intro [.ref 0, .int 9] (Exists.intro ((mw (nI H) (nI R) dy (nI S) (nI L) (nI (p + 3)) (nI G) (nI T) (nI S8) (nI S2) kd th mc wn sd sp st tx rk rt rm2 rw2 row past pu pin rows kept)) (Exists.intro 0 (Exists.intro 0 (And.intro ⟨rfl, rfl, Nat.le_of_ble_eq_true rfl, rfl, rfl, rfl, ⟨0, _, rfl, rfl⟩⟩ (And.intro (Nat.le_refl _) (And.intro (Nat.le_refl _) ?_)))))))
      refine m_figure hL (by omega) (fun c4 => ?_) (fun c4 => ?_)
      · rw [q_all rfl]
        have c5 := (fg_in (by decide)).mp c4
        have ef := fg_ne (by decide) c4
        rw [← ef]
        refine br_f ((show ¬ fgA tx L (p + 3) = -4 from fun z => absurd (show fgA tx L (p + 3) < 0 by rw [z]; decide) c5.1)) ?_
        refine Exists.intro [0, 1, 2, 3, 4, 5, 6, 7, 8, 9, 10, 11, 12, 13, 14, 15, 16, 17, 18] (Exists.intro [.ref 0, .int 59] (Exists.intro ((mw (nI H) (nI R) dy (nI S) (nI L) (nI (p + 4)) (nI G) (nI T) (nI S8) (nI S2) kd th mc wn sd sp st tx rk rt rm2 rw2 row past pu pin rows kept)) (Exists.intro 0 (Exists.intro 0 (And.intro ⟨rfl, rfl, Nat.le_of_ble_eq_true rfl, rfl, rfl, rfl, ⟨0, _, rfl, rfl⟩⟩ (And.intro (Nat.le_refl _) (And.intro (Nat.le_refl _) ?_)))))))
        refine m_sign hL (by omega) (fun c6 => ?_) (fun c6 => ?_)
        · rw [q_all rfl]
          refine br_f ((by decide)) ?_
          refine Exists.intro (a) (And.intro (rfl) (And.intro ⟨by omega, by omega⟩ ?_))
          exact And.intro (Or.inr rfl) (fin0 (hT a ha ea ⟨⟨c2, (hr_lt (by decide) (by decide)).mp c3⟩, c5, (hr_lt (by decide) (by decide)).mp c6⟩))
        · rw [q_all rfl]
          refine br_t ((rfl)) ?_
          exact And.intro (Or.inl rfl) (fin0 (hF (fun z => c6 ((hr_lt (by decide) (by decide)).mpr z.2.2)) _))
      · rw [q_all rfl]
        refine br_t ((rfl)) ?_
        exact And.intro (Or.inl rfl) (fin0 (hF (fun z => c4 ((fg_in (by decide)).mpr z.2.1)) _))
    · rw [q_all rfl]
      refine br_t ((rfl)) ?_
      exact And.intro (Or.inl rfl) (fin0 (hF (fun z => c3 ((hr_lt (by decide) (by decide)).mpr z.1.2)) _))
  · rw [q_all rfl]
    refine br_t ((rfl)) ?_
    exact And.intro (Or.inl rfl) (fin0 (hF (fun z => c ((fg_in (n1_le (by omega))).mpr ((in_n1 (by omega)).mpr z.1.1))) _))
theorem m_readsHouse2 (hL : L ≤ 200) (hp : p ≤ 200) (hG : G < 6) (hR : T ≤ 5) (c2 : ¬ fgA tx L (p + 1) < 0 ∧ ¬ 3 < fgA tx L (p + 1)) (c3 : ltA tx L (p + 2) = 44) (hT : hsOK tx L p G T → Q (some (.int 1)) (mw (nI H) (nI R) dy (nI S) (nI L) (nI (p + 3 + hsW tx L p + 1)) (nI (G + 1)) (nI (hsW tx L p)) (nI S8) (nI S2) kd th mc wn sd sp st tx (upd rk G (fgA tx L (p + 1))) (hsR tx L p rt G (hsW tx L p)) rm2 rw2 row past pu pin rows kept)) (hF : ¬ hsOK tx L p G T → ∀ po rt, Q (some (.int 0)) (mw (nI H) (nI R) dy (nI S) (nI L) po (nI G) (nI T) (nI S8) (nI S2) kd th mc wn sd sp st tx rk rt rm2 rw2 row past pu pin rows kept)) : wp (0, 0, callok (d + 2)) (mcode 129) (qE 0 0 Q) 36 [some (.ref 0), some (.int (fgA tx L (p + 1))), some (.int (nI 0))] [] (mw (nI H) (nI R) dy (nI S) (nI L) (nI (p + 3)) (nI G) (nI T) (nI S8) (nI S2) kd th mc wn sd sp st tx rk rt rm2 rw2 row past pu pin rows kept) 0 0 := by
  have hw5 : hsW tx L p ≤ 5 := Nat.le_trans (ffR_le 5 0) (by omega)
  have en : wp (0, 0, callok (d + 2)) (mcode 129) (qE 0 0 Q) 91 [some (.ref 0), some (.int (fgA tx L (p + 1))), some (.int (nI (hsW tx L p)))] [] (mw (nI H) (nI R) dy (nI S) (nI L) (nI (p + 3 + hsW tx L p)) (nI G) (nI T) (nI S8) (nI S2) kd th mc wn sd sp st tx rk (hsR tx L p rt G (hsW tx L p)) rm2 rw2 row past pu pin rows kept) 0 0 := by
    have hk : hsOK tx L p G T ↔ (((¬ fgA tx L (p + 1) < 0 ∧ ¬ 3 < fgA tx L (p + 1)) ∧ ltA tx L (p + 2) = 44 ∧ ltA tx L (p + 3 + hsW tx L p) = 59) ∧ fitsN (hsW tx L p) G T) := Iff.rfl
    generalize hsW tx L p = w at hT hF hw5 hk ⊢
    have e1 : (2 ≤ w ∧ (G = 0 ∨ w = T)) → wp (0, 0, callok (d + 2)) (mcode 129) (qE 0 0 Q) 111 [some (.ref 0), some (.int (fgA tx L (p + 1))), some (.int (nI w))] [] (mw (nI H) (nI R) dy (nI S) (nI L) (nI (p + 3 + w)) (nI G) (nI T) (nI S8) (nI S2) kd th mc wn sd sp st tx rk (hsR tx L p rt G w) rm2 rw2 row past pu pin rows kept) 0 0 := by
      intro hf
      refine gs [] ?_
      refine Exists.intro [0, 1, 2, 3, 4, 5, 6, 7, 8, 9, 10, 11, 12, 13, 14, 15, 16, 17, 18] (Exists.intro [.ref 0, .int 59] (Exists.intro ((mw (nI H) (nI R) dy (nI S) (nI L) (nI (p + 3 + w)) (nI G) (nI T) (nI S8) (nI S2) kd th mc wn sd sp st tx rk (hsR tx L p rt G w) rm2 rw2 row past pu pin rows kept)) (Exists.intro 0 (Exists.intro 0 (And.intro ⟨rfl, rfl, Nat.le_of_ble_eq_true rfl, rfl, rfl, rfl, ⟨0, _, rfl, rfl⟩⟩ (And.intro (Nat.le_refl _) (And.intro (Nat.le_refl _) ?_)))))))
      refine m_sign hL (by omega) (fun c6 => ?_) (fun c6 => ?_)
      · rw [q_all rfl]
        refine br_f ((by decide)) ?_
        refine Exists.intro (G) (And.intro (rfl) (And.intro ⟨by omega, by omega⟩ ?_))
        have hq := hT (hk.mpr ⟨⟨c2, c3, (hr_lt (by decide) (by decide)).mp c6⟩, hG, hf⟩)
        rw [nI_succ G] at hq
        exact And.intro (Or.inr rfl) (fin0 (hq))
      · rw [q_all rfl]
        refine br_t ((rfl)) ?_
        exact And.intro (Or.inl rfl) (fin0 (hF (fun z => c6 ((hr_lt (by decide) (by decide)).mpr (hk.mp z).1.2.2)) _ _))
    refine gs [111] ?_
    refine br_c (fun k1 => ?_) (fun k1 => ?_)
    · have k1' : w < 2 := (nI_ltI (b := 2) (by omega) (by omega)).mp k1
      exact And.intro (Or.inl rfl) (fin0 (hF (fun z => absurd (hk.mp z).2.2.1 (by omega)) _ _))
    · have k1' : ¬ w < 2 := fun z => k1 (nI_lt (b := 2) z (by omega))
      refine br_c (fun k2 => ?_) (fun k2 => ?_)
      · have k2' : 0 < G := (nI_ltI (a := 0) (by omega) (by omega)).mp k2
        refine br_c (fun k3 => ?_) (fun k3 => ?_)
        · have k3' := (nI_eq (by omega) (by omega)).mp k3
          exact e1 ⟨by omega, Or.inr k3'⟩
        · exact And.intro (Or.inl rfl) (fin0 (hF (fun z => (hk.mp z).2.2.2.elim (fun q => absurd q (by omega)) (fun q => k3 (by rw [q]))) _ _))
      · have k2' : ¬ 0 < G := fun z => k2 (nI_lt (a := 0) z (by omega))
        exact e1 ⟨by omega, Or.inl (by omega)⟩
  have key : ∀ f k, k + f = 5 → ffR tx L (p + 3) f k = hsW tx L p → wp (0, 0, callok (d + 2)) (mcode 129) (qE 0 0 Q) 36 [some (.ref 0), some (.int (fgA tx L (p + 1))), some (.int (nI k))] [] (mw (nI H) (nI R) dy (nI S) (nI L) (nI (p + 3 + k)) (nI G) (nI T) (nI S8) (nI S2) kd th mc wn sd sp st tx rk (hsR tx L p rt G k) rm2 rw2 row past pu pin rows kept) 0 0 := by
    intro f
    induction f with
    | zero =>
      intro k hk e
      rw [ffR] at e
      rw [← e] at en
      refine gs [36, 91] ?_
      refine br_f ((show ¬ nI k < 5 from nI_nlt (b := 5) (by omega) (by omega))) ?_
      exact en
    | succ f ih =>
      intro k hk e
      rw [ffR] at e
      refine gs [36, 91] ?_
      refine br_t ((show nI k < 5 from nI_lt (b := 5) (by omega) (by omega))) ?_
      refine Exists.intro [0, 1, 2, 3, 4, 5, 6, 7, 8, 9, 10, 11, 12, 13, 14, 15, 16, 17, 18] (Exists.intro [.ref 0] (Exists.intro ((mw (nI H) (nI R) dy (nI S) (nI L) (nI (p + 3 + k)) (nI G) (nI T) (nI S8) (nI S2) kd th mc wn sd sp st tx rk (hsR tx L p rt G k) rm2 rw2 row past pu pin rows kept)) (Exists.intro 0 (Exists.intro 0 (And.intro ⟨rfl, rfl, Nat.le_of_ble_eq_true rfl, rfl, rfl, rfl, ⟨0, _, rfl, rfl⟩⟩ (And.intro (Nat.le_refl _) (And.intro (Nat.le_refl _) ?_)))))))
      refine m_here hL (by omega) ?_
      rw [q_all rfl]
      refine Exists.intro [] (Exists.intro [.int (hrA tx L (p + 3 + k)), .int 48, .int 57] (Exists.intro ([]) (Exists.intro 0 (Exists.intro 0 (And.intro ⟨rfl, rfl, Nat.le_of_ble_eq_true rfl, rfl, rfl, rfl, trivial⟩ (And.intro (Nat.le_refl _) (And.intro (Nat.le_refl _) ?_)))))))
      refine m_in (fun c c4 => ?_) (fun c => ?_)
      · rw [p_nil]
        refine br_f ((by decide)) ?_
        have ef := fg_hr (tx := tx) (L := L) (k := p + 3 + k) ⟨c, c4⟩
        have hn : ¬ fgA tx L (p + 3 + k) = -4 := by
          rw [ef]
          intro z
          have := (isF_in.mpr ⟨c, c4⟩).1
          rw [z] at this
          exact absurd (by decide) this
        rw [if_neg hn] at e
        refine Exists.intro [0, 1, 2, 3, 4, 5, 6, 7, 8, 9, 10, 11, 12, 13, 14, 15, 16, 17, 18] (Exists.intro [.ref 0] (Exists.intro ((mw (nI H) (nI R) dy (nI S) (nI L) (nI (p + 3 + k)) (nI G) (nI T) (nI S8) (nI S2) kd th mc wn sd sp st tx rk (hsR tx L p rt G k) rm2 rw2 row past pu pin rows kept)) (Exists.intro 0 (Exists.intro 0 (And.intro ⟨rfl, rfl, Nat.le_of_ble_eq_true rfl, rfl, rfl, rfl, ⟨0, _, rfl, rfl⟩⟩ (And.intro (Nat.le_refl _) (And.intro (Nat.le_refl _) ?_)))))))
        refine m_here hL (by omega) ?_
        rw [q_all rfl]
        refine Exists.intro (5 * G + k) (And.intro (j5 G k) (And.intro ⟨by omega, by omega⟩ ?_))
        have h9 := ih (k + 1) (by omega) e
        rw [hsR, nI_succ k, ← Nat.add_assoc, nI_succ (p + 3 + k), ef] at h9
        exact h9
      · rw [p_nil]
        refine br_t ((rfl)) ?_
        rw [if_pos (fg_no (fun z => c z))] at e
        rw [← e] at en
        exact en
  exact key 5 0 (by omega) rfl
theorem m_readsHouse (hL : L ≤ 200) (hp : p ≤ 200) (hG : G ≤ 6) (hR : T ≤ 5) (hT : hsOK tx L p G T → Q (some (.int 1)) (mw (nI H) (nI R) dy (nI S) (nI L) (nI (p + 3 + hsW tx L p + 1)) (nI (G + 1)) (nI (hsW tx L p)) (nI S8) (nI S2) kd th mc wn sd sp st tx (upd rk G (fgA tx L (p + 1))) (hsR tx L p rt G (hsW tx L p)) rm2 rw2 row past pu pin rows kept)) (hF : ¬ hsOK tx L p G T → ∀ po rt, Q (some (.int 0)) (mw (nI H) (nI R) dy (nI S) (nI L) po (nI G) (nI T) (nI S8) (nI S2) kd th mc wn sd sp st tx rk rt rm2 rw2 row past pu pin rows kept)) : callok (d + 3) 129 0 0 [.ref 0] (mw (nI H) (nI R) dy (nI S) (nI L) (nI (p + 1)) (nI G) (nI T) (nI S8) (nI S2) kd th mc wn sd sp st tx rk rt rm2 rw2 row past pu pin rows kept) Q := by
  refine beg rfl (gs [36] ?_)
  refine br_c (fun c0 => ?_) (fun c0 => ?_)
  · have c0' := (nI_eq (b := 6) (by omega) (by omega)).mp c0
    exact And.intro (Or.inl rfl) (fin0 (hF (fun z => absurd z.2.1 (by omega)) _ rt))
  · have c0' : ¬ G = 6 := fun z => c0 (by rw [z]; rfl)
    refine Exists.intro [0, 1, 2, 3, 4, 5, 6, 7, 8, 9, 10, 11, 12, 13, 14, 15, 16, 17, 18] (Exists.intro [.ref 0, .int 3] (Exists.intro ((mw (nI H) (nI R) dy (nI S) (nI L) (nI (p + 1)) (nI G) (nI T) (nI S8) (nI S2) kd th mc wn sd sp st tx rk rt rm2 rw2 row past pu pin rows kept)) (Exists.intro 0 (Exists.intro 0 (And.intro ⟨rfl, rfl, Nat.le_of_ble_eq_true rfl, rfl, rfl, rfl, ⟨0, _, rfl, rfl⟩⟩ (And.intro (Nat.le_refl _) (And.intro (Nat.le_refl _) ?_)))))))
    refine m_figure hL (by omega) (fun c => ?_) (fun c => ?_)
    · rw [q_all rfl]
      have c2 := (fg_in (by decide)).mp c
      rw [← fg_ne (by decide) c]
      refine br_f ((show ¬ fgA tx L (p + 1) = -4 from fun z => absurd (show fgA tx L (p + 1) < 0 by rw [z]; decide) c2.1)) ?_
      refine Exists.intro [0, 1, 2, 3, 4, 5, 6, 7, 8, 9, 10, 11, 12, 13, 14, 15, 16, 17, 18] (Exists.intro [.ref 0, .int 44] (Exists.intro ((mw (nI H) (nI R) dy (nI S) (nI L) (nI (p + 2)) (nI G) (nI T) (nI S8) (nI S2) kd th mc wn sd sp st tx rk rt rm2 rw2 row past pu pin rows kept)) (Exists.intro 0 (Exists.intro 0 (And.intro ⟨rfl, rfl, Nat.le_of_ble_eq_true rfl, rfl, rfl, rfl, ⟨0, _, rfl, rfl⟩⟩ (And.intro (Nat.le_refl _) (And.intro (Nat.le_refl _) ?_)))))))
      refine m_sign hL (by omega) (fun c3 => ?_) (fun c3 => ?_)
      · rw [q_all rfl]
        have c3' := (hr_lt (by decide) (by decide)).mp c3
        refine br_f ((by decide)) ?_
        exact m_readsHouse2 hL hp (by omega) hR c2 c3' hT hF
      · rw [q_all rfl]
        refine br_t ((rfl)) ?_
        exact And.intro (Or.inl rfl) (fin0 (hF (fun z => c3 ((hr_lt (by decide) (by decide)).mpr z.1.2.1)) _ _))
    · rw [q_all rfl]
      refine br_t ((rfl)) ?_
      exact And.intro (Or.inl rfl) (fin0 (hF (fun z => c ((fg_in (by decide)).mpr z.1.1)) _ _))
end MS
