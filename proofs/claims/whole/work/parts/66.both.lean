/-! BOTH SIDES TOGETHER: what holds between the class's cells and the reference's -/
def NR (H R M : Nat) (kd th wi kd' th' mc wn : Nat → Int32) : Prop := (∀ a, a < H → kd a = kd' a) ∧ eqR H R th th' ∧ bnd H R th ∧ (∀ a, a < H → mc a = nI (if M.testBit a = true then 1 else 0)) ∧ wok R wi wn ∧ M < 2 ^ H
def EN (H R : Nat) (kd' : Nat → Int32) (N : NV) (f : Nat → Int32) (k : Nat) : Prop := ∃ (kd th wi : Nat → Int32) (M : Nat) (dy : Int32), N = (kd, th, wi, nI H, nI R, nI M, dy) ∧ f k = dy ∧ NR H R M kd th wi kd' (fun i => f (k + 1 + i)) (fun i => f (k + 31 + i)) (fun i => f (k + 37 + i))
def PI (n H R : Nat) (kd' : Nat → Int32) (S : Nat) (p : Nat → Nat) (P : Nat → NV) (f : Nat → Int32) : Prop := S ≤ n ∧ (∀ i, i < n → p i < n) ∧ (∀ i, i < n → ∀ j, j < n → p i = p j → i = j) ∧ ∀ i, i < S → EN H R kd' (P (p i)) f (42 * i)
def CC (tx tx' : Nat → Int32) (H R M L S S8 S2 : Nat) (kd th wi kd' th' mc wn : Nat → Int32) (p8 : Nat → Nat) (P8 : Nat → NV) (past : Nat → Int32) (p2 : Nat → Nat) (P2 : Nat → NV) (kept : Nat → Int32) (sd sh sr : Nat → Nat) : Prop := (2 ≤ H ∧ H ≤ 6 ∧ 2 ≤ R ∧ R ≤ 5) ∧ (L ≤ 200 ∧ ∀ k, k < L → tx k = tx' k) ∧ NR H R M kd th wi kd' th' mc wn ∧ PI 8 H R kd' S8 p8 P8 past ∧ PI 2 H R kd' S2 p2 P2 kept ∧ S ≤ 6 ∧ (∀ i, sd i ≤ 20) ∧ ∀ i, i < S → sh i < H ∧ sr i < R
def RW (h hm : List aC) : Prop := ∃ (tx tx' kd th wi kd' th' mc wn rk rt rm2 rw2 row past pu pin rows kept ths mby vby : Nat → Int32) (H R M L S S8 S2 : Nat) (dy po rh rr : Int32) (T1 T3 T0 : NV) (p8 p2 sd sh sr : Nat → Nat) (P8 P2 : Nat → NV), h = (xw tx (nI L) (kd, th, wi, nI H, nI R, nI M, dy) T1 (gP 13 8 p8) (nI S8) P8 (gP 47 2 p2) (nI S2) P2 (fun i => nI (sd i)) (fun i => nI (sh i)) (fun i => nI (sr i)) ths (nI S) T3 mby vby T0) ∧ hm = (mw (nI H) (nI R) dy (nI S) (nI L) po rh rr (nI S8) (nI S2) kd' th' mc wn (fun i => nI (sd i)) (fun i => nI (5 * sh i + sr i)) ths tx' rk rt rm2 rw2 row past pu pin rows kept) ∧ (CC tx tx' H R M L S S8 S2 kd th wi kd' th' mc wn p8 P8 past p2 P2 kept sd sh sr)
theorem rw_mk {tx tx' kd th wi kd' th' mc wn rk rt rm2 rw2 row past pu pin rows kept ths mby vby : Nat → Int32} {H R M L S S8 S2 : Nat} {dy po rh rr : Int32} {T1 T3 T0 : NV} {p8 p2 sd sh sr : Nat → Nat} {P8 P2 : Nat → NV} (cc : (CC tx tx' H R M L S S8 S2 kd th wi kd' th' mc wn p8 P8 past p2 P2 kept sd sh sr)) : RW (xw tx (nI L) (kd, th, wi, nI H, nI R, nI M, dy) T1 (gP 13 8 p8) (nI S8) P8 (gP 47 2 p2) (nI S2) P2 (fun i => nI (sd i)) (fun i => nI (sh i)) (fun i => nI (sr i)) ths (nI S) T3 mby vby T0) (mw (nI H) (nI R) dy (nI S) (nI L) po rh rr (nI S8) (nI S2) kd' th' mc wn (fun i => nI (sd i)) (fun i => nI (5 * sh i + sr i)) ths tx' rk rt rm2 rw2 row past pu pin rows kept) := ⟨_, _, _, _, _, _, _, _, _, _, _, _, _, _, _, _, _, _, _, _, _, _, _, _, _, _, _, _, _, _, _, _, _, _, _, _, _, _, _, _, _, _, _, rfl, rfl, cc⟩
def XC (h : List aC) : Prop := h.length = 72 ∧ h.map (rc (rho [0, 1, 2, 3, 4, 5, 6, 7, 8, 9, 10, 11, 12, 13, 14, 15, 16, 17, 18, 19, 20, 21, 22, 23, 24, 25, 26, 27, 28, 29, 30, 31, 32, 33, 34, 35, 36, 37, 38, 39, 40, 41, 42, 43, 44, 45, 46, 47, 48, 49, 50, 51, 52, 53, 54, 55, 56, 57, 58, 59, 60, 61, 62, 63, 64, 65, 66, 67, 68, 69, 70, 71] 91)) = h
theorem rho_L8 : ∀ j, j < 8 → rho [0, 1, 2, 3, 4, 5, 6, 7, 8, 9, 10, 11, 12, 13, 14, 15, 16, 17, 18, 19, 20, 21, 22, 23, 24, 25, 26, 27, 28, 29, 30, 31, 32, 33, 34, 35, 36, 37, 38, 39, 40, 41, 42, 43, 44, 45, 46, 47, 48, 49, 50, 51, 52, 53, 54, 55, 56, 57, 58, 59, 60, 61, 62, 63, 64, 65, 66, 67, 68, 69, 70, 71] 91 (13 + 4 * j) = 13 + 4 * j := by decide
theorem rho_L2 : ∀ j, j < 2 → rho [0, 1, 2, 3, 4, 5, 6, 7, 8, 9, 10, 11, 12, 13, 14, 15, 16, 17, 18, 19, 20, 21, 22, 23, 24, 25, 26, 27, 28, 29, 30, 31, 32, 33, 34, 35, 36, 37, 38, 39, 40, 41, 42, 43, 44, 45, 46, 47, 48, 49, 50, 51, 52, 53, 54, 55, 56, 57, 58, 59, 60, 61, 62, 63, 64, 65, 66, 67, 68, 69, 70, 71] 91 (47 + 4 * j) = 47 + 4 * j := by decide
theorem xc_mk {tx dys hos rms ths mby vby : Nat → Int32} {len z8 z2 sz : Int32} {N T1 T3 T0 : NV} {p8 p2 : Nat → Nat} {P8 P2 : Nat → NV} (h8 : ∀ i, i < 8 → p8 i < 8) (h2 : ∀ i, i < 2 → p2 i < 2) : XC (xw tx len N T1 (gP 13 8 p8) z8 P8 (gP 47 2 p2) z2 P2 dys hos rms ths sz T3 mby vby T0) := by
  refine ⟨rfl, ?_⟩
  have e8 : gM [0, 1, 2, 3, 4, 5, 6, 7, 8, 9, 10, 11, 12, 13, 14, 15, 16, 17, 18, 19, 20, 21, 22, 23, 24, 25, 26, 27, 28, 29, 30, 31, 32, 33, 34, 35, 36, 37, 38, 39, 40, 41, 42, 43, 44, 45, 46, 47, 48, 49, 50, 51, 52, 53, 54, 55, 56, 57, 58, 59, 60, 61, 62, 63, 64, 65, 66, 67, 68, 69, 70, 71] 91 (gP 13 8 p8) = gP 13 8 p8 := gP_map rho_L8 h8
  have e2 : gM [0, 1, 2, 3, 4, 5, 6, 7, 8, 9, 10, 11, 12, 13, 14, 15, 16, 17, 18, 19, 20, 21, 22, 23, 24, 25, 26, 27, 28, 29, 30, 31, 32, 33, 34, 35, 36, 37, 38, 39, 40, 41, 42, 43, 44, 45, 46, 47, 48, 49, 50, 51, 52, 53, 54, 55, 56, 57, 58, 59, 60, 61, 62, 63, 64, 65, 66, 67, 68, 69, 70, 71] 91 (gP 47 2 p2) = gP 47 2 p2 := gP_map rho_L2 h2
  show (xw tx len N T1 (gM [0, 1, 2, 3, 4, 5, 6, 7, 8, 9, 10, 11, 12, 13, 14, 15, 16, 17, 18, 19, 20, 21, 22, 23, 24, 25, 26, 27, 28, 29, 30, 31, 32, 33, 34, 35, 36, 37, 38, 39, 40, 41, 42, 43, 44, 45, 46, 47, 48, 49, 50, 51, 52, 53, 54, 55, 56, 57, 58, 59, 60, 61, 62, 63, 64, 65, 66, 67, 68, 69, 70, 71] 91 (gP 13 8 p8)) z8 P8 (gM [0, 1, 2, 3, 4, 5, 6, 7, 8, 9, 10, 11, 12, 13, 14, 15, 16, 17, 18, 19, 20, 21, 22, 23, 24, 25, 26, 27, 28, 29, 30, 31, 32, 33, 34, 35, 36, 37, 38, 39, 40, 41, 42, 43, 44, 45, 46, 47, 48, 49, 50, 51, 52, 53, 54, 55, 56, 57, 58, 59, 60, 61, 62, 63, 64, 65, 66, 67, 68, 69, 70, 71] 91 (gP 47 2 p2)) z2 P2 dys hos rms ths sz T3 mby vby T0) = _
  rw [e8, e2]
theorem RW.xc {h hm : List aC} (r : RW h hm) : XC h := by
  obtain ⟨_, _, _, _, _, _, _, _, _, _, _, _, _, _, _, _, _, _, _, _, _, _, _, _, _, _, _, _, _, _, _, _, _, _, _, _, _, _, _, _, _, _, _, rfl, -, cc⟩ := r
  exact xc_mk cc.2.2.2.1.2.1 cc.2.2.2.2.1.2.1
/-- the reference's cells as they lie behind the class's -/
theorem RW.ym {h hm : List aC} (r : RW h hm) : hm.length = 19 ∧ hm.map (rc (rho [72, 73, 74, 75, 76, 77, 78, 79, 80, 81, 82, 83, 84, 85, 86, 87, 88, 89, 90] 91)) = shW 72 hm := by
  obtain ⟨_, _, _, _, _, _, _, _, _, _, _, _, _, _, _, _, _, _, _, _, _, _, _, _, _, _, _, _, _, _, _, _, _, _, _, _, _, _, _, _, _, _, _, -, rfl, cc⟩ := r
  exact ⟨rfl, rfl⟩
def SG (h hm : List aC) (yx ym : Nat) (av : List Value) : Prop := callok 8 yx 0 0 (.ref 0 :: av) h (fun v h' => ∃ z, v = some (.int z) ∧ XC h' ∧ callok 8 ym 0 0 (.ref 0 :: av) hm (fun v' hm' => v' = some (.int z) ∧ RW h' hm'))
/-! piles -/
theorem NR.c {H R M : Nat} {kd th wi kd' th' mc wn th2 mc2 wn2 : Nat → Int32} (hH : H ≤ 6) (hR : R ≤ 5) (h : NR H R M kd th wi kd' th' mc wn) (e1 : ∀ j, j < 30 → th2 j = th' j) (e2 : ∀ j, j < 6 → mc2 j = mc j) (e3 : ∀ j, j < 5 → wn2 j = wn j) : NR H R M kd th wi kd' th2 mc2 wn2 := by
  obtain ⟨a1, a2, a3, a4, a5, a6⟩ := h
  exact ⟨a1, fun a ha b hb => by rw [e1 _ (by omega)]; exact a2 a ha b hb, a3, fun a ha => by rw [e2 a (by omega)]; exact a4 a ha, fun k hk => ⟨(a5 k hk).1, by rw [e3 k (by omega)]; exact (a5 k hk).2⟩, a6⟩
theorem EN.c {H R : Nat} {kd' f g : Nat → Int32} {N : NV} {k j : Nat} (hH : H ≤ 6) (hR : R ≤ 5) (h : EN H R kd' N f k) (e : ∀ i, i < 42 → g (j + i) = f (k + i)) : EN H R kd' N g j := by
  obtain ⟨kd, th, wi, M, dy, e1, e2, e3⟩ := h
  refine ⟨kd, th, wi, M, dy, e1, by have := e 0 (by omega); rw [Nat.add_zero, Nat.add_zero] at this; rw [this]; exact e2, e3.c hH hR (fun i hi => ?_) (fun i hi => ?_) (fun i hi => ?_)⟩
  · have := e (1 + i) (by omega)
    rw [← Nat.add_assoc, ← Nat.add_assoc] at this
    exact this
  · have := e (31 + i) (by omega)
    rw [← Nat.add_assoc, ← Nat.add_assoc] at this
    exact this
  · have := e (37 + i) (by omega)
    rw [← Nat.add_assoc, ← Nat.add_assoc] at this
    exact this
theorem en_ly {H R M k : Nat} {kd th wi kd' th' mc wn f : Nat → Int32} {dy : Int32} (hH : H ≤ 6) (hR : R ≤ 5) (h : NR H R M kd th wi kd' th' mc wn) : EN H R kd' (kd, th, wi, nI H, nI R, nI M, dy) (lyF f k dy th' mc wn) k := ⟨kd, th, wi, M, dy, rfl, ly_d, h.c hH hR (fun j hj => ly_t hj) (fun j hj => ly_m hj) (fun j hj => ly_w hj)⟩
theorem pi_keep {n H R M S : Nat} {kd th wi kd' th' mc wn f : Nat → Int32} {dy : Int32} {p : Nat → Nat} {P : Nat → NV} (hH : H ≤ 6) (hR : R ≤ 5) (h : PI n H R kd' S p P f) (hS : S < n) (hn : NR H R M kd th wi kd' th' mc wn) : PI n H R kd' (S + 1) p (updN P (p S) (kd, th, wi, nI H, nI R, nI M, dy)) (lyF f (42 * S) dy th' mc wn) := by
  obtain ⟨h1, h2, h3, h4⟩ := h
  refine ⟨hS, h2, h3, fun i hi => ?_⟩
  by_cases e : i = S
  · subst e
    rw [show updN P (p i) (kd, th, wi, nI H, nI R, nI M, dy) (p i) = (kd, th, wi, nI H, nI R, nI M, dy) from if_pos rfl]
    exact en_ly hH hR hn
  · have ne : p i ≠ p S := fun z => e (h3 i (by omega) S hS z)
    rw [show updN P (p S) (kd, th, wi, nI H, nI R, nI M, dy) (p i) = P (p i) from if_neg ne]
    refine (h4 i (by omega)).c hH hR (fun j hj => ly_o ?_)
    omega
theorem rot_inj {n : Nat} {p : Nat → Nat} (hp : ∀ i, i < n → ∀ j, j < n → p i = p j → i = j) : ∀ i, i < n → ∀ j, j < n → rot n p i = rot n p j → i = j := by
  intro i hi j hj e
  unfold rot at e
  by_cases ci : i + 1 < n
  · rw [if_pos ci] at e
    by_cases cj : j + 1 < n
    · rw [if_pos cj] at e
      have := hp _ ci _ cj e
      omega
    · rw [if_neg cj] at e
      have := hp _ ci 0 (by omega) e
      omega
  · rw [if_neg ci] at e
    by_cases cj : j + 1 < n
    · rw [if_pos cj] at e
      have := hp 0 (by omega) _ cj e
      omega
    · omega
theorem pi_push {H R M S : Nat} {kd th wi kd' th' mc wn f : Nat → Int32} {dy : Int32} {p : Nat → Nat} {P : Nat → NV} (hH : H ≤ 6) (hR : R ≤ 5) (h : PI 8 H R kd' S p P f) (hn : NR H R M kd th wi kd' th' mc wn) : PI 8 H R kd' (ps 8 S) (pm 8 S p) (updN P (pj 8 S p) (kd, th, wi, nI H, nI R, nI M, dy)) (ntF f S dy th' mc wn) := by
  by_cases c : S < 8
  · unfold ps pm pj ntF
    rw [if_pos c, if_pos c, if_pos c, if_pos c]
    exact pi_keep hH hR h c hn
  · obtain ⟨h1, h2, h3, h4⟩ := h
    have eS : S = 8 := by omega
    subst eS
    refine ⟨ps_le, pm_lt h2, ?_, fun i hi => ?_⟩
    · unfold pm
      rw [if_neg c]
      exact rot_inj h3
    · have hi8 : i < 8 := Nat.lt_of_lt_of_le hi ps_le
      unfold pm pj ntF
      rw [if_neg c, if_neg c, if_neg c]
      by_cases e : i = 7
      · subst e
        have e1 : rot 8 p 7 = p 0 := rfl
        rw [e1, show updN P (p 0) (kd, th, wi, nI H, nI R, nI M, dy) (p 0) = (kd, th, wi, nI H, nI R, nI M, dy) from if_pos rfl]
        exact en_ly hH hR hn
      · have e1 : rot 8 p i = p (i + 1) := if_pos (by omega)
        have ne : p (i + 1) ≠ p 0 := fun z => by
          have := h3 (i + 1) (by omega) 0 (by omega) z
          omega
        rw [e1, show updN P (p 0) (kd, th, wi, nI H, nI R, nI M, dy) (p (i + 1)) = P (p (i + 1)) from if_neg ne]
        refine (h4 (i + 1) (by omega)).c hH hR (fun j hj => ?_)
        rw [ly_o (by omega)]
        unfold shF
        rw [cp0 (by omega), show 42 * i + j + 42 = 42 * (i + 1) + j by omega]
theorem PI.less {n H R S : Nat} {kd' f : Nat → Int32} {p : Nat → Nat} {P : Nat → NV} (h : PI n H R kd' S p P f) {T : Nat} (hT : T ≤ S) : PI n H R kd' T p P f := ⟨Nat.le_trans hT h.1, h.2.1, h.2.2.1, fun i hi => h.2.2.2 i (by omega)⟩
theorem PI.none {n H R H' R' S : Nat} {kd' kd2 f g : Nat → Int32} {p : Nat → Nat} {P : Nat → NV} (h : PI n H R kd' S p P f) : PI n H' R' kd2 0 p P g := ⟨Nat.zero_le _, h.2.1, h.2.2.1, fun i hi => absurd hi (Nat.not_lt_zero i)⟩
/-! write, with its condition -/
section WR
variable {d : Nat} {Q : Option Value → List aC → Prop} {x y v w u : Int32} {tx tx' kd th wi kd' th' mc wn rk rt rm2 rw2 row past pu pin rows kept ths mby vby : Nat → Int32} {H R M L S S8 S2 : Nat} {dy po rh rr : Int32} {T1 T3 T0 : NV} {p8 p2 sd sh sr : Nat → Nat} {P8 P2 : Nat → NV}
theorem x_writeB (hB : ¬ (¬ x < 32 ∧ ¬ 126 < x)) (hQ : Q (some (.int (-1))) (xw tx (nI L) (kd, th, wi, nI H, nI R, nI M, dy) T1 (gP 13 8 p8) (nI S8) P8 (gP 47 2 p2) (nI S2) P2 (fun i => nI (sd i)) (fun i => nI (sh i)) (fun i => nI (sr i)) ths (nI S) T3 mby vby T0)) : callok (d + 2) 80 0 0 [.ref 0, .int x] (xw tx (nI L) (kd, th, wi, nI H, nI R, nI M, dy) T1 (gP 13 8 p8) (nI S8) P8 (gP 47 2 p2) (nI S2) P2 (fun i => nI (sd i)) (fun i => nI (sh i)) (fun i => nI (sr i)) ths (nI S) T3 mby vby T0) Q := by
  refine beg rfl (gs [] ?_)
  refine Exists.intro [] (Exists.intro [.int x, .int 32, .int 126] (Exists.intro ([]) (Exists.intro 0 (Exists.intro 0 (And.intro ⟨rfl, rfl, Nat.le_of_ble_eq_true rfl, rfl, rfl, rfl, trivial⟩ (And.intro (Nat.le_refl _) (And.intro (Nat.le_refl _) ?_)))))))
  refine t_within (fun c c2 => absurd ⟨c, c2⟩ hB) (fun c => ?_)
  rw [p_nil]
  refine br_t ((rfl)) ?_
  exact fin0 (hQ)
theorem y_writeB (hB : ¬ (¬ x < 32 ∧ ¬ 126 < x)) (hQ : Q (some (.int (-1))) (mw (nI H) (nI R) dy (nI S) (nI L) po rh rr (nI S8) (nI S2) kd' th' mc wn (fun i => nI (sd i)) (fun i => nI (5 * sh i + sr i)) ths tx' rk rt rm2 rw2 row past pu pin rows kept)) : callok (d + 2) 124 0 0 [.ref 0, .int x] (mw (nI H) (nI R) dy (nI S) (nI L) po rh rr (nI S8) (nI S2) kd' th' mc wn (fun i => nI (sd i)) (fun i => nI (5 * sh i + sr i)) ths tx' rk rt rm2 rw2 row past pu pin rows kept) Q := by
  refine beg rfl (gs [] ?_)
  refine Exists.intro [] (Exists.intro [.int x, .int 32, .int 126] (Exists.intro ([]) (Exists.intro 0 (Exists.intro 0 (And.intro ⟨rfl, rfl, Nat.le_of_ble_eq_true rfl, rfl, rfl, rfl, trivial⟩ (And.intro (Nat.le_refl _) (And.intro (Nat.le_refl _) ?_)))))))
  refine m_in (fun c c2 => absurd ⟨c, c2⟩ hB) (fun c => ?_)
  rw [p_nil]
  refine br_t ((rfl)) ?_
  exact fin0 (hQ)
end WR
