/-! WHAT COUNTS: rows that are alike in the rooms that there are -/
def eqR (H R : Nat) (f g : Nat → Int32) : Prop := ∀ a, a < H → ∀ b, b < R → f (5 * a + b) = g (5 * a + b)
def bnd (H R : Nat) (f : Nat → Int32) : Prop := ∀ a, a < H → ∀ b, b < R → ∃ j, j < 10 ∧ f (5 * a + b) = nI j
theorem eqR.rf {H R : Nat} (f : Nat → Int32) : eqR H R f f := fun _ _ _ _ => rfl
theorem eqR.sy {H R : Nat} {f g : Nat → Int32} (h : eqR H R f g) : eqR H R g f := fun a ha b hb => (h a ha b hb).symm
theorem eqR.tr {H R : Nat} {f g k : Nat → Int32} (h : eqR H R f g) (h2 : eqR H R g k) : eqR H R f k := fun a ha b hb => (h a ha b hb).trans (h2 a ha b hb)
theorem bnd.eq {H R : Nat} {f g : Nat → Int32} (h : bnd H R f) (e : eqR H R f g) : bnd H R g := fun a ha b hb => by
  obtain ⟨j, hj, ej⟩ := h a ha b hb
  exact ⟨j, hj, (e a ha b hb).symm.trans ej⟩
theorem dv5 {a b R : Nat} (hR : R ≤ 5) (hb : b < R) : (5 * a + b) / 5 = a ∧ (5 * a + b) % 5 = b := ⟨by omega, by omega⟩
theorem rAf_lt {R b : Nat} (hb : b < R) : rAf R b < R := by
  unfold rAf
  split <;> omega
theorem nxT_c {kd kd' f g : Nat → Int32} {R a b : Nat} (hk : kd a = kd' a) (hb : b < R) (h1 : f (5 * a + b) = g (5 * a + b)) (h2 : ∀ r, r < R → f (5 * (a + 1) + r) = g (5 * (a + 1) + r)) : nxT kd f R a b = nxT kd' g R a b := by
  rw [nxT_cong hb h1 h2]
  unfold nxT
  rw [hk]
theorem dyN_at {kd f : Nat → Int32} {M R n a b : Nat} (hR : R ≤ 5) (hb : b < R) : dyN kd f M R n (5 * a + b) = if a < n ∧ ¬ M.testBit a = true then nxT kd f R a b else f (5 * a + b) := by
  unfold dyN
  rw [(dv5 hR hb).1, (dv5 hR hb).2]
  by_cases h : a < n ∧ ¬ M.testBit a = true
  · rw [if_pos h, if_pos ⟨⟨h.1, hb⟩, h.2⟩]
  · rw [if_neg h, if_neg (fun z => h ⟨z.1.1, z.2⟩)]
theorem eqR_day {kd kd' f g : Nat → Int32} {M H R : Nat} (hR : R ≤ 5) (hk : ∀ a, a < H → kd a = kd' a) (h : eqR H R f g) : eqR H R (dayT kd f M H R) (dayT kd' g M H R) := by
  intro a ha b hb
  rw [dayT, dayT, dyN_at hR hb, dyN_at hR hb]
  by_cases c : a < H - 1 ∧ ¬ M.testBit a = true
  · rw [if_pos c, if_pos c]
    exact nxT_c (hk a ha) hb (h a ha b hb) (fun r hr => h (a + 1) (by omega) r hr)
  · rw [if_neg c, if_neg c]
    exact h a ha b hb
theorem eqR_it {kd kd' : Nat → Int32} {M H R : Nat} (hR : R ≤ 5) (hk : ∀ a, a < H → kd a = kd' a) : ∀ (n : Nat) (f g : Nat → Int32), eqR H R f g → eqR H R (itT kd M H R n f) (itT kd' M H R n g)
  | 0, f, g, h => h
  | n + 1, f, g, h => eqR_it hR hk n _ _ (eqR_day hR hk h)
theorem eqR_upd {f g : Nat → Int32} {H R j : Nat} {v : Int32} (h : eqR H R f g) : eqR H R (upd f j v) (upd g j v) := by
  intro a ha b hb
  by_cases e : 5 * a + b = j
  · rw [e, up_s, up_s]
  · rw [up_n _ _ e, up_n _ _ e]
    exact h a ha b hb
theorem eqR_sh {f g : Nat → Int32} {H R c : Nat} (hR : R ≤ 5) (hc : c < H) (h : eqR H R f g) : eqR H R (shT f R c) (shT g R c) := by
  intro a ha b hb
  unfold shT
  by_cases q : 5 * c ≤ 5 * a + b ∧ 5 * a + b < 5 * c + R
  · rw [if_pos q, if_pos q]
    by_cases z : 5 * a + b = 5 * c
    · rw [if_pos z, if_pos z]
      exact h c hc (R - 1) (by omega)
    · rw [if_neg z, if_neg z]
      have e : 5 * a + b - 1 = 5 * a + (b - 1) := by omega
      rw [e]
      exact h a ha (b - 1) (by omega)
  · rw [if_neg q, if_neg q]
    exact h a ha b hb
theorem plA_at {v : Int32} {f : Nat → Int32} {c : Nat} : ∀ (k j : Nat), plA v f c k j = if 5 * c ≤ j ∧ j < 5 * c + k then v else f j
  | 0, j => by rw [plA, if_neg (by omega)]
  | k + 1, j => by
    rw [plA]
    by_cases e : j = 5 * c + k
    · rw [e, up_s, if_pos (by omega)]
    · rw [up_n _ _ e, plA_at k j]
      by_cases q : 5 * c ≤ j ∧ j < 5 * c + k
      · rw [if_pos q, if_pos (by omega)]
      · rw [if_neg q, if_neg (by omega)]
theorem metN_c {wi f g : Nat → Int32} : ∀ {R : Nat}, (∀ b, b < R → f b = g b) → metN wi f R = metN wi g R
  | 0, _ => rfl
  | R + 1, h => by
    rw [metN, metN, metN_c (fun b hb => h b (by omega)), h R (by omega)]
theorem eqR.top {H R : Nat} {f g : Nat → Int32} (h0 : 0 < H) (h : eqR H R f g) : ∀ b, b < R → f b = g b := fun b hb => by
  have := h 0 h0 b hb
  rwa [Nat.mul_zero, Nat.zero_add] at this
theorem fix_iff {kd f : Nat → Int32} {M H R : Nat} (hR : R ≤ 5) : dayT kd f M H R = f ↔ eqR H R (dayT kd f M H R) f := by
  constructor
  · intro h a ha b hb
    rw [h]
  · intro h
    funext j
    by_cases c : (j / 5 < H - 1 ∧ j % 5 < R) ∧ ¬ M.testBit (j / 5) = true
    · have := h (j / 5) (by omega) (j % 5) c.1.2
      rwa [Nat.div_add_mod] at this
    · unfold dayT dyN
      rw [if_neg c]
theorem fix_c {kd kd' f g : Nat → Int32} {M H R : Nat} (hR : R ≤ 5) (hk : ∀ a, a < H → kd a = kd' a) (h : eqR H R f g) : dayT kd f M H R = f ↔ dayT kd' g M H R = g := by
  rw [fix_iff hR, fix_iff hR]
  have e := eqR_day (M := M) hR hk h
  exact ⟨fun z => (e.sy.tr z).tr h, fun z => (e.tr z).tr h.sy⟩
theorem fdG_c {kd kd' : Nat → Int32} {M H R b : Nat} {v : Int32} (hR : R ≤ 5) (h0 : 0 < H) (hb : b < R) (hk : ∀ a, a < H → kd a = kd' a) : ∀ (k n : Nat) (f g : Nat → Int32), eqR H R f g → fdG kd M H R b v k n f = fdG kd' M H R b v k n g
  | 0, _, _, _, _ => rfl
  | k + 1, n, f, g, h => by
    rw [fdG, fdG, h.top h0 b hb, fdG_c hR h0 hb hk k (n + 1) _ _ (eqR_day hR hk h)]
theorem fqG_c {kd kd' : Nat → Int32} {M H R : Nat} (hR : R ≤ 5) (hk : ∀ a, a < H → kd a = kd' a) : ∀ (k n : Nat) (f g : Nat → Int32), eqR H R f g → fqG kd M H R k n f = fqG kd' M H R k n g
  | 0, _, _, _, _ => rfl
  | k + 1, n, f, g, h => by
    rw [fqG, fqG, fqG_c hR hk k (n + 1) _ _ (eqR_day hR hk h)]
    have e := fix_c (M := M) hR hk h
    by_cases c : dayT kd f M H R = f
    · rw [if_pos c, if_pos (e.mp c)]
    · rw [if_neg c, if_neg (fun z => c (e.mpr z))]
/-! bounds -/
theorem near_b {i j : Nat} (hi : i < 10) (hj : j < 10) : ∃ k, k < 10 ∧ near (nI i) (nI j) = nI k := by
  unfold near
  by_cases e : nI i = nI j
  · rw [if_pos e]
    exact ⟨i, hi, rfl⟩
  · rw [if_neg e]
    have ne : i ≠ j := fun z => e (by rw [z])
    by_cases l : nI i < nI j
    · rw [if_pos l]
      have := (nI_ltI (by omega) (by omega)).mp l
      exact ⟨i + 1, by omega, (nI_succ i).symm⟩
    · rw [if_neg l]
      have : ¬ i < j := fun z => l (nI_lt z (by omega))
      exact ⟨i - 1, by omega, nI_m1 (by omega)⟩
theorem bnd_day {kd f : Nat → Int32} {M H R : Nat} (hR : R ≤ 5) (h : bnd H R f) : bnd H R (dayT kd f M H R) := by
  intro a ha b hb
  rw [dayT, dyN_at hR hb]
  by_cases c : a < H - 1 ∧ ¬ M.testBit a = true
  · rw [if_pos c]
    have hin : ∀ r, r < R → ∃ j, j < 10 ∧ f (5 * (a + 1) + r) = nI j := fun r hr => h (a + 1) (by omega) r hr
    obtain ⟨j, hj, ej⟩ := hin (if kd a = 3 then rAf R b else b) (by split; exact rAf_lt hb; exact hb)
    obtain ⟨i, hi, ei⟩ := h a ha b hb
    unfold nxT
    by_cases k2 : kd a = 2
    · rw [if_pos k2, ej]
      exact ⟨9 - j, by omega, by rw [show (9 : Int32) = nI 9 from rfl, pk_sub (by omega)]⟩
    · rw [if_neg k2]
      by_cases k1 : kd a = 1
      · rw [if_pos k1, ei, ej]
        exact near_b hi hj
      · rw [if_neg k1, ej]
        exact ⟨j, hj, rfl⟩
  · rw [if_neg c]
    exact h a ha b hb
theorem bnd_it {kd : Nat → Int32} {M H R : Nat} (hR : R ≤ 5) : ∀ (n : Nat) (f : Nat → Int32), bnd H R f → bnd H R (itT kd M H R n f)
  | 0, _, h => h
  | n + 1, _, h => bnd_it hR n _ (bnd_day hR h)
theorem bnd_upd {f : Nat → Int32} {H R j z : Nat} (hz : z < 10) (h : bnd H R f) : bnd H R (upd f j (nI z)) := by
  intro a ha b hb
  by_cases e : 5 * a + b = j
  · rw [e, up_s]
    exact ⟨z, hz, rfl⟩
  · rw [up_n _ _ e]
    exact h a ha b hb
theorem bnd_sh {f : Nat → Int32} {H R c : Nat} (hR : R ≤ 5) (hc : c < H) (h : bnd H R f) : bnd H R (shT f R c) := by
  intro a ha b hb
  unfold shT
  by_cases q : 5 * c ≤ 5 * a + b ∧ 5 * a + b < 5 * c + R
  · rw [if_pos q]
    by_cases z : 5 * a + b = 5 * c
    · rw [if_pos z]
      exact h c hc (R - 1) (by omega)
    · rw [if_neg z]
      have e : 5 * a + b - 1 = 5 * a + (b - 1) := by omega
      rw [e]
      exact h a ha (b - 1) (by omega)
  · rw [if_neg q]
    exact h a ha b hb
theorem bnd_pl {f : Nat → Int32} {H R c z : Nat} (hz : z < 10) (h : bnd H R f) : bnd H R (plA (nI z) f c R) := by
  intro a ha b hb
  rw [plA_at]
  split
  · exact ⟨z, hz, rfl⟩
  · exact h a ha b hb
theorem bnd_ac {H R dr : Nat} {s : (Nat → Int32) × Nat} (hR : R ≤ 5) (h0 : 0 < H) (h : bnd H R s.1) : bnd H R (acS H R dr s).1 := by
  unfold acS
  split
  · exact bnd_upd (by omega) h
  · split
    · exact bnd_sh hR (Nat.mod_lt _ h0) h
    · split
      · exact h
      · exact h
theorem bnd_cy {kd : Nat → Int32} {H R Z : Nat} {s : (Nat → Int32) × Nat} (hR : R ≤ 5) (h0 : 0 < H) (h : bnd H R s.1) : ∀ k, bnd H R (cyS kd H R Z s k).1
  | 0 => h
  | k + 1 => bnd_day hR (bnd_ac hR h0 (bnd_cy hR h0 h k))
theorem bnd.top {H R : Nat} {f : Nat → Int32} (h0 : 0 < H) (h : bnd H R f) : ∀ b, b < R → ∃ j, j < 10 ∧ f b = nI j := fun b hb => by
  have := h 0 h0 b hb
  rwa [Nat.mul_zero, Nat.zero_add] at this
/-- what is wanted, on both sides -/
def wok (R : Nat) (wi wn : Nat → Int32) : Prop := ∀ k, k < R → (∃ j, j ≤ 10 ∧ wi k = nI j) ∧ wn k = wnf (wi k)
theorem hw_of {H R : Nat} {wi wn f : Nat → Int32} (h0 : 0 < H) (hw : wok R wi wn) (hb : bnd H R f) : ∀ k, k < R → ((¬ wn k = -4 ∧ f k = wn k) ↔ wi k = f k) := by
  intro k hk
  obtain ⟨⟨j, hj, ej⟩, e⟩ := hw k hk
  obtain ⟨i, hi, ei⟩ := hb.top h0 k hk
  rw [e, ej, ei]
  unfold wnf
  by_cases c : nI j = 10
  · rw [if_pos c]
    have cj : j = 10 := (nI_eq (b := 10) (by omega) (by omega)).mp c
    constructor
    · intro z
      exact absurd rfl z.1
    · intro z
      have := (nI_eq (by omega) (by omega)).mp z
      omega
  · rw [if_neg c]
    constructor
    · intro z
      exact z.2.symm
    · intro z
      refine ⟨fun q => ?_, z.symm⟩
      exact absurd (show nI j < 0 by rw [q]; decide) (nI_pos (by omega))
/-! a century, on both sides -/
theorem eqR_cy {kd kd' : Nat → Int32} {H R Z M : Nat} {f g : Nat → Int32} (hR : R ≤ 5) (h0 : 0 < H) (hk : ∀ a, a < H → kd a = kd' a) (h : eqR H R f g) : ∀ k, eqR H R (cyS kd H R Z (f, M) k).1 (cyS kd' H R Z (g, M) k).1 ∧ (cyS kd H R Z (f, M) k).2 = (cyS kd' H R Z (g, M) k).2
  | 0 => ⟨h, rfl⟩
  | k + 1 => by
    obtain ⟨h1, h2⟩ := eqR_cy hR h0 hk h k (Z := Z) (M := M)
    have key : eqR H R (acS H R (drN Z k) (cyS kd H R Z (f, M) k)).1 (acS H R (drN Z k) (cyS kd' H R Z (g, M) k)).1 ∧ (acS H R (drN Z k) (cyS kd H R Z (f, M) k)).2 = (acS H R (drN Z k) (cyS kd' H R Z (g, M) k)).2 := by
      unfold acS
      split
      · exact ⟨eqR_upd h1, h2⟩
      · split
        · exact ⟨eqR_sh hR (Nat.mod_lt _ h0) h1, h2⟩
        · split
          · exact ⟨h1, by rw [h2]⟩
          · exact ⟨h1, h2⟩
    rw [cyS, cyS]
    refine ⟨?_, key.2⟩
    show eqR H R (dayT kd _ _ H R) (dayT kd' _ _ H R)
    rw [key.2]
    exact eqR_day hR hk key.1
