/-! ONE COLUMN: what one room of a house does alone -/
abbrev prd (R r : Nat) : Nat := if 0 < r then r - 1 else R - 1
theorem upA_top {kd : Nat → Int32} {R A : Nat} : ∀ (n r : Nat), upA kd R A (n + 1) r = if kd A = 3 then prd R (upA kd R (A + 1) n r) else upA kd R (A + 1) n r
  | 0, r => rfl
  | n + 1, r => by
    have ih := upA_top (kd := kd) (R := R) (A := A) n (if kd (A + (n + 1)) = 3 then (if 0 < r then r - 1 else R - 1) else r)
    have e1 : upA kd R A (n + 1 + 1) r = upA kd R A (n + 1) (if kd (A + (n + 1)) = 3 then (if 0 < r then r - 1 else R - 1) else r) := rfl
    have e2 : upA kd R (A + 1) (n + 1) r = upA kd R (A + 1) n (if kd (A + 1 + n) = 3 then (if 0 < r then r - 1 else R - 1) else r) := rfl
    rw [e1, e2, ih, show A + 1 + n = A + (n + 1) by omega]
theorem prd_rAf {R b u : Nat} (hb : b < R) (hu : u < R) : b = prd R u ↔ rAf R b = u := by
  unfold prd rAf
  split <;> split <;> omega
theorem nxT_p {kd f g : Nat → Int32} {R a b : Nat} (h1 : f (5 * a + b) = g (5 * a + b)) (h2 : f (5 * (a + 1) + if kd a = 3 then rAf R b else b) = g (5 * (a + 1) + if kd a = 3 then rAf R b else b)) : nxT kd f R a b = nxT kd g R a b := by
  unfold nxT
  rw [h1, h2]
def Col (kd : Nat → Int32) (H R h r : Nat) (T0 T1 T2 : Nat → Int32) : Prop := (∀ a, a ≤ h → ∀ b, b < R → T1 (5 * a + b) = if b = upA kd R a (h - a) r then T2 (5 * a + b) else T0 (5 * a + b)) ∧ ∀ a, h < a → a < H → ∀ b, b < R → T1 (5 * a + b) = T0 (5 * a + b) ∧ T2 (5 * a + b) = T0 (5 * a + b)
theorem col_day {kd T0 T1 T2 : Nat → Int32} {M H R h r : Nat} (hR : R ≤ 5) (hh : h < H) (hr : r < R) (c : Col kd H R h r T0 T1 T2) : Col kd H R h r (dayT kd T0 M H R) (dayT kd T1 M H R) (dayT kd T2 M H R) := by
  refine ⟨fun a ha b hb => ?_, fun a ha ha2 b hb => ?_⟩
  · rw [dayT, dayT, dayT, dyN_at hR hb, dyN_at hR hb, dyN_at hR hb]
    by_cases q : a < H - 1 ∧ ¬ M.testBit a = true
    · rw [if_pos q, if_pos q, if_pos q]
      have hb' : (if kd a = 3 then rAf R b else b) < R := by
        split
        · exact rAf_lt hb
        · exact hb
      have own := c.1 a ha b hb
      by_cases e : b = upA kd R a (h - a) r
      · rw [if_pos e] at own ⊢
        refine nxT_p own ?_
        by_cases e2 : a = h
        · have := c.2 (a + 1) (by omega) (by omega) _ hb'
          rw [this.1, this.2]
        · have hn : h - a = (h - (a + 1)) + 1 := by omega
          rw [hn, upA_top] at e
          have hu : upA kd R (a + 1) (h - (a + 1)) r < R := upA_lt _ _ hr
          have e3 : (if kd a = 3 then rAf R b else b) = upA kd R (a + 1) (h - (a + 1)) r := by
            by_cases k3 : kd a = 3
            · rw [if_pos k3] at e ⊢
              exact (prd_rAf hb hu).mp e
            · rw [if_neg k3] at e ⊢
              exact e
          have := c.1 (a + 1) (by omega) _ hb'
          rw [if_pos e3] at this
          exact this
      · rw [if_neg e] at own ⊢
        refine nxT_p own ?_
        by_cases e2 : a = h
        · have := c.2 (a + 1) (by omega) (by omega) _ hb'
          rw [this.1]
        · have hn : h - a = (h - (a + 1)) + 1 := by omega
          rw [hn, upA_top] at e
          have hu : upA kd R (a + 1) (h - (a + 1)) r < R := upA_lt _ _ hr
          have e3 : ¬ (if kd a = 3 then rAf R b else b) = upA kd R (a + 1) (h - (a + 1)) r := by
            intro z
            apply e
            by_cases k3 : kd a = 3
            · rw [if_pos k3] at z ⊢
              exact (prd_rAf hb hu).mpr z
            · rw [if_neg k3] at z ⊢
              exact z
          have := c.1 (a + 1) (by omega) _ hb'
          rw [if_neg e3] at this
          exact this
    · rw [if_neg q, if_neg q, if_neg q]
      exact c.1 a ha b hb
  · rw [dayT, dayT, dayT, dyN_at hR hb, dyN_at hR hb, dyN_at hR hb]
    have own := c.2 a ha ha2 b hb
    by_cases q : a < H - 1 ∧ ¬ M.testBit a = true
    · rw [if_pos q, if_pos q, if_pos q]
      exact ⟨nxT_c rfl hb own.1 (fun x hx => (c.2 (a + 1) (by omega) (by omega) x hx).1), nxT_c rfl hb own.2 (fun x hx => (c.2 (a + 1) (by omega) (by omega) x hx).2)⟩
    · rw [if_neg q, if_neg q, if_neg q]
      exact own
theorem col_it {kd : Nat → Int32} {M H R h r : Nat} (hR : R ≤ 5) (hh : h < H) (hr : r < R) : ∀ (n : Nat) (T0 T1 T2 : Nat → Int32), Col kd H R h r T0 T1 T2 → Col kd H R h r (itT kd M H R n T0) (itT kd M H R n T1) (itT kd M H R n T2)
  | 0, _, _, _, c => c
  | n + 1, _, _, _, c => col_it hR hh hr n _ _ _ (col_day hR hh hr c)
theorem col_0 {kd th : Nat → Int32} {H R h r : Nat} {v : Int32} (hR : R ≤ 5) (hr : r < R) : Col kd H R h r th (upd th (5 * h + r) v) (plA v th h R) := by
  refine ⟨fun a ha b hb => ?_, fun a ha ha2 b hb => ?_⟩
  · rw [plA_at]
    by_cases e : a = h
    · subst e
      rw [Nat.sub_self, upA]
      by_cases q : b = r
      · rw [if_pos q, q, up_s, if_pos (by omega)]
      · rw [if_neg q, up_n _ _ (by omega)]
    · rw [up_n _ _ (by omega), if_neg (show ¬ (5 * h ≤ 5 * a + b ∧ 5 * a + b < 5 * h + R) by omega), ite_self]
  · rw [plA_at, up_n _ _ (by omega), if_neg (by omega)]
    exact ⟨rfl, rfl⟩
/-- what stands in house a n days on, were v in one room of house h -/
theorem col_at {kd th : Nat → Int32} {M H R h r n a b : Nat} {v : Int32} (hR : R ≤ 5) (hh : h < H) (hr : r < R) (ha : a ≤ h) (hb : b < R) : itT kd M H R n (upd th (5 * h + r) v) (5 * a + b) = if b = upA kd R a (h - a) r then itT kd M H R n (plA v th h R) (5 * a + b) else itT kd M H R n th (5 * a + b) := (col_it hR hh hr n _ _ _ (col_0 hR hr)).1 a ha b hb
theorem metN_tb {wi f : Nat → Int32} : ∀ (R k : Nat), (metN wi f R).testBit k = decide (k < R ∧ wi k = f k)
  | 0, k => by simp [metN]
  | R + 1, k => by
    have hlt := metN_lt (wi := wi) (th := f) R
    have ih := metN_tb (wi := wi) (f := f) R k
    rw [metN]
    by_cases c : wi R = f R
    · rw [if_pos c, Nat.add_comm]
      rcases Nat.lt_trichotomy k R with h | h | h
      · rw [Nat.testBit_two_pow_add_gt h, ih]
        simp [h, Nat.lt_succ_of_lt h]
      · subst h
        rw [Nat.testBit_two_pow_add_eq, Nat.testBit_lt_two_pow hlt]
        simp [c]
      · have h2 : 2 ^ R + metN wi f R < 2 ^ k := by
          have : 2 ^ (R + 1) ≤ 2 ^ k := Nat.pow_le_pow_right (by omega) h
          rw [Nat.pow_succ] at this
          omega
        rw [Nat.testBit_lt_two_pow h2]
        simp
        intro z
        omega
    · rw [if_neg c, ih]
      by_cases h : k < R
      · simp [h, Nat.lt_succ_of_lt h]
      · by_cases h2 : k = R
        · subst h2
          simp [c]
        · have h3 : ¬ k < R + 1 := by omega
          simp [h, h3]
theorem mx_tb : ∀ t, t < 5 → ∀ k, k < 5 → ∀ met, met < 32 → ∀ mv, mv < 32 → (mxB met mv t).testBit k = if k = t then mv.testBit t else met.testBit k := by decide +kernel
theorem tb_eq : ∀ m, m < 32 → ∀ n, n < 32 → (∀ k, k < 5 → m.testBit k = n.testBit k) → m = n := by decide +kernel
theorem mx_lt {t met mv : Nat} (ht : t < 5) (h1 : met < 32) (h2 : mv < 32) : mxB met mv t < 32 := (bt_mix t ht met h1 mv h2).2
/-- what is met, were v in one room of house h -/
theorem met_one {kd th wi : Nat → Int32} {M H R h r n : Nat} {v : Int32} (hR : R ≤ 5) (hh : h < H) (hr : r < R) : metN wi (itT kd M H R n (upd th (5 * h + r) v)) R = mxB (metN wi (itT kd M H R n th) R) (metN wi (itT kd M H R n (plA v th h R)) R) (upA kd R 0 h r) := by
  have hu : upA kd R 0 h r < R := upA_lt _ _ hr
  have hs : ∀ b, b < R → itT kd M H R n (upd th (5 * h + r) v) b = if b = upA kd R 0 h r then itT kd M H R n (plA v th h R) b else itT kd M H R n th b := by
    intro b hb
    have := col_at (kd := kd) (th := th) (M := M) (n := n) (v := v) hR hh hr (Nat.zero_le h) hb
    rwa [Nat.mul_zero, Nat.zero_add, Nat.sub_zero] at this
  refine tb_eq _ (metN_32 hR) _ (mx_lt (by omega) (metN_32 hR) (metN_32 hR)) (fun k hk => ?_)
  rw [mx_tb _ (by omega) k hk _ (metN_32 hR) _ (metN_32 hR), metN_tb]
  by_cases hkR : k < R
  · rw [hs k hkR]
    by_cases e : k = upA kd R 0 h r
    · rw [if_pos e, if_pos e, ← e, metN_tb]
    · rw [if_neg e, if_neg e, metN_tb]
  · rw [if_neg (by omega), metN_tb]
    simp [hkR]
/-! one: both sides go through the same candidates -/
def foS {S : Type} (g : Nat → S → S) : Nat → Nat → S → S
  | 0, _, s => s
  | f + 1, i, s => foS g f (i + 1) (g i s)
theorem foS_add {S : Type} (g : Nat → S → S) : ∀ (a b i : Nat) (s : S), foS g (a + b) i s = foS g b (i + a) (foS g a i s)
  | 0, b, i, s => by rw [Nat.zero_add, Nat.add_zero, foS]
  | a + 1, b, i, s => by
    rw [show a + 1 + b = (a + b) + 1 by omega, foS, foS, foS_add g a b (i + 1)]
    rw [show i + 1 + a = i + (a + 1) by omega]
abbrev oJ (i : Nat) : Nat := 5 * (i / 100) + i / 10 % 10
abbrev oC (kd th wi : Nat → Int32) (M H R n i : Nat) : Nat := onC kd th wi M H R n (oJ i) (nI (i % 10))
def oS (kd th wi : Nat → Int32) (M H R n i : Nat) (s : Int32 × Int32) : Int32 × Int32 := if i / 10 % 10 < R then (if s.1 < nI (oC kd th wi M H R n i) ∧ ¬ nI (i % 10) = th (oJ i) then (nI (oC kd th wi M H R n i), nI i) else s) else s
theorem bpV_fo {kd th wi : Nat → Int32} {M H R n h r : Nat} (hR : R ≤ 5) (hh : h < H) (hr : r < R) : ∀ (f v : Nat) (s : Int32 × Int32), v + f ≤ 10 → bpV kd th R (metN wi (itT kd M H R n th) R) (tyM kd th wi M H R n h) h r f v s = foS (oS kd th wi M H R n) f (100 * h + 10 * r + v) s
  | 0, v, s, _ => rfl
  | f + 1, v, s, hv => by
    rw [bpV, foS, bpV_fo hR hh hr f (v + 1) _ (by omega)]
    have e1 : (100 * h + 10 * r + v) / 10 % 10 = r := by omega
    have e2 : (100 * h + 10 * r + v) / 100 = h := by omega
    have e3 : (100 * h + 10 * r + v) % 10 = v := by omega
    have e4 : oC kd th wi M H R n (100 * h + 10 * r + v) = pop 10 (mxB (metN wi (itT kd M H R n th) R) (tyM kd th wi M H R n h v) (upA kd R 0 h r)) := by
      show pop 10 (metN wi (itT kd M H R n (upd th (oJ (100 * h + 10 * r + v)) (nI ((100 * h + 10 * r + v) % 10)))) R) = _
      rw [oJ, e1, e2, e3, met_one hR hh hr]
    have e5 : oS kd th wi M H R n (100 * h + 10 * r + v) s = if s.1 < nI (pop 10 (mxB (metN wi (itT kd M H R n th) R) (tyM kd th wi M H R n h v) (upA kd R 0 h r))) ∧ ¬ nI v = th (5 * h + r) then (nI (pop 10 (mxB (metN wi (itT kd M H R n th) R) (tyM kd th wi M H R n h v) (upA kd R 0 h r))), nI (100 * h + 10 * r + v)) else s := by
      unfold oS
      rw [e4, oJ, e1, e2, e3, if_pos hr]
    rw [e5]
    rfl
theorem bpR_fo {kd th wi : Nat → Int32} {M H R n h : Nat} (hR : R ≤ 5) (hh : h < H) : ∀ (f r : Nat) (s : Int32 × Int32), r + f = R → bpR kd th R (metN wi (itT kd M H R n th) R) (tyM kd th wi M H R n h) h f r s = foS (oS kd th wi M H R n) (10 * f) (100 * h + 10 * r) s
  | 0, r, s, _ => rfl
  | f + 1, r, s, hr => by
    rw [bpR, bpR_fo hR hh f (r + 1) _ (by omega), bpV_fo hR hh (by omega) 10 0 s (by omega), show 10 * (f + 1) = 10 + 10 * f by omega, foS_add]
    rfl
theorem oS_skip {kd th wi : Nat → Int32} {M H R n : Nat} : ∀ (f i : Nat) (s : Int32 × Int32), (∀ j, i ≤ j → j < i + f → R ≤ j / 10 % 10) → foS (oS kd th wi M H R n) f i s = s
  | 0, _, _, _ => rfl
  | f + 1, i, s, h => by
    rw [foS]
    have e : oS kd th wi M H R n i s = s := by
      unfold oS
      rw [if_neg (by have := h i (Nat.le_refl _) (by omega); omega)]
    rw [e]
    exact oS_skip f (i + 1) s (fun j h1 h2 => h j (by omega) (by omega))
theorem bpH_fo {kd th wi : Nat → Int32} {M H R n : Nat} (hR : R ≤ 5) : ∀ (f h : Nat) (s : Int32 × Int32), h + f = H → bpH kd th wi M H R n f h s = foS (oS kd th wi M H R n) (100 * f) (100 * h) s
  | 0, h, s, _ => rfl
  | f + 1, h, s, hh => by
    rw [bpH, bpH_fo hR f (h + 1) _ (by omega), bpR_fo hR (by omega) R 0 s (by omega), show 100 * (f + 1) = (10 * R + (100 - 10 * R)) + 100 * f by omega, foS_add, foS_add, oS_skip (100 - 10 * R)]
    · rw [show 100 * h + (10 * R + (100 - 10 * R)) = 100 * (h + 1) by omega]
      rfl
    · intro j h1 h2
      omega
abbrev oRel (s s' : Int32 × Int32) : Prop := s.1 = s'.2 ∧ (s.1 = -1 ∨ s.2 = s'.1)
theorem pop_le10 (m : Nat) : ∀ k, pop k m ≤ k
  | 0 => Nat.le_refl _
  | k + 1 => by
    have := pop_le10 m k
    rw [pop]
    omega
theorem nI_n1 {c : Nat} (h : c < 2 ^ 31) : ¬ nI c = -1 := fun z => absurd (show nI c < 0 by rw [z]; decide) (nI_pos h)
theorem on_rel {kd th wi : Nat → Int32} {M H R n : Nat} : ∀ (f i : Nat) (s s' : Int32 × Int32), oRel s s' → oRel (foS (oS kd th wi M H R n) f i s) (onR kd th wi M H R n f i s')
  | 0, _, _, _, h => h
  | f + 1, i, s, s', h => by
    rw [foS, onR]
    refine on_rel f (i + 1) _ _ ?_
    unfold oS
    by_cases c : i / 10 % 10 < R
    · rw [if_pos c, if_pos c]
      by_cases c2 : th (5 * (i / 100) + i / 10 % 10) = nI (i % 10)
      · rw [if_pos c2, if_neg (fun z => z.2 c2.symm)]
        exact h
      · rw [if_neg c2]
        by_cases c3 : s.1 < nI (oC kd th wi M H R n i)
        · rw [if_pos ⟨c3, fun z => c2 z.symm⟩, if_pos (by rw [← h.1]; exact c3)]
          exact ⟨rfl, Or.inr rfl⟩
        · rw [if_neg (fun z => c3 z.1), if_neg (by rw [← h.1]; exact c3)]
          exact h
    · rw [if_neg c, if_neg c]
      exact h
theorem oS_pos {kd th wi : Nat → Int32} {M H R n : Nat} : ∀ (f i : Nat) (s : Int32 × Int32), ¬ s.1 = -1 → ¬ (foS (oS kd th wi M H R n) f i s).1 = -1
  | 0, _, _, h => h
  | f + 1, i, s, h => by
    rw [foS]
    refine oS_pos f (i + 1) _ ?_
    unfold oS
    split
    · split
      · exact nI_n1 (by have := pop_le10 (metN wi (itT kd M H R n (upd th (oJ i) (nI (i % 10)))) R) 10; show pop 10 _ < _; omega)
      · exact h
    · exact h
theorem m1_lt {c : Nat} (h : c < 2 ^ 31) : (-1 : Int32) < nI c := by
  rw [Int32.lt_iff_toInt_lt, nI_toInt h]
  show (-1 : Int) < _
  omega
theorem one_eq {kd th wi : Nat → Int32} {M H R n : Nat} (hR : R ≤ 5) (h1 : 0 < R) (h0 : 0 < H) : (bpH kd th wi M H R n H 0 (-1, 0)).1 = (onR kd th wi M H R n (100 * H) 0 (-4, -1)).2 ∧ (bpH kd th wi M H R n H 0 (-1, 0)).2 = (onR kd th wi M H R n (100 * H) 0 (-4, -1)).1 := by
  rw [bpH_fo hR H 0 _ (by omega), Nat.mul_zero]
  have hr := on_rel (kd := kd) (th := th) (wi := wi) (M := M) (H := H) (R := R) (n := n) (100 * H) 0 (-1, 0) (-4, -1) ⟨rfl, Or.inl rfl⟩
  refine ⟨hr.1, hr.2.resolve_left ?_⟩
  rw [show 100 * H = 2 + (100 * H - 2) by omega, foS_add]
  refine oS_pos _ _ _ ?_
  rw [foS, foS, foS]
  have hp : ∀ i, oC kd th wi M H R n i < 2 ^ 31 := fun i => by
    have := pop_le10 (metN wi (itT kd M H R n (upd th (oJ i) (nI (i % 10)))) R) 10
    show pop 10 _ < _
    omega
  by_cases c : nI 0 = th 0
  · have e0 : oS kd th wi M H R n 0 (-1, 0) = (-1, 0) := by
      unfold oS
      rw [if_pos (by omega)]
      exact if_neg (fun z => z.2 c)
    rw [e0]
    have e1 : oS kd th wi M H R n 1 (-1, 0) = (nI (oC kd th wi M H R n 1), nI 1) := by
      unfold oS
      rw [if_pos (by omega)]
      exact if_pos ⟨m1_lt (hp 1), fun z => by
        have z' : nI 1 = th 0 := z
        rw [← c] at z'
        exact absurd z' (by decide)⟩
    rw [Nat.zero_add, e1]
    exact nI_n1 (hp 1)
  · have e0 : oS kd th wi M H R n 0 (-1, 0) = (nI (oC kd th wi M H R n 0), nI 0) := by
      unfold oS
      rw [if_pos (by omega)]
      exact if_pos ⟨m1_lt (hp 0), c⟩
    rw [e0]
    have := oS_pos (kd := kd) (th := th) (wi := wi) (M := M) (H := H) (R := R) (n := n) 1 1 (nI (oC kd th wi M H R n 0), nI 0) (nI_n1 (hp 0))
    rw [foS, foS] at this
    exact this
theorem onR_c {kd kd' th th' wi : Nat → Int32} {M H R n : Nat} (hR : R ≤ 5) (h0 : 0 < H) (hk : ∀ a, a < H → kd a = kd' a) (h : eqR H R th th') : ∀ (f i : Nat) (s : Int32 × Int32), i + f ≤ 100 * H → onR kd th wi M H R n f i s = onR kd' th' wi M H R n f i s
  | 0, _, _, _ => rfl
  | f + 1, i, s, hi => by
    rw [onR, onR, onR_c hR h0 hk h f (i + 1) _ (by omega)]
    by_cases c : i / 10 % 10 < R
    · have e1 : th (5 * (i / 100) + i / 10 % 10) = th' (5 * (i / 100) + i / 10 % 10) := h (i / 100) (by omega) _ c
      have e2 : onC kd th wi M H R n (5 * (i / 100) + i / 10 % 10) (nI (i % 10)) = onC kd' th' wi M H R n (5 * (i / 100) + i / 10 % 10) (nI (i % 10)) := congrArg (pop 10) (metN_c ((eqR_it hR hk n _ _ (eqR_upd h)).top h0))
      rw [if_pos c, if_pos c, e1, e2]
    · rw [if_neg c, if_neg c]
