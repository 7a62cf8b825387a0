/-! TELLS: as many unlike rows as things in the one room that goes by it -/
def rbX (x : Nat → Nat) : Nat → Nat
  | 0 => 0
  | k + 1 => 10 * rbX x k + x k
theorem rb_n {g : Nat → Int32} {x : Nat → Nat} : ∀ (k : Nat), (∀ b, b < k → g b = nI (x b)) → rbN g k = nI (rbX x k)
  | 0, _ => rfl
  | k + 1, h => by
    rw [rbN, rbX, rb_n k (fun b hb => h b (by omega)), h k (by omega), show (10 : Int32) = nI 10 from rfl, pk_mul, nI_add]
theorem rbX_lt {x : Nat → Nat} (hx : ∀ b, x b < 10) : ∀ k, rbX x k < 10 ^ k
  | 0 => Nat.one_pos
  | k + 1 => by
    have := rbX_lt hx k
    have h2 := hx k
    rw [rbX, Nat.pow_succ]
    omega
theorem rbX_inj {x y : Nat → Nat} (hx : ∀ b, x b < 10) (hy : ∀ b, y b < 10) : ∀ k, rbX x k = rbX y k → ∀ b, b < k → x b = y b
  | 0, _, b, hb => absurd hb (Nat.not_lt_zero b)
  | k + 1, h, b, hb => by
    rw [rbX, rbX] at h
    have h1 := hx k
    have h2 := hy k
    have h3 : rbX x k = rbX y k := by omega
    by_cases e : b = k
    · subst e
      omega
    · exact rbX_inj hx hy k h3 b (by omega)
theorem rbX_c {x y : Nat → Nat} : ∀ k, (∀ b, b < k → x b = y b) → rbX x k = rbX y k
  | 0, _ => rfl
  | k + 1, h => by rw [rbX, rbX, rbX_c k (fun b hb => h b (by omega)), h k (by omega)]
theorem sm_0 {g : Nat → Int32} {v : Nat} : ∀ k, smN g v k = 0 ↔ ∀ w, w < k → ¬ g w = g v
  | 0 => ⟨fun _ w h => absurd h (Nat.not_lt_zero w), fun _ => rfl⟩
  | k + 1 => by
    have ih := sm_0 (g := g) (v := v) k
    rw [smN]
    constructor
    · intro h w hw
      by_cases e : w = k
      · subst e
        intro z
        rw [if_pos z] at h
        omega
      · exact ih.mp (by omega) w (by omega)
    · intro h
      rw [ih.mpr (fun w hw => h w (by omega)), if_neg (h k (by omega))]
theorem gB_tb {vl : Nat → Nat → Nat} {b i : Nat} : ∀ k, (gB vl b k).testBit i = true ↔ ∃ w, w < k ∧ vl w b = i
  | 0 => by
    rw [gB]
    simp
  | k + 1 => by
    rw [gB, Nat.testBit_or, Bool.or_eq_true, gB_tb k]
    constructor
    · rintro (⟨w, hw, e⟩ | h)
      · exact ⟨w, by omega, e⟩
      · refine ⟨k, by omega, ?_⟩
        rw [Nat.testBit_two_pow] at h
        simpa using h
    · rintro ⟨w, hw, e⟩
      by_cases q : w = k
      · subst q
        right
        rw [e, Nat.testBit_two_pow_self]
      · exact Or.inl ⟨w, by omega, e⟩
theorem pop_or : ∀ i, i < 10 → ∀ m, m < 1024 → pop 10 (m ||| 2 ^ i) = if m.testBit i = true then pop 10 m else pop 10 m + 1 := by decide +kernel
theorem ul_pop {g : Nat → Int32} {vl : Nat → Nat → Nat} {b : Nat} (hv : ∀ v, v < 10 → vl v b < 10) (hg : ∀ v, v < 10 → ∀ w, w < 10 → (g w = g v ↔ vl w b = vl v b)) : ∀ k, k ≤ 10 → ulN g k = pop 10 (gB vl b k)
  | 0, _ => by
    rw [ulN, gB]
    decide
  | k + 1, hk => by
    have ih := ul_pop hv hg k (by omega)
    rw [ulN, gB, pop_or _ (hv k (by omega)) _ (gB_lt hv k (by omega)), ih]
    by_cases c : (gB vl b k).testBit (vl k b) = true
    · have hz : ¬ smN g k k = 0 := by
        intro z
        obtain ⟨w, hw, e⟩ := (gB_tb k).mp c
        exact (sm_0 k).mp z w hw ((hg k (by omega) w (by omega)).mpr e)
      rw [if_pos c, if_neg hz, Nat.add_zero]
    · have hz : smN g k k = 0 := by
        refine (sm_0 k).mpr (fun w hw z => c ?_)
        exact (gB_tb k).mpr ⟨w, hw, (hg k (by omega) w (by omega)).mp z⟩
      rw [if_neg c, if_pos hz]
theorem mt_eq {vl : Nat → Nat → Nat} {g : Nat → Nat} : ∀ (f b : Nat) (s : Int32 × Int32), (∀ r, b ≤ r → r < b + f → pop 10 (gB vl r 10) = g r) → mtR vl f b s = ((mtM g f b (s.2, s.1)).2, (mtM g f b (s.2, s.1)).1)
  | 0, _, _, _ => rfl
  | f + 1, b, s, h => by
    rw [mtR, mtM, mt_eq f (b + 1) _ (fun r h1 h2 => h r (by omega) (by omega)), h b (Nat.le_refl _) (by omega)]
    by_cases c : s.1 < nI (g b)
    · rw [if_pos c, if_pos c]
    · rw [if_neg c, if_neg c]
theorem uk_iff {kd th : Nat → Int32} {M H R n a r : Nat} {vl : Nat → Nat → Nat} (hR : R ≤ 5) (ha : a < H) (hr : r < R) (hb : bnd H R th) (hv : ∀ k, k < 10 → vl k r < 10 ∧ itT kd M H R n (plA (nI k) th (H - 1) R) (5 * a + upA kd R a (H - 1 - a) r) = nI (vl k r)) : ∀ v, v < 10 → ∀ w, w < 10 → (ukG kd th M H R n a r w = ukG kd th M H R n a r v ↔ vl w r = vl v r) := by
  intro v hv9 w hw9
  have hu : upA kd R a (H - 1 - a) r < R := upA_lt _ _ hr
  obtain ⟨x0, hx0⟩ : ∃ x0 : Nat → Nat, ∀ b, x0 b < 10 ∧ (b < R → itT kd M H R n th (5 * a + b) = nI (x0 b)) := by
    have : ∀ b, ∃ j, j < 10 ∧ (b < R → itT kd M H R n th (5 * a + b) = nI j) := by
      intro b
      by_cases hbR : b < R
      · obtain ⟨j, hj, e⟩ := bnd_it (kd := kd) (M := M) hR n th hb a ha b hbR
        exact ⟨j, hj, fun _ => e⟩
      · exact ⟨0, by omega, fun z => absurd z hbR⟩
    exact ⟨fun b => Classical.choose (this b), fun b => Classical.choose_spec (this b)⟩
  have row : ∀ z, z < 10 → ukG kd th M H R n a r z = nI (rbX (fun b => if b = upA kd R a (H - 1 - a) r then vl z r else x0 b) R) := by
    intro z hz
    refine rb_n R (fun b hbR => ?_)
    show itT kd M H R n (upd th (5 * (H - 1) + r) (nI z)) (5 * a + b) = _
    rw [col_at hR (by omega) hr (by omega) hbR]
    by_cases e : b = upA kd R a (H - 1 - a) r
    · rw [if_pos e, if_pos e, e]
      exact (hv z hz).2
    · rw [if_neg e, if_neg e]
      exact (hx0 b).2 hbR
  have dig : ∀ z, z < 10 → ∀ b, (if b = upA kd R a (H - 1 - a) r then vl z r else x0 b) < 10 := by
    intro z hz b
    split
    · exact (hv z hz).1
    · exact (hx0 b).1
  have lt : ∀ z, z < 10 → rbX (fun b => if b = upA kd R a (H - 1 - a) r then vl z r else x0 b) R < 2 ^ 31 := by
    intro z hz
    have h1 := rbX_lt (dig z hz) R
    have h2 : 10 ^ R ≤ 10 ^ 5 := Nat.pow_le_pow_right (by omega) hR
    omega
  rw [row w hw9, row v hv9, nI_eq (lt w hw9) (lt v hv9)]
  constructor
  · intro e
    have := rbX_inj (dig w hw9) (dig v hv9) R e _ hu
    simpa using this
  · intro e
    rw [e]
theorem tells_eq {kd th : Nat → Int32} {M H R n a : Nat} {vl : Nat → Nat → Nat} (hR : R ≤ 5) (ha : a < H) (hb : bnd H R th) (hv : ∀ k, k < 10 → ∀ b, b < R → vl k b < 10 ∧ itT kd M H R n (plA (nI k) th (H - 1) R) (5 * a + upA kd R a (H - 1 - a) b) = nI (vl k b)) : mtR vl R 0 (0, 0) = ((mtM (fun r => ulN (ukG kd th M H R n a r) 10) R 0 (0, 0)).2, (mtM (fun r => ulN (ukG kd th M H R n a r) 10) R 0 (0, 0)).1) := by
  refine mt_eq R 0 (0, 0) (fun r _ hr => ?_)
  have hr : r < R := by omega
  exact (ul_pop (fun v hv9 => (hv v hv9 r hr).1) (uk_iff hR ha hr hb (fun k hk => hv k hk r hr)) 10 (Nat.le_refl _)).symm
theorem vl_ex {kd th : Nat → Int32} {M H R n a : Nat} (hR : R ≤ 5) (h0 : 0 < H) (ha : a < H) (hb : bnd H R th) : ∃ vl : Nat → Nat → Nat, ∀ k, k < 10 → ∀ b, b < R → vl k b < 10 ∧ itT kd M H R n (plA (nI k) th (H - 1) R) (5 * a + upA kd R a (H - 1 - a) b) = nI (vl k b) := by
  have : ∀ k b, ∃ j, k < 10 → b < R → j < 10 ∧ itT kd M H R n (plA (nI k) th (H - 1) R) (5 * a + upA kd R a (H - 1 - a) b) = nI j := by
    intro k b
    by_cases hk : k < 10
    · by_cases hbR : b < R
      · obtain ⟨j, hj, e⟩ := bnd_it (kd := kd) (M := M) hR n _ (bnd_pl (c := H - 1) hk hb) a ha _ (upA_lt (kd := kd) (R := R) (A := a) (H - 1 - a) b hbR)
        exact ⟨j, fun _ _ => ⟨hj, e⟩⟩
      · exact ⟨0, fun _ z => absurd z hbR⟩
    · exact ⟨0, fun z => absurd z hk⟩
  exact ⟨fun k b => Classical.choose (this k b), fun k hk b hbR => Classical.choose_spec (this k b) hk hbR⟩
theorem uk_c {kd kd' th th' : Nat → Int32} {M H R n a r : Nat} (hR : R ≤ 5) (ha : a < H) (hk : ∀ a, a < H → kd a = kd' a) (h : eqR H R th th') : ukG kd th M H R n a r = ukG kd' th' M H R n a r := by
  funext v
  have key : ∀ k, k ≤ R → rbN (fun b => itT kd M H R n (upd th (5 * (H - 1) + r) (nI v)) (5 * a + b)) k = rbN (fun b => itT kd' M H R n (upd th' (5 * (H - 1) + r) (nI v)) (5 * a + b)) k := by
    intro k
    induction k with
    | zero => intro _; rfl
    | succ k ih =>
      intro hk2
      rw [rbN, rbN, ih (by omega), eqR_it hR hk n _ _ (eqR_upd h) a ha k (by omega)]
  exact key R (Nat.le_refl _)
