/-! LIKELY: days too late to tell, lowest terms -/
theorem eqR_tb {kd kd' th th' : Nat → Int32} {M H R q : Nat} (hR : R ≤ 5) (h0 : 0 < H) (hk : ∀ a, a < H → kd a = kd' a) (h : eqR H R th th') : ∀ k, eqR H R (tbI kd M H R q th k) (tbI kd' M H R q th' k)
  | 0 => h
  | k + 1 => by
    rw [tbI, tbI]
    refine eqR_day hR hk ?_
    split
    · exact eqR_sh hR (by omega) (eqR_tb hR h0 hk h k)
    · exact eqR_tb hR h0 hk h k
theorem lkS_c {kd kd' th th' : Nat → Int32} {M H R n b X : Nat} {v : Int32} (hR : R ≤ 5) (h0 : 0 < H) (hb : b < R) (hk : ∀ a, a < H → kd a = kd' a) (h : eqR H R th th') : ∀ m, lkS kd th M H R n b v X m = lkS kd' th' M H R n b v X m
  | 0 => rfl
  | m + 1 => by
    rw [lkS, lkS, lkS_c hR h0 hb hk h m, (eqR_tb hR h0 hk h n).top h0 b hb]
theorem tb_same {kd th : Nat → Int32} {M H R q q' D : Nat} (hq : ∀ d, d < D → q.testBit d = q'.testBit d) : ∀ k, k ≤ D → tbI kd M H R q th k = tbI kd M H R q' th k
  | 0, _ => rfl
  | k + 1, hk => by rw [tbI, tbI, tb_same hq k (by omega), hq k (by omega)]
theorem tb_dep {kd th : Nat → Int32} {M H R q q' D : Nat} (hR : R ≤ 5) (hq : ∀ d, d < D → q.testBit d = q'.testBit d) : ∀ j a, a + j + 2 ≤ H → ∀ b, b < R → tbI kd M H R q th (D + j) (5 * a + b) = tbI kd M H R q' th (D + j) (5 * a + b)
  | 0, a, _, b, _ => by rw [Nat.add_zero, tb_same hq D (Nat.le_refl _)]
  | j + 1, a, ha, b, hb => by
    have key : ∀ (z : Nat), ∀ c, c + 1 < H → ∀ r, r < R → (if z.testBit (D + j) = true then shT (tbI kd M H R z th (D + j)) R (H - 1) else tbI kd M H R z th (D + j)) (5 * c + r) = tbI kd M H R z th (D + j) (5 * c + r) := by
      intro z c hc r hr
      split
      · unfold shT
        rw [if_neg (by omega)]
      · rfl
    rw [show D + (j + 1) = (D + j) + 1 by omega, tbI, tbI, dayT, dayT, dyN_at hR hb, dyN_at hR hb]
    have h1 : ∀ c, c + j + 2 ≤ H → ∀ r, r < R → (if q.testBit (D + j) = true then shT (tbI kd M H R q th (D + j)) R (H - 1) else tbI kd M H R q th (D + j)) (5 * c + r) = (if q'.testBit (D + j) = true then shT (tbI kd M H R q' th (D + j)) R (H - 1) else tbI kd M H R q' th (D + j)) (5 * c + r) := by
      intro c hc r hr
      rw [key q c (by omega) r hr, key q' c (by omega) r hr]
      exact tb_dep hR hq j c hc r hr
    by_cases c : a < H - 1 ∧ ¬ M.testBit a = true
    · rw [if_pos c, if_pos c]
      exact nxT_c rfl hb (h1 a (by omega) b hb) (fun r hr => h1 (a + 1) (by omega) r hr)
    · rw [if_neg c, if_neg c]
      exact h1 a (by omega) b hb
/-- sums over patterns -/
def sumF (g : Nat → Nat) : Nat → Nat
  | 0 => 0
  | k + 1 => sumF g k + g k
theorem sumF_c {g g' : Nat → Nat} : ∀ k, (∀ i, i < k → g i = g' i) → sumF g k = sumF g' k
  | 0, _ => rfl
  | k + 1, h => by rw [sumF, sumF, sumF_c k (fun i hi => h i (by omega)), h k (by omega)]
theorem sumF_add {g : Nat → Nat} (a : Nat) : ∀ b, sumF g (a + b) = sumF g a + sumF (fun i => g (a + i)) b
  | 0 => rfl
  | b + 1 => by rw [← Nat.add_assoc, sumF, sumF_add a b, sumF, Nat.add_assoc]
theorem sumF_mul {g : Nat → Nat} (c : Nat) : ∀ k, sumF (fun i => g i * c) k = sumF g k * c
  | 0 => by rw [sumF, sumF, Nat.zero_mul]
  | k + 1 => by rw [sumF, sumF, sumF_mul c k, Nat.add_mul]
theorem sumF_le {g g' : Nat → Nat} : ∀ k, (∀ i, i < k → g i ≤ g' i) → sumF g k ≤ sumF g' k
  | 0, _ => Nat.le_refl _
  | k + 1, h => by
    have h1 := sumF_le k (fun i hi => h i (by omega))
    have h2 := h k (by omega)
    rw [sumF, sumF]
    omega
theorem tb_hi {i j d : Nat} (hd : d < j) : (2 ^ j + i).testBit d = i.testBit d := Nat.testBit_two_pow_add_gt hd i
theorem wg_hi {X i j : Nat} : ∀ k, k ≤ j → wgM X (2 ^ j + i) k = wgM X i k
  | 0, _ => rfl
  | k + 1, h => by rw [wgM, wgM, wg_hi k (by omega), tb_hi (by omega)]
/-- a day more: ten times as much -/
theorem sum_10 {F : Nat → Nat} {X D j : Nat} (hX : X ≤ 10) (hD : D ≤ j) (hF : ∀ q q', (∀ d, d < D → q.testBit d = q'.testBit d) → F q = F q') : sumF (fun q => F q * wgM X q (j + 1)) (2 ^ (j + 1)) = sumF (fun q => F q * wgM X q j) (2 ^ j) * 10 := by
  rw [Nat.pow_succ, Nat.mul_two, sumF_add]
  have e1 : sumF (fun q => F q * wgM X q (j + 1)) (2 ^ j) = sumF (fun q => F q * wgM X q j * (10 - X)) (2 ^ j) := sumF_c _ (fun i hi => by
    rw [wgM, Nat.testBit_lt_two_pow hi, if_neg (by decide), Nat.mul_assoc])
  have e2 : sumF (fun i => F (2 ^ j + i) * wgM X (2 ^ j + i) (j + 1)) (2 ^ j) = sumF (fun q => F q * wgM X q j * X) (2 ^ j) := sumF_c _ (fun i hi => by
    rw [wgM, wg_hi j (Nat.le_refl _), Nat.testBit_two_pow_add_eq, Nat.testBit_lt_two_pow hi, if_pos (by decide), hF (2 ^ j + i) i (fun d hd => tb_hi (by omega)), Nat.mul_assoc])
  rw [e1, e2, sumF_mul, sumF_mul, ← Nat.mul_add, show 10 - X + X = 10 by omega]
theorem sum_all {F : Nat → Nat} {X D : Nat} (hX : X ≤ 10) (hF : ∀ q q', (∀ d, d < D → q.testBit d = q'.testBit d) → F q = F q') : ∀ j, sumF (fun q => F q * wgM X q (D + j)) (2 ^ (D + j)) = sumF (fun q => F q * wgM X q D) (2 ^ D) * 10 ^ j
  | 0 => by rw [Nat.add_zero, Nat.pow_zero, Nat.mul_one]
  | j + 1 => by
    rw [← Nat.add_assoc, sum_10 hX (by omega) hF, sum_all hX hF j, Nat.mul_assoc, Nat.pow_succ]
theorem sum_w {X : Nat} (hX : X ≤ 10) (j : Nat) : sumF (fun q => wgM X q j) (2 ^ j) = 10 ^ j := by
  have h := sum_all (F := fun _ => 1) (X := X) (D := 0) hX (fun _ _ _ => rfl) j
  rw [Nat.zero_add] at h
  have e : sumF (fun q => 1 * wgM X q j) (2 ^ j) = sumF (fun q => wgM X q j) (2 ^ j) := sumF_c _ (fun i _ => Nat.one_mul _)
  rw [e] at h
  rw [h]
  simp [sumF, wgM]
/-- the ways that count, of D days -/
abbrev wyF (kd th : Nat → Int32) (M H R n b : Nat) (v : Int32) (q : Nat) : Nat := if tbI kd M H R q th n b = v then 1 else 0
abbrev wyN (kd th : Nat → Int32) (M H R n b : Nat) (v : Int32) (X D : Nat) : Nat := sumF (fun q => wyF kd th M H R n b v q * wgM X q D) (2 ^ D)
theorem lkS_sum {kd th : Nat → Int32} {M H R n b X : Nat} {v : Int32} : ∀ m, lkS kd th M H R n b v X m = sumF (fun q => wyF kd th M H R n b v q * wgM X q n) m
  | 0 => rfl
  | m + 1 => by
    rw [lkS, sumF, lkS_sum m]
    congr 1
    show _ = (if _ then 1 else 0) * _
    split
    · rw [Nat.one_mul]
    · rw [Nat.zero_mul]
theorem lk_10 {kd th : Nat → Int32} {M H R n b X : Nat} {v : Int32} (hR : R ≤ 5) (h2 : 2 ≤ H) (hb : b < R) (hX : X ≤ 10) : lkS kd th M H R n b v X (2 ^ n) = wyN kd th M H R n b v X (n + 2 - H) * 10 ^ (n - (n + 2 - H)) := by
  rw [lkS_sum]
  have hn : n = (n + 2 - H) + (n - (n + 2 - H)) := by omega
  have hF : ∀ q q', (∀ d, d < n + 2 - H → q.testBit d = q'.testBit d) → wyF kd th M H R n b v q = wyF kd th M H R n b v q' := by
    intro q q' hq
    have e := tb_dep (kd := kd) (th := th) (M := M) (H := H) hR hq (n - (n + 2 - H)) 0 (by omega) b hb
    rw [← hn, Nat.mul_zero, Nat.zero_add] at e
    show (if _ then 1 else 0) = (if _ then 1 else 0)
    rw [e]
  have h := sum_all (F := wyF kd th M H R n b v) (X := X) (D := n + 2 - H) hX hF (n - (n + 2 - H))
  rw [← hn] at h
  exact h
theorem wy_le {kd th : Nat → Int32} {M H R n b X D : Nat} {v : Int32} (hX : X ≤ 10) : wyN kd th M H R n b v X D ≤ 10 ^ D := by
  rw [← sum_w hX D]
  refine sumF_le _ (fun i _ => ?_)
  show (if _ then 1 else 0) * _ ≤ _
  split
  · rw [Nat.one_mul]
    exact Nat.le_refl _
  · rw [Nat.zero_mul]
    exact Nat.zero_le _
theorem pow_n {X : Nat} : ∀ e, powI (nI X) e = nI (X ^ e)
  | 0 => rfl
  | e + 1 => by rw [powI, pow_n e, pk_mul, Nat.pow_succ]
theorem pop_D : ∀ D, D < 9 → ∀ q, q < 2 ^ D → pop 10 q = pop D q := by decide +kernel
theorem wg_pow {X q : Nat} : ∀ D, wgM X q D = X ^ (pop D q) * (10 - X) ^ (D - pop D q)
  | 0 => by simp [wgM, pop]
  | D + 1 => by
    have h1 := pop_le10 q D
    have h2 : q / 2 ^ D % 2 = if q.testBit D = true then 1 else 0 := by
      rw [Nat.testBit_eq_decide_div_mod_eq]
      have := Nat.mod_lt (q / 2 ^ D) (show 0 < 2 by omega)
      by_cases c : q / 2 ^ D % 2 = 1
      · simp [c]
      · have : q / 2 ^ D % 2 = 0 := by omega
        simp [this]
    rw [wgM, pop, h2, wg_pow D]
    split
    · rw [Nat.pow_succ, show D + 1 - (pop D q + 1) = D - pop D q by omega]
      rw [Nat.mul_assoc, Nat.mul_assoc, Nat.mul_comm ((10 - X) ^ (D - pop D q)) X]
    · rw [Nat.add_zero, show D + 1 - pop D q = (D - pop D q) + 1 by omega, Nat.pow_succ, Nat.mul_assoc]
theorem wgt_n {X D q : Nat} (hX : X ≤ 10) (hD : D < 9) (hq : q < 2 ^ D) : wgt (nI X) D q = nI (wgM X q D) := by
  unfold wgt
  have e : (10 : Int32) - nI X = nI (10 - X) := by rw [show (10 : Int32) = nI 10 from rfl, pk_sub hX]
  rw [e, pow_n, pow_n, pk_mul, wg_pow, pop_D D hD q hq]
theorem wy_n {kd th : Nat → Int32} {M H R n b X D : Nat} {v : Int32} (hX : X ≤ 10) (hD : D < 9) : ∀ (f k acc : Nat), k + f = 2 ^ D → acc = sumF (fun q => wyF kd th M H R n b v q * wgM X q D) k → wyR kd th M H R n b v (nI X) D f k (nI acc) = nI (wyN kd th M H R n b v X D)
  | 0, k, acc, hk, e => by
    rw [Nat.add_zero] at hk
    rw [wyR, e, hk]
  | f + 1, k, acc, hk, e => by
    have hw := wgM_le (q := k) hX D
    have hp := p8_le D (by omega)
    have step : (if 0 < wgt (nI X) D k then (if tbI kd M H R k th n b = v then nI acc + wgt (nI X) D k else nI acc) else nI acc) = nI (acc + wyF kd th M H R n b v k * wgM X k D) := by
      rw [wgt_n hX hD (by omega)]
      by_cases c : tbI kd M H R k th n b = v
      · rw [if_pos c, show wyF kd th M H R n b v k = 1 from if_pos c, Nat.one_mul]
        by_cases z : 0 < nI (wgM X k D)
        · rw [if_pos z, nI_add]
        · have : ¬ 0 < wgM X k D := fun q => z (nI_lt (a := 0) q (by omega))
          rw [if_neg z, show wgM X k D = 0 by omega, Nat.add_zero]
      · rw [if_neg c, show wyF kd th M H R n b v k = 0 from if_neg c, Nat.zero_mul, Nat.add_zero, ite_self]
    rw [wyR, step]
    exact wy_n hX hD f (k + 1) _ (by omega) (by rw [sumF, e])
theorem cd_gcd : ∀ (k a b : Nat), b < 2 ^ k → a < 2 ^ 31 → b < 2 ^ 31 → ∀ f, 2 * k + 1 ≤ f → cdG f (nI a) (nI b) = nI (Nat.gcd b a)
  | 0, a, b, hb, ha, hb2, f, hf => by
    obtain ⟨g, rfl⟩ : ∃ g, f = g + 1 := ⟨f - 1, by omega⟩
    have : b = 0 := by
      rw [Nat.pow_zero] at hb
      omega
    subst this
    rw [cdG, if_pos (show nI 0 = 0 from rfl), Nat.gcd_zero_left]
  | k + 1, a, b, hb, ha, hb2, f, hf => by
    obtain ⟨g, rfl⟩ : ∃ g, f = g + 1 + 1 := ⟨f - 2, by omega⟩
    rw [cdG]
    by_cases c : b = 0
    · subst c
      rw [if_pos (show nI 0 = 0 from rfl), Nat.gcd_zero_left]
    · rw [if_neg (nI_ne0 (by omega) hb2), pk_rem ha (by omega) hb2, cdG]
      have h1 : a % b < b := Nat.mod_lt _ (by omega)
      by_cases c2 : a % b = 0
      · rw [if_pos (by rw [c2]; rfl), Nat.gcd_rec, c2, Nat.gcd_zero_left]
      · rw [if_neg (nI_ne0 (by omega) (by omega)), pk_rem hb2 (by omega) (by omega), Nat.gcd_rec, Nat.gcd_rec]
        have h3 : b % (a % b) < a % b := Nat.mod_lt _ (by omega)
        have h4 : b % (a % b) + a % b ≤ b := by
          have h5 := Nat.div_add_mod b (a % b)
          have h6 : 1 ≤ b / (a % b) := Nat.div_pos (by omega) (by omega)
          have h7 : a % b ≤ a % b * (b / (a % b)) := Nat.le_mul_of_pos_right _ h6
          omega
        rw [Nat.pow_succ] at hb
        exact cd_gcd k (a % b) (b % (a % b)) (by omega) (by omega) (by omega) g (by omega)
theorem likely_eq {kd th : Nat → Int32} {M H R n b X : Nat} {u v : Int32} (hR : R ≤ 5) (h2 : 2 ≤ H) (hb : b < R) (hX : X ≤ 10) (hn : n ≤ 8) : lkR u (wyR kd th M H R n b v (nI X) (n + 2 - H) (2 ^ (n + 2 - H)) 0 0) (powI 10 (n + 2 - H)) = nI ((if u = 0 then lkS kd th M H R n b v X (2 ^ n) else 10 ^ n) / Nat.gcd (10 ^ n) (lkS kd th M H R n b v X (2 ^ n))) := by
  have hw := wy_n (kd := kd) (th := th) (M := M) (H := H) (R := R) (n := n) (b := b) (v := v) (D := n + 2 - H) hX (by omega) (2 ^ (n + 2 - H)) 0 0 (by omega) rfl
  have hl := wy_le (kd := kd) (th := th) (M := M) (H := H) (R := R) (n := n) (b := b) (v := v) (D := n + 2 - H) hX
  rw [lk_10 hR h2 hb hX, show wyR kd th M H R n b v (nI X) (n + 2 - H) (2 ^ (n + 2 - H)) 0 0 = nI (wyN kd th M H R n b v X (n + 2 - H)) from hw, show (10 : Int32) = nI 10 from rfl, pow_n]
  have e10 : 10 ^ n = 10 ^ (n + 2 - H) * 10 ^ (n - (n + 2 - H)) := by rw [← Nat.pow_add, show n + 2 - H + (n - (n + 2 - H)) = n by omega]
  have hp := p8_le (n + 2 - H) (by omega)
  have hB0 : 0 < 10 ^ (n + 2 - H) := Nat.pow_pos (by omega)
  have ht0 : 0 < 10 ^ (n - (n + 2 - H)) := Nat.pow_pos (by omega)
  rw [e10]
  generalize wyN kd th M H R n b v X (n + 2 - H) = A at hl ⊢
  generalize 10 ^ (n + 2 - H) = B at hl hp hB0 ⊢
  generalize 10 ^ (n - (n + 2 - H)) = t at ht0 ⊢
  unfold lkR
  have hA27 : A < 2 ^ 27 := by omega
  rw [cd_gcd 27 B A hA27 (by omega) (by omega) 64 (by omega), Nat.gcd_mul_right]
  have hg0 : 0 < Nat.gcd A B := Nat.gcd_pos_of_pos_right _ hB0
  have hg1 : Nat.gcd A B ≤ B := Nat.gcd_le_right _ hB0
  rw [if_pos (show (0 : Int32) < nI (Nat.gcd A B) from nI_lt (a := 0) hg0 (by omega)), Nat.gcd_comm B A]
  by_cases c : u = 0
  · rw [if_pos c, if_pos c, pk_div (by omega) hg0 (by omega), Nat.mul_div_mul_right _ _ ht0]
  · rw [if_neg c, if_neg c, pk_div (by omega) hg0 (by omega), Nat.mul_div_mul_right _ _ ht0]
