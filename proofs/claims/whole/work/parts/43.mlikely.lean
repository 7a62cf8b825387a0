/-! THE REFERENCE: how likely -/
def wgM (X q : Nat) : Nat → Nat
  | 0 => 1
  | k + 1 => wgM X q k * (if q.testBit k = true then X else 10 - X)
theorem wgM_le {X q : Nat} (hX : X ≤ 10) : ∀ k, wgM X q k ≤ 10 ^ k
  | 0 => Nat.le_refl _
  | k + 1 => by
    rw [wgM, Nat.pow_succ]
    refine Nat.mul_le_mul (wgM_le hX k) ?_
    split <;> omega
def lkS (kd th : Nat → Int32) (M H R n b : Nat) (v : Int32) (X : Nat) : Nat → Nat
  | 0 => 0
  | q + 1 => lkS kd th M H R n b v X q + (if tbI kd M H R q th n b = v then wgM X q n else 0)
theorem lkS_le {kd th : Nat → Int32} {M H R n b : Nat} {v : Int32} {X : Nat} (hX : X ≤ 10) : ∀ q, lkS kd th M H R n b v X q ≤ q * 10 ^ n
  | 0 => Nat.zero_le _
  | q + 1 => by
    rw [lkS, Nat.succ_mul]
    refine Nat.add_le_add (lkS_le hX q) ?_
    split
    · exact wgM_le hX n
    · exact Nat.zero_le _
theorem p8_le : ∀ n, n ≤ 8 → 10 ^ n ≤ 100000000 := fun n hn => Nat.le_trans (Nat.pow_le_pow_right (by omega) hn) (by decide)
theorem p2_le : ∀ n, n ≤ 8 → 2 ^ n ≤ 256 := fun n hn => Nat.le_trans (Nat.pow_le_pow_right (by omega) hn) (by decide)
theorem cmp0 {b : Nat} (h : b < 2 ^ 63) : lg_cmp (lN b) 0 = 0 ↔ b = 0 := by
  unfold lg_cmp
  have e : (0 : Int64) = lN 0 := rfl
  rw [e]
  by_cases hb : b = 0
  · subst hb
    simp
  · rw [if_pos ((pk_lLT (by omega) h).mpr (by omega))]
    simp [hb]
section MR
variable {d : Nat} {hs rm dy sn ln po rh rr pn kn : Int32} {kd th mc wn sd sp st tx rk rt rm2 rw2 row past pu pin rows kept : Nat → Int32} {wi : Nat → Int32} {H R M a b n m k r q X L S S2 S8 : Nat} {x y v w u : Int32} {Q : Option Value → List aC → Prop}
theorem m_common (ha : a < 2 ^ 63) (hb : b < 2 ^ 63) (hQ : Q (some (.long (lN (Nat.gcd b a)))) []) : callok (d + 1) 175 0 0 [.long (lN a), .long (lN b)] [] Q := by
  refine beg rfl (gs [6] ?_)
  have key : ∀ (f a' b' : Nat) (v8 v9 : Option Value), b' < f → a' < 2 ^ 63 → b' < 2 ^ 63 → Nat.gcd b' a' = Nat.gcd b a → wp (0, 0, callok d) (mcode 175) (qE 0 0 Q) 6 [some (.long (lN a)), none, some (.long (lN b)), none, some (.long (lN a')), none, some (.long (lN b')), none, v8, v9] [] [] 0 0 := by
    intro f
    induction f with
    | zero => intro a' b' v8 v9 h; omega
    | succ f ih =>
      intro a' b' v8 v9 h ha' hb' e
      refine gs [6] ?_
      refine br_c (fun c => ?_) (fun c => ?_)
      · have c' := (cmp0 hb').mp c
        subst c'
        rw [Nat.gcd_zero_left] at e
        rw [← e] at hQ
        exact fin0 (hQ)
      · have c' : ¬ b' = 0 := fun z => c ((cmp0 hb').mpr z)
        refine And.intro (fun z => c' ((pk_lEQ (b := 0) hb' (by omega)).mp z)) ?_
        have hr : a' % b' < b' := Nat.mod_lt _ (by omega)
        have h9 := ih b' (a' % b') (some (.long (lN (a' % b')))) none (by omega) hb' (by omega) (by rw [← Nat.gcd_rec]; exact e)
        rw [← pk_lRem ha' (by omega) hb'] at h9
        exact h9
  exact key (b + 1) a b none none (by omega) ha hb rfl
theorem m_lkDays (h6 : H ≤ 6) (h0 : 0 < H) (h5 : R ≤ 5) (h1 : 0 < R) (hm : ∀ k, k < H → mc k = nI (if M.testBit k = true then 1 else 0)) (hn : n ≤ 8) (hX : X ≤ 10) (hb : b < R) (hq : q < 2 ^ n) {s1 s2 : Int64}
    (hE : ∀ row, wp (0, 0, callok (d + 3)) (mcode 176) (qE 0 0 Q) 165 [some (.ref 0), some (.int (nI n)), some (.int (nI b)), some (.int v), some (.int (nI X)), some (.int u), some (.long s1), none, some (.long s2), none, some (.int (nI q)), some (.long (lN (wgM X q n))), none, some (.int (nI n))] [] (mw (nI H) (nI R) (dy + nI n) (nI S) (nI L) po rh rr (nI S8) (nI S2) kd (tbI kd M H R q th n) mc wn sd sp st tx rk rt rm2 rw2 row past (lyF pu 0 dy th mc wn) pin rows kept) 0 0) : ∀ row, wp (0, 0, callok (d + 3)) (mcode 176) (qE 0 0 Q) 101 [some (.ref 0), some (.int (nI n)), some (.int (nI b)), some (.int v), some (.int (nI X)), some (.int u), some (.long s1), none, some (.long s2), none, some (.int (nI q)), some (.long (lN 1)), none, some (.int (nI 0))] [] (mw (nI H) (nI R) dy (nI S) (nI L) po rh rr (nI S8) (nI S2) kd th mc wn sd sp st tx rk rt rm2 rw2 row past (lyF pu 0 dy th mc wn) pin rows kept) 0 0 := by
  have hq8 : q < 256 := Nat.lt_of_lt_of_le hq (p2_le n hn)
  have key := up (W := fun k => ∀ row, wp (0, 0, callok (d + 3)) (mcode 176) (qE 0 0 Q) 101 [some (.ref 0), some (.int (nI n)), some (.int (nI b)), some (.int v), some (.int (nI X)), some (.int u), some (.long s1), none, some (.long s2), none, some (.int (nI q)), some (.long (lN (wgM X q k))), none, some (.int (nI k))] [] (mw (nI H) (nI R) (dy + nI k) (nI S) (nI L) po rh rr (nI S8) (nI S2) kd (tbI kd M H R q th k) mc wn sd sp st tx rk rt rm2 rw2 row past (lyF pu 0 dy th mc wn) pin rows kept) 0 0) n ?_ ?_
  · intro row
    have z := key row
    have e0 : dy + nI 0 = dy := Int32.add_zero dy
    rw [e0] at z
    exact z
  · intro row
    refine gs [165] ?_
    refine br_f ((show ¬ nI n < nI n by exact nI_nlt (by omega) (by omega))) ?_
    exact hE row
  · intro k hk ih row
    have e10 : (10 : Int32) - nI X = nI (10 - X) := by rw [show (10 : Int32) = nI 10 from rfl, pk_sub hX]
    rw [wgM, tbI, nI_succ k, ← Int32.add_assoc] at ih
    refine gs [101] ?_
    refine br_t ((show nI k < nI n by exact nI_lt hk (by omega))) ?_
    refine Exists.intro [] (Exists.intro [.int (nI q), .int (nI k)] (Exists.intro ([]) (Exists.intro 0 (Exists.intro 0 (And.intro ⟨rfl, rfl, Nat.le_of_ble_eq_true rfl, rfl, rfl, rfl, trivial⟩ (And.intro (Nat.le_refl _) (And.intro (Nat.le_refl _) ?_)))))))
    refine m_has rfl rfl hq8 (by omega) (fun c => ?_) (fun c => ?_)
    · rw [p_nil]
      refine br_f ((by decide)) ?_
      rw [if_pos c, if_pos c, ← lN_mul, ← nI_l (n := X) (by omega)] at ih
      refine Exists.intro [] (Exists.intro [.int (nI q), .int (nI k)] (Exists.intro ([]) (Exists.intro 0 (Exists.intro 0 (And.intro ⟨rfl, rfl, Nat.le_of_ble_eq_true rfl, rfl, rfl, rfl, trivial⟩ (And.intro (Nat.le_refl _) (And.intro (Nat.le_refl _) ?_)))))))
      refine m_has rfl rfl hq8 (by omega) (fun c2 => ?_) (fun c2 => absurd c c2)
      rw [p_nil]
      refine br_f ((by decide)) ?_
      refine Exists.intro [0, 1, 2, 3, 4, 5, 6, 7, 8, 9, 10, 11, 12, 13, 14, 15, 16, 17, 18] (Exists.intro [.ref 0, .int (nI H - 1)] (Exists.intro ((mw (nI H) (nI R) (dy + nI k) (nI S) (nI L) po rh rr (nI S8) (nI S2) kd (tbI kd M H R q th k) mc wn sd sp st tx rk rt rm2 rw2 row past (lyF pu 0 dy th mc wn) pin rows kept)) (Exists.intro 0 (Exists.intro 0 (And.intro ⟨rfl, rfl, Nat.le_of_ble_eq_true rfl, rfl, rfl, rfl, ⟨0, _, rfl, rfl⟩⟩ (And.intro (Nat.le_refl _) (And.intro (Nat.le_refl _) ?_)))))))
      refine m_sneezes (a := H - 1) h1 h5 (by omega) (nI_m1 h0) ?_
      rw [q_all rfl]
      refine Exists.intro [0, 1, 2, 3, 4, 5, 6, 7, 8, 9, 10, 11, 12, 13, 14, 15, 16, 17, 18] (Exists.intro [.ref 0] (Exists.intro ((mw (nI H) (nI R) (dy + nI k) (nI S) (nI L) po rh rr (nI S8) (nI S2) kd (shT (tbI kd M H R q th k) R (H - 1)) mc wn sd sp st tx rk rt rm2 rw2 row past (lyF pu 0 dy th mc wn) pin rows kept)) (Exists.intro 0 (Exists.intro 0 (And.intro ⟨rfl, rfl, Nat.le_of_ble_eq_true rfl, rfl, rfl, rfl, ⟨0, _, rfl, rfl⟩⟩ (And.intro (Nat.le_refl _) (And.intro (Nat.le_refl _) ?_)))))))
      refine m_passes (M := M) h6 h5 h0 hm (fun r2 row g1 g2 => ?_)
      rw [q_all rfl]
      exact ih row
    · rw [p_nil]
      refine br_t ((rfl)) ?_
      rw [if_neg c, if_neg c, ← lN_mul, ← nI_l (n := 10 - X) (by omega), ← e10] at ih
      refine Exists.intro [] (Exists.intro [.int (nI q), .int (nI k)] (Exists.intro ([]) (Exists.intro 0 (Exists.intro 0 (And.intro ⟨rfl, rfl, Nat.le_of_ble_eq_true rfl, rfl, rfl, rfl, trivial⟩ (And.intro (Nat.le_refl _) (And.intro (Nat.le_refl _) ?_)))))))
      refine m_has rfl rfl hq8 (by omega) (fun c2 => absurd c2 c) (fun c2 => ?_)
      rw [p_nil]
      refine br_t ((rfl)) ?_
      refine Exists.intro [0, 1, 2, 3, 4, 5, 6, 7, 8, 9, 10, 11, 12, 13, 14, 15, 16, 17, 18] (Exists.intro [.ref 0] (Exists.intro ((mw (nI H) (nI R) (dy + nI k) (nI S) (nI L) po rh rr (nI S8) (nI S2) kd (tbI kd M H R q th k) mc wn sd sp st tx rk rt rm2 rw2 row past (lyF pu 0 dy th mc wn) pin rows kept)) (Exists.intro 0 (Exists.intro 0 (And.intro ⟨rfl, rfl, Nat.le_of_ble_eq_true rfl, rfl, rfl, rfl, ⟨0, _, rfl, rfl⟩⟩ (And.intro (Nat.le_refl _) (And.intro (Nat.le_refl _) ?_)))))))
      refine m_passes (M := M) h6 h5 h0 hm (fun r2 row g1 g2 => ?_)
      rw [q_all rfl]
      exact ih row
theorem y_likely (h6 : H ≤ 6) (h0 : 0 < H) (h5 : R ≤ 5) (h1 : 0 < R) (hm : ∀ k, k < H → mc k = nI (if M.testBit k = true then 1 else 0)) (hT : ∀ n b X, n ≤ 8 → b < R → X ≤ 10 → x = nI n → y = nI b → (¬ v < 0 ∧ ¬ 9 < v) → w = nI X → (¬ u < 0 ∧ ¬ 1 < u) → ∀ row pu, Q (some (.int (nI ((if u = 0 then (lkS kd th M H R n b v X (2 ^ n)) else 10 ^ n) / Nat.gcd (10 ^ n) (lkS kd th M H R n b v X (2 ^ n)))))) (mw (nI H) (nI R) dy (nI S) (nI L) po rh rr (nI S8) (nI S2) kd th mc wn sd sp st tx rk rt rm2 rw2 row past pu pin rows kept)) (hF : ¬ ((¬ x < 0 ∧ ¬ 8 < x) ∧ inR y R ∧ (¬ v < 0 ∧ ¬ 9 < v) ∧ (¬ w < 0 ∧ ¬ 10 < w) ∧ ¬ u < 0 ∧ ¬ 1 < u) → Q (some (.int (-1))) (mw (nI H) (nI R) dy (nI S) (nI L) po rh rr (nI S8) (nI S2) kd th mc wn sd sp st tx rk rt rm2 rw2 row past pu pin rows kept)) : callok (d + 4) 176 0 0 [.ref 0, .int x, .int y, .int v, .int w, .int u] (mw (nI H) (nI R) dy (nI S) (nI L) po rh rr (nI S8) (nI S2) kd th mc wn sd sp st tx rk rt rm2 rw2 row past pu pin rows kept) Q := by
  refine beg rfl (gs [60] ?_)
  refine Exists.intro [] (Exists.intro [.int x, .int 0, .int 8] (Exists.intro ([]) (Exists.intro 0 (Exists.intro 0 (And.intro ⟨rfl, rfl, Nat.le_of_ble_eq_true rfl, rfl, rfl, rfl, trivial⟩ (And.intro (Nat.le_refl _) (And.intro (Nat.le_refl _) ?_)))))))
  refine m_in (fun c c2 => ?_) (fun c => ?_)
  · rw [p_nil]
    refine br_f ((by decide)) ?_
    refine Exists.intro [0, 1, 2, 3, 4, 5, 6, 7, 8, 9, 10, 11, 12, 13, 14, 15, 16, 17, 18] (Exists.intro [.ref 0, .int y] (Exists.intro ((mw (nI H) (nI R) dy (nI S) (nI L) po rh rr (nI S8) (nI S2) kd th mc wn sd sp st tx rk rt rm2 rw2 row past pu pin rows kept)) (Exists.intro 0 (Exists.intro 0 (And.intro ⟨rfl, rfl, Nat.le_of_ble_eq_true rfl, rfl, rfl, rfl, ⟨0, _, rfl, rfl⟩⟩ (And.intro (Nat.le_refl _) (And.intro (Nat.le_refl _) ?_)))))))
    refine m_isRoom h5 h1 (fun c3 => ?_) (fun c3 => ?_)
    · rw [q_all rfl]
      refine br_f ((by decide)) ?_
      refine Exists.intro [] (Exists.intro [.int v, .int 0, .int 9] (Exists.intro ([]) (Exists.intro 0 (Exists.intro 0 (And.intro ⟨rfl, rfl, Nat.le_of_ble_eq_true rfl, rfl, rfl, rfl, trivial⟩ (And.intro (Nat.le_refl _) (And.intro (Nat.le_refl _) ?_)))))))
      refine m_in (fun c4 c5 => ?_) (fun c4 => ?_)
      · rw [p_nil]
        refine br_f ((by decide)) ?_
        refine Exists.intro [] (Exists.intro [.int w, .int 0, .int 10] (Exists.intro ([]) (Exists.intro 0 (Exists.intro 0 (And.intro ⟨rfl, rfl, Nat.le_of_ble_eq_true rfl, rfl, rfl, rfl, trivial⟩ (And.intro (Nat.le_refl _) (And.intro (Nat.le_refl _) ?_)))))))
        refine m_in (fun c6 c7 => ?_) (fun c6 => ?_)
        · rw [p_nil]
          refine br_f ((by decide)) ?_
          refine Exists.intro [] (Exists.intro [.int u, .int 0, .int 1] (Exists.intro ([]) (Exists.intro 0 (Exists.intro 0 (And.intro ⟨rfl, rfl, Nat.le_of_ble_eq_true rfl, rfl, rfl, rfl, trivial⟩ (And.intro (Nat.le_refl _) (And.intro (Nat.le_refl _) ?_)))))))
          refine m_in (fun c8 c9 => ?_) (fun c8 => ?_)
          · rw [p_nil]
            refine br_f ((by decide)) ?_
            obtain ⟨n, hn, rfl⟩ := nI_of2 (M := 8) (n := 8) rfl c (Int32.not_lt.mp c2)
            obtain ⟨b, hb, rfl⟩ := inR_of c3 (by omega)
            obtain ⟨X, hX, rfl⟩ := nI_of2 (M := 10) (n := 10) rfl c6 (Int32.not_lt.mp c7)
            have hq := hT n b X hn hb hX rfl rfl ⟨c4, c5⟩ rfl ⟨c8, c9⟩
            have h10 := p8_le n hn
            have hp0 : 0 < 10 ^ n := Nat.pow_pos (by omega)
            have h2n := p2_le n hn
            have hsl : (lkS kd th M H R n b v X (2 ^ n)) ≤ 25600000000 := Nat.le_trans (lkS_le hX _) (Nat.le_trans (Nat.mul_le_mul h2n h10) (by decide))
            refine up (W := fun k => wp (0, 0, callok (d + 3)) (mcode 176) (qE 0 0 Q) 60 [some (.ref 0), some (.int (nI n)), some (.int (nI b)), some (.int v), some (.int (nI X)), some (.int u), some (.long (lN 0)), none, some (.long (lN (10 ^ k))), none, some (.int (nI k)), none, none, none] [] (mw (nI H) (nI R) dy (nI S) (nI L) po rh rr (nI S8) (nI S2) kd th mc wn sd sp st tx rk rt rm2 rw2 row past pu pin rows kept) 0 0) n ?_ ?_
            · refine gs [83] ?_
              refine br_f ((show ¬ nI n < nI n by exact nI_nlt (by omega) (by omega))) ?_
              have key := up (W := fun q => ∀ (row pu : Nat → Int32) (v11 v12 v13 : Option Value), wp (0, 0, callok (d + 3)) (mcode 176) (qE 0 0 Q) 83 [some (.ref 0), some (.int (nI n)), some (.int (nI b)), some (.int v), some (.int (nI X)), some (.int u), some (.long (lN (lkS kd th M H R n b v X q))), none, some (.long (lN (10 ^ n))), none, some (.int (nI q)), v11, v12, v13] [] (mw (nI H) (nI R) dy (nI S) (nI L) po rh rr (nI S8) (nI S2) kd th mc wn sd sp st tx rk rt rm2 rw2 row past pu pin rows kept) 0 0) (2 ^ n) ?_ ?_
              · exact key row pu none none none
              · intro row pu v11 v12 v13
                refine gs [] ?_
                refine br_f ((show ¬ nI (2 ^ n) < (1 : Int32) <<< (nI n &&& 31) by rw [sh_pow n (by omega)]; exact nI_nlt (by omega) (by omega))) ?_
                have hq := hq row pu
                generalize (lkS kd th M H R n b v X (2 ^ n)) = sm at hq hsl ⊢
                generalize 10 ^ n = tn at hq h10 hp0 ⊢
                refine Exists.intro [] (Exists.intro [.long (lN sm), .long (lN tn)] (Exists.intro ([]) (Exists.intro 0 (Exists.intro 0 (And.intro ⟨rfl, rfl, Nat.le_of_ble_eq_true rfl, rfl, rfl, rfl, trivial⟩ (And.intro (Nat.le_refl _) (And.intro (Nat.le_refl _) ?_)))))))
                refine m_common (by omega) (by omega) ?_
                rw [p_nil]
                have hg0 : 0 < Nat.gcd tn sm := Nat.gcd_pos_of_pos_left _ hp0
                have hg1 : Nat.gcd tn sm ≤ tn := Nat.gcd_le_left _ hp0
                have hgn : ¬ lN (Nat.gcd tn sm) = 0 := fun z => absurd ((pk_lEQ (b := 0) (by omega) (by omega)).mp z) (by omega)
                refine br_c (fun c10 => ?_) (fun c10 => ?_)
                · rw [if_pos c10] at hq
                  refine And.intro hgn ?_
                  rw [← lN_i, ← pk_lDiv (by omega) hg0 (by omega)] at hq
                  exact fin0 (hq)
                · rw [if_neg c10] at hq
                  refine And.intro hgn ?_
                  rw [← lN_i, ← pk_lDiv (by omega) hg0 (by omega)] at hq
                  exact fin0 (hq)
              · intro q hq2 ih row pu v11 v12 v13
                refine gs [101] ?_
                refine br_t ((show nI q < (1 : Int32) <<< (nI n &&& 31) by rw [sh_pow n (by omega)]; exact nI_lt hq2 (by omega))) ?_
                refine Exists.intro [0, 1, 2, 3, 4, 5, 6, 7, 8, 9, 10, 11, 12, 13, 14, 15, 16, 17, 18] (Exists.intro [.ref 0] (Exists.intro ((mw (nI H) (nI R) dy (nI S) (nI L) po rh rr (nI S8) (nI S2) kd th mc wn sd sp st tx rk rt rm2 rw2 row past pu pin rows kept)) (Exists.intro 0 (Exists.intro 0 (And.intro ⟨rfl, rfl, Nat.le_of_ble_eq_true rfl, rfl, rfl, rfl, ⟨0, _, rfl, rfl⟩⟩ (And.intro (Nat.le_refl _) (And.intro (Nat.le_refl _) ?_)))))))
                refine m_puts ?_
                rw [q_all rfl]
                refine m_lkDays h6 h0 h5 h1 hm hn hX hb hq2 (fun row => ?_) row
                refine gs [83] ?_
                refine Exists.intro (b) (And.intro (rfl) (And.intro ⟨by omega, by omega⟩ ?_))
                rw [lkS, nI_succ q] at ih
                refine br_c (fun c10 => ?_) (fun c10 => ?_)
                · rw [if_pos c10, ← lN_add] at ih
                  refine Exists.intro [0, 1, 2, 3, 4, 5, 6, 7, 8, 9, 10, 11, 12, 13, 14, 15, 16, 17, 18] (Exists.intro [.ref 0] (Exists.intro ((mw (nI H) (nI R) (dy + nI n) (nI S) (nI L) po rh rr (nI S8) (nI S2) kd (tbI kd M H R q th n) mc wn sd sp st tx rk rt rm2 rw2 row past (lyF pu 0 dy th mc wn) pin rows kept)) (Exists.intro 0 (Exists.intro 0 (And.intro ⟨rfl, rfl, Nat.le_of_ble_eq_true rfl, rfl, rfl, rfl, ⟨0, _, rfl, rfl⟩⟩ (And.intro (Nat.le_refl _) (And.intro (Nat.le_refl _) ?_)))))))
                  refine m_puttingBack ?_
                  rw [q_all rfl]
                  exact ih row (lyF pu 0 dy th mc wn) _ _ _
                · rw [if_neg c10, ← lN_add] at ih
                  refine Exists.intro [0, 1, 2, 3, 4, 5, 6, 7, 8, 9, 10, 11, 12, 13, 14, 15, 16, 17, 18] (Exists.intro [.ref 0] (Exists.intro ((mw (nI H) (nI R) (dy + nI n) (nI S) (nI L) po rh rr (nI S8) (nI S2) kd (tbI kd M H R q th n) mc wn sd sp st tx rk rt rm2 rw2 row past (lyF pu 0 dy th mc wn) pin rows kept)) (Exists.intro 0 (Exists.intro 0 (And.intro ⟨rfl, rfl, Nat.le_of_ble_eq_true rfl, rfl, rfl, rfl, ⟨0, _, rfl, rfl⟩⟩ (And.intro (Nat.le_refl _) (And.intro (Nat.le_refl _) ?_)))))))
                  refine m_puttingBack ?_
                  rw [q_all rfl]
                  exact ih row (lyF pu 0 dy th mc wn) _ _ _
            · intro k hk ih
              refine gs [60] ?_
              refine br_t ((show nI k < nI n by exact nI_lt hk (by omega))) ?_
              rw [Nat.pow_succ, ← lN_mul, nI_succ k] at ih
              exact ih
          · rw [p_nil]
            refine br_t ((rfl)) ?_
            exact fin0 (hF (fun z => c8 z.2.2.2.2))
        · rw [p_nil]
          refine br_t ((rfl)) ?_
          exact fin0 (hF (fun z => c6 z.2.2.2.1))
      · rw [p_nil]
        refine br_t ((rfl)) ?_
        exact fin0 (hF (fun z => c4 z.2.2.1))
    · rw [q_all rfl]
      refine br_t ((rfl)) ?_
      exact fin0 (hF (fun z => c3 z.2.1))
  · rw [p_nil]
    refine br_t ((rfl)) ?_
    exact fin0 (hF (fun z => c z.1))
end MR
