/-! CHANCES: object, its trial at 1, now at 5 -/
abbrev cw (T N : NV) : List aC := ao 0 [.ref 1] :: (nv 1 T ++ nv 5 N)
theorem tl_days : ∀ n, n < 9 → ∀ h, h < 7 → (if (0 : Int32) < nI n + 2 - nI h then nI n + 2 - nI h else 0) = nI (n + 2 - h) := by decide +kernel
theorem sh_pow : ∀ n, n < 9 → (1 : Int32) <<< (nI n &&& 31) = nI (2 ^ n) := by decide +kernel
theorem bt8_has : ∀ a, a < 8 → ∀ m, m < 256 → ((nI m >>> (nI a &&& 31)) &&& 1 = 1 ↔ m.testBit a = true) := by decide +kernel
theorem pop_le : ∀ n, n < 9 → ∀ k, k < 2 ^ n → pop 10 k ≤ n := by decide +kernel
/-- sneezes by the bits of pat in the last house ahead of the days -/
def tbI (kd : Nat → Int32) (M H R pat : Nat) (th : Nat → Int32) : Nat → Nat → Int32
  | 0 => th
  | k + 1 => dayT kd (if pat.testBit k = true then shT (tbI kd M H R pat th k) R (H - 1) else tbI kd M H R pat th k) M H R
def wgt (x : Int32) (D k : Nat) : Int32 := powI x (pop 10 k) * powI (10 - x) (D - pop 10 k)
def wyR (kd th : Nat → Int32) (M H R n b : Nat) (v x : Int32) (D : Nat) : Nat → Nat → Int32 → Int32
  | 0, _, acc => acc
  | f + 1, k, acc => wyR kd th M H R n b v x D f (k + 1) (if 0 < wgt x D k then (if tbI kd M H R k th n b = v then acc + wgt x D k else acc) else acc)
def drX (Z D : Nat) : Nat := 7919 * Z + 6151 * D + 1
def drN (Z D : Nat) : Nat := drX Z D * drX Z D % 65521 / 2
theorem drN_lt (Z D : Nat) : drN Z D < 32761 := by
  unfold drN
  omega
/-- what a draw does -/
def acS (H R dr : Nat) (s : (Nat → Int32) × Nat) : (Nat → Int32) × Nat :=
  if dr / 64 % 6 = 0 then (upd s.1 (5 * (dr % H) + dr / 8 % R) (nI (dr / 512 % 10)), s.2)
  else if dr / 64 % 6 = 1 then (shT s.1 R (dr % H), s.2)
  else if dr / 64 % 6 = 2 then (s.1, s.2 ^^^ 2 ^ (dr % H))
  else s
/-- a century's days -/
def cyS (kd : Nat → Int32) (H R Z : Nat) (s : (Nat → Int32) × Nat) : Nat → (Nat → Int32) × Nat
  | 0 => s
  | k + 1 => (dayT kd (acS H R (drN Z k) (cyS kd H R Z s k)).1 (acS H R (drN Z k) (cyS kd H R Z s k)).2 H R, (acS H R (drN Z k) (cyS kd H R Z s k)).2)
theorem acS_64 {H R dr : Nat} {s : (Nat → Int32) × Nat} (h0 : 0 < H) (hH : H ≤ 6) (hs : s.2 < 64) : (acS H R dr s).2 < 64 := by
  have hm : dr % H < H := Nat.mod_lt _ h0
  unfold acS
  split
  · exact hs
  · split
    · exact hs
    · split
      · exact xor_64 _ hs _ (by omega)
      · exact hs
theorem cyS_64 {kd : Nat → Int32} {H R Z : Nat} {s : (Nat → Int32) × Nat} (h0 : 0 < H) (hH : H ≤ 6) (hs : s.2 < 64) : ∀ k, (cyS kd H R Z s k).2 < 64
  | 0 => hs
  | k + 1 => acS_64 h0 hH (cyS_64 h0 hH hs k)
section CH
variable {d : Nat} {kd th wi : Nat → Int32} {hs rm mb dy : Int32} {H R M a b n : Nat} {x y v w : Int32} {T : NV} {Q : Option Value → List aC → Prop}
theorem t_tellingDays (hx : x = nI n) (hn : n ≤ 8) (hH : H ≤ 6) (hQ : Q (some (.int (nI (n + 2 - H)))) (nc 0 kd th wi (nI H) rm mb dy)) : callok (d + 2) 1 0 0 [.ref 0, .int x] (nc 0 kd th wi (nI H) rm mb dy) Q := by
  subst hx
  refine beg rfl (gs [] ?_)
  refine Exists.intro [0, 1, 2, 3] (Exists.intro [.ref 0] (Exists.intro (nc 0 kd th wi (nI H) rm mb dy) (Exists.intro 0 (Exists.intro 0 (And.intro ⟨rfl, rfl, Nat.le_of_ble_eq_true rfl, rfl, rfl, rfl, ⟨0, _, rfl, rfl⟩⟩ (And.intro (Nat.le_refl _) (And.intro (Nat.le_refl _) ?_)))))))
  refine t_houses ?_
  refine And.intro ⟨Nat.le_of_ble_eq_true rfl, Nat.le_refl _, Nat.le_refl _⟩ ?_
  rw [← tl_days n (by omega) H (by omega)] at hQ
  exact fin0 (hQ)
theorem t_topBehind {pat : Nat} (hy : y = nI pat) (hx : x = nI n) (hv : v = nI b) (hn : n ≤ 8) (hp : pat < 256) (hb : b < 5) (hM : M < 64) (h0 : 0 < H) (hH : H ≤ 6) (h1 : 0 < R) (hR : R ≤ 5) (hQ : ∀ T, Q (some (.int (tbI kd M H R pat th n b))) (cw T (kd, th, wi, nI H, nI R, nI M, dy))) : callok (d + 5) 3 0 0 [.ref 0, .ref 5, .int y, .int x, .int v] (cw T (kd, th, wi, nI H, nI R, nI M, dy)) Q := by
  subst hx hy hv
  refine beg rfl (gs [11] ?_)
  refine Exists.intro [1, 2, 3, 4, 5, 6, 7, 8] (Exists.intro [.ref 0, .ref 4] (Exists.intro (nv 0 T ++ nc 4 kd th wi (nI H) (nI R) (nI M) dy) (Exists.intro 0 (Exists.intro 0 (And.intro ⟨rfl, rfl, Nat.le_of_ble_eq_true rfl, rfl, rfl, rfl, ⟨0, _, rfl, rfl⟩⟩ (And.intro (Nat.le_refl _) (And.intro (Nat.le_refl _) ?_)))))))
  refine t_become ?_
  refine up (W := fun k => wp (0, 0, callok (d + 4)) (mcode 3) (qE 0 0 Q) 11 [some (.ref 0), some (.ref 5), some (.int (nI pat)), some (.int (nI n)), some (.int (nI b)), some (.int (nI k))] [] (cw (kd, tbI kd M H R pat th k, wi, nI H, nI R, nI M, dy) (kd, th, wi, nI H, nI R, nI M, dy)) 0 0) n ?_ ?_
  · refine gs [11] ?_
    refine br_f ((nI_nlt (by omega) (by omega))) ?_
    refine Exists.intro [1, 2, 3, 4] (Exists.intro [.ref 0, .int 0, .int (nI b)] (Exists.intro (nc 0 kd (tbI kd M H R pat th n) wi (nI H) (nI R) (nI M) dy) (Exists.intro 0 (Exists.intro 0 (And.intro ⟨rfl, rfl, Nat.le_of_ble_eq_true rfl, rfl, rfl, rfl, ⟨0, _, rfl, rfl⟩⟩ (And.intro (Nat.le_refl _) (And.intro (Nat.le_refl _) ?_)))))))
    refine t_thing (a := 0) rfl rfl (by omega) hb ?_
    rw [show 5 * 0 + b = b by omega]
    exact fin0 (hQ (kd, tbI kd M H R pat th n, wi, nI H, nI R, nI M, dy))
  · intro k hk ih
    rw [nI_succ, tbI] at ih
    refine gs [11] ?_
    refine br_t ((nI_lt hk (by omega))) ?_
    refine br_c (fun c => ?_) (fun c => ?_)
    · rw [if_pos ((bt8_has k (by omega) pat hp).mp c)] at ih
      refine Exists.intro [1, 2, 3, 4] (Exists.intro [.ref 0] (Exists.intro (nc 0 kd (tbI kd M H R pat th k) wi (nI H) (nI R) (nI M) dy) (Exists.intro 0 (Exists.intro 0 (And.intro ⟨rfl, rfl, Nat.le_of_ble_eq_true rfl, rfl, rfl, rfl, ⟨0, _, rfl, rfl⟩⟩ (And.intro (Nat.le_refl _) (And.intro (Nat.le_refl _) ?_)))))))
      refine t_bottom h0 ?_
      show runS _ _ _ _ _ _ [some (.ref 0), some (.ref 5), some (.int (nI pat)), some (.int (nI n)), some (.int (nI b)), some (.int (nI k))] [.int (nI (H - 1)), .ref 1] (cw (kd, tbI kd M H R pat th k, wi, nI H, nI R, nI M, dy) (kd, th, wi, nI H, nI R, nI M, dy)) _ _
      refine Exists.intro [1, 2, 3, 4] (Exists.intro [.ref 0, .int (nI (H - 1))] (Exists.intro (nc 0 kd (tbI kd M H R pat th k) wi (nI H) (nI R) (nI M) dy) (Exists.intro 0 (Exists.intro 0 (And.intro ⟨rfl, rfl, Nat.le_of_ble_eq_true rfl, rfl, rfl, rfl, ⟨0, _, rfl, rfl⟩⟩ (And.intro (Nat.le_refl _) (And.intro (Nat.le_refl _) ?_)))))))
      refine t_shift rfl (by omega) h1 hR ?_
      show runS _ _ _ _ _ _ [some (.ref 0), some (.ref 5), some (.int (nI pat)), some (.int (nI n)), some (.int (nI b)), some (.int (nI k))] [] (cw (kd, shT (tbI kd M H R pat th k) R (H - 1), wi, nI H, nI R, nI M, dy) (kd, th, wi, nI H, nI R, nI M, dy)) _ _
      refine Exists.intro [1, 2, 3, 4] (Exists.intro [.ref 0] (Exists.intro (nc 0 kd (shT (tbI kd M H R pat th k) R (H - 1)) wi (nI H) (nI R) (nI M) dy) (Exists.intro 0 (Exists.intro 0 (And.intro ⟨rfl, rfl, Nat.le_of_ble_eq_true rfl, rfl, rfl, rfl, ⟨0, _, rfl, rfl⟩⟩ (And.intro (Nat.le_refl _) (And.intro (Nat.le_refl _) ?_)))))))
      refine t_comeUp hM hH hR (fun r2 g1 g2 => ?_) h0
      exact ih
    · rw [if_neg (fun z => c ((bt8_has k (by omega) pat hp).mpr z))] at ih
      refine Exists.intro [1, 2, 3, 4] (Exists.intro [.ref 0] (Exists.intro (nc 0 kd (tbI kd M H R pat th k) wi (nI H) (nI R) (nI M) dy) (Exists.intro 0 (Exists.intro 0 (And.intro ⟨rfl, rfl, Nat.le_of_ble_eq_true rfl, rfl, rfl, rfl, ⟨0, _, rfl, rfl⟩⟩ (And.intro (Nat.le_refl _) (And.intro (Nat.le_refl _) ?_)))))))
      refine t_comeUp hM hH hR (fun r2 g1 g2 => ?_) h0
      exact ih
theorem t_waysOf (hx : x = nI n) (hy : y = nI b) (hn : n ≤ 8) (hb : b < 5) (hM : M < 64) (h0 : 0 < H) (hH : H ≤ 6) (h1 : 0 < R) (hR : R ≤ 5) (h2 : 2 ≤ H) (hQ : ∀ T, Q (some (.int (wyR kd th M H R n b v w (n + 2 - H) (2 ^ (n + 2 - H)) 0 0))) (cw T (kd, th, wi, nI H, nI R, nI M, dy))) : callok (d + 6) 2 0 0 [.ref 0, .ref 5, .int x, .int y, .int v, .int w] (cw T (kd, th, wi, nI H, nI R, nI M, dy)) Q := by
  have hD : n + 2 - H < 9 := by omega
  have hpw : 2 ^ (n + 2 - H) ≤ 256 := (Nat.pow_le_pow_right (by omega) (by omega) : 2 ^ (n + 2 - H) ≤ 2 ^ 8)
  have key : ∀ (f k : Nat) (acc : Int32) (T : NV) (v9 v10 : Option Value), k + f = 2 ^ (n + 2 - H) → wyR kd th M H R n b v w (n + 2 - H) f k acc = wyR kd th M H R n b v w (n + 2 - H) (2 ^ (n + 2 - H)) 0 0 → wp (0, 0, callok (d + 5)) (mcode 2) (qE 0 0 Q) 13 [some (.ref 0), some (.ref 5), some (.int x), some (.int y), some (.int v), some (.int w), some (.int (nI (n + 2 - H))), some (.int acc), some (.int (nI k)), v9, v10] [] (cw T (kd, th, wi, nI H, nI R, nI M, dy)) 0 0 := by
    intro f
    induction f with
    | zero =>
      intro k acc T v9 v10 hk e
      refine gs [13] ?_
      refine br_f ((show ¬ nI k < (1 : Int32) <<< (nI (n + 2 - H) &&& 31) by rw [sh_pow _ hD]; exact nI_nlt (by omega) (by omega))) ?_
      rw [← e] at hQ
      exact fin0 (hQ T)
    | succ f ih =>
      intro k acc T v9 v10 hk e
      refine gs [13] ?_
      refine br_t ((show nI k < (1 : Int32) <<< (nI (n + 2 - H) &&& 31) by rw [sh_pow _ hD]; exact nI_lt (by omega) (by omega))) ?_
      refine Exists.intro [] (Exists.intro [.int (nI k)] (Exists.intro ([]) (Exists.intro 0 (Exists.intro 0 (And.intro ⟨rfl, rfl, Nat.le_of_ble_eq_true rfl, rfl, rfl, rfl, trivial⟩ (And.intro (Nat.le_refl _) (And.intro (Nat.le_refl _) ?_)))))))
      refine t_bitCount (h := []) rfl (by omega) ?_
      have hpl := pop_le (n + 2 - H) hD k (by omega)
      show runS _ _ _ _ _ _ [some (.ref 0), some (.ref 5), some (.int x), some (.int y), some (.int v), some (.int w), some (.int (nI (n + 2 - H))), some (.int acc), some (.int (nI k)), v9, v10] [.int (nI (pop 10 k))] (cw T (kd, th, wi, nI H, nI R, nI M, dy)) _ _
      refine Exists.intro [] (Exists.intro [.int w, .int (nI (pop 10 k))] (Exists.intro ([]) (Exists.intro 0 (Exists.intro 0 (And.intro ⟨rfl, rfl, Nat.le_of_ble_eq_true rfl, rfl, rfl, rfl, trivial⟩ (And.intro (Nat.le_refl _) (And.intro (Nat.le_refl _) ?_)))))))
      refine t_power rfl (by omega) ?_
      show runS _ _ _ _ _ _ [some (.ref 0), some (.ref 5), some (.int x), some (.int y), some (.int v), some (.int w), some (.int (nI (n + 2 - H))), some (.int acc), some (.int (nI k)), some (.int (nI (pop 10 k))), v10] [.int (powI w (pop 10 k))] (cw T (kd, th, wi, nI H, nI R, nI M, dy)) _ _
      refine Exists.intro [] (Exists.intro [.int (10 - w), .int (nI (n + 2 - H) - nI (pop 10 k))] (Exists.intro ([]) (Exists.intro 0 (Exists.intro 0 (And.intro ⟨rfl, rfl, Nat.le_of_ble_eq_true rfl, rfl, rfl, rfl, trivial⟩ (And.intro (Nat.le_refl _) (And.intro (Nat.le_refl _) ?_)))))))
      refine t_power (pk_sub hpl) (by omega) ?_
      show runS _ _ _ _ _ _ [some (.ref 0), some (.ref 5), some (.int x), some (.int y), some (.int v), some (.int w), some (.int (nI (n + 2 - H))), some (.int acc), some (.int (nI k)), some (.int (nI (pop 10 k))), v10] [.int (powI (10 - w) (n + 2 - H - pop 10 k)), .int (powI w (pop 10 k))] (cw T (kd, th, wi, nI H, nI R, nI M, dy)) _ _
      rw [wyR] at e
      refine br_c (fun c => ?_) (fun c => ?_)
      · rw [if_pos (show 0 < wgt w (n + 2 - H) k from c)] at e
        refine Exists.intro [0, 1, 2, 3, 4, 5, 6, 7, 8] (Exists.intro [.ref 0, .ref 5, .int (nI k), .int x, .int y] (Exists.intro (cw T (kd, th, wi, nI H, nI R, nI M, dy)) (Exists.intro 0 (Exists.intro 0 (And.intro ⟨rfl, rfl, Nat.le_of_ble_eq_true rfl, rfl, rfl, rfl, ⟨0, _, rfl, rfl⟩⟩ (And.intro (Nat.le_refl _) (And.intro (Nat.le_refl _) ?_)))))))
        refine t_topBehind rfl hx hy hn (by omega) hb hM h0 hH h1 hR (fun T => ?_)
        show runS _ _ _ _ _ _ [some (.ref 0), some (.ref 5), some (.int x), some (.int y), some (.int v), some (.int w), some (.int (nI (n + 2 - H))), some (.int acc), some (.int (nI k)), some (.int (nI (pop 10 k))), some (.int (wgt w (n + 2 - H) k))] [.int (tbI kd M H R k th n b)] (cw T (kd, th, wi, nI H, nI R, nI M, dy)) _ _
        refine br_c (fun c2 => ?_) (fun c2 => ?_)
        · rw [if_pos c2] at e
          have h9 := ih (k + 1) (acc + wgt w (n + 2 - H) k) T (some (.int (nI (pop 10 k)))) (some (.int (wgt w (n + 2 - H) k))) (by omega) e
          rw [nI_succ k] at h9
          exact h9
        · rw [if_neg c2] at e
          have h9 := ih (k + 1) acc T (some (.int (nI (pop 10 k)))) (some (.int (wgt w (n + 2 - H) k))) (by omega) e
          rw [nI_succ k] at h9
          exact h9
      · rw [if_neg (show ¬ 0 < wgt w (n + 2 - H) k from c)] at e
        have h9 := ih (k + 1) acc T (some (.int (nI (pop 10 k)))) (some (.int (wgt w (n + 2 - H) k))) (by omega) e
        rw [nI_succ k] at h9
        exact h9
  refine beg rfl (gs [13] ?_)
  refine Exists.intro [5, 6, 7, 8] (Exists.intro [.ref 0, .int x] (Exists.intro (nc 0 kd th wi (nI H) (nI R) (nI M) dy) (Exists.intro 0 (Exists.intro 0 (And.intro ⟨rfl, rfl, Nat.le_of_ble_eq_true rfl, rfl, rfl, rfl, trivial⟩ (And.intro (Nat.le_refl _) (And.intro (Nat.le_refl _) ?_)))))))
  refine t_tellingDays hx hn hH ?_
  exact key (2 ^ (n + 2 - H)) 0 0 T none none (by omega) rfl
theorem t_modulo (hx : x = nI a) (hy : y = nI b) (ha : a < 2 ^ 31) (h0 : 0 < b) (hb : b < 2 ^ 31) (hQ : Q (some (.int (nI (a % b)))) []) : callok (d + 1) 7 0 0 [.int x, .int y] [] Q := by
  subst hx hy
  refine beg rfl (gs [] ?_)
  refine br_t ((show (0 : Int32) < nI b from nI_lt (a := 0) h0 hb)) ?_
  refine And.intro (nI_ne0 h0 hb) ?_
  rw [← pk_rem ha h0 hb] at hQ
  exact fin0 (hQ)
theorem t_draw {Z D : Nat} (hx : x = nI Z) (hy : y = nI D) (hZ : Z ≤ 9999) (hD : D < 60) (hQ : Q (some (.int (nI (drN Z D)))) []) : callok (d + 1) 5 0 0 [.int x, .int y] [] Q := by
  subst hx hy
  refine beg rfl (gs [] ?_)
  refine And.intro (by decide) ?_
  refine And.intro (by decide) ?_
  have hX : drX Z D < 100000000 := by unfold drX; omega
  have hXX : drX Z D * drX Z D < 2 ^ 63 := by
    have := Nat.mul_le_mul (Nat.le_of_lt hX) (Nat.le_of_lt hX)
    omega
  have e1 : (7919 : Int64) * (nI Z).toInt64 + 6151 * (nI D).toInt64 + 1 = lN (drX Z D) := by
    rw [nI_l (by omega), nI_l (by omega), show (7919 : Int64) = lN 7919 from rfl, show (6151 : Int64) = lN 6151 from rfl, show (1 : Int64) = lN 1 from rfl, lN_mul, lN_mul, lN_add, lN_add]
    rfl
  have e2 : lN (drX Z D) * lN (drX Z D) - lN (drX Z D) * lN (drX Z D) / 65521 * 65521 = lN (drX Z D * drX Z D % 65521) := by
    rw [lN_mul, show (65521 : Int64) = lN 65521 from rfl, pk_lRem hXX (by omega) (by omega)]
  have e3 : lN (drX Z D * drX Z D % 65521) / 2 = lN (drN Z D) := by
    rw [show (2 : Int64) = lN 2 from rfl, pk_lDiv (by omega) (by omega) (by omega)]
    rfl
  refine fin0 (h := []) ?_
  have e4 : ((((7919 : Int64) * (nI Z).toInt64 + 6151 * (nI D).toInt64 + 1) * ((7919 : Int64) * (nI Z).toInt64 + 6151 * (nI D).toInt64 + 1) - ((7919 : Int64) * (nI Z).toInt64 + 6151 * (nI D).toInt64 + 1) * ((7919 : Int64) * (nI Z).toInt64 + 6151 * (nI D).toInt64 + 1) / 65521 * 65521) / 2).toInt32 = nI (drN Z D) := by
    rw [e1, e2, e3, lN_i]
  show Q (some (.int ((((7919 : Int64) * (nI Z).toInt64 + 6151 * (nI D).toInt64 + 1) * ((7919 : Int64) * (nI Z).toInt64 + 6151 * (nI D).toInt64 + 1) - ((7919 : Int64) * (nI Z).toInt64 + 6151 * (nI D).toInt64 + 1) * ((7919 : Int64) * (nI Z).toInt64 + 6151 * (nI D).toInt64 + 1) / 65521 * 65521) / 2).toInt32)) []
  rw [e4]
  exact hQ
theorem t_actBy {dr : Nat} (hx : x = nI dr) (hd : dr < 40000) (hM : M < 64) (h0 : 0 < H) (hH : H ≤ 6) (h1 : 0 < R) (hR : R ≤ 5) (hQ : Q none (nc 0 kd (acS H R dr (th, M)).1 wi (nI H) (nI R) (nI (acS H R dr (th, M)).2) dy)) : callok (d + 3) 6 0 0 [.ref 0, .int x] (nc 0 kd th wi (nI H) (nI R) (nI M) dy) Q := by
  subst hx
  have hh : dr % H < H := Nat.mod_lt _ h0
  have hr : dr / 8 % R < R := Nat.mod_lt _ h1
  refine beg rfl (gs [] ?_)
  refine Exists.intro [0, 1, 2, 3] (Exists.intro [.ref 0] (Exists.intro (nc 0 kd th wi (nI H) (nI R) (nI M) dy) (Exists.intro 0 (Exists.intro 0 (And.intro ⟨rfl, rfl, Nat.le_of_ble_eq_true rfl, rfl, rfl, rfl, ⟨0, _, rfl, rfl⟩⟩ (And.intro (Nat.le_refl _) (And.intro (Nat.le_refl _) ?_)))))))
  refine t_houses ?_
  refine Exists.intro [] (Exists.intro [.int (nI dr), .int (nI H)] (Exists.intro ([]) (Exists.intro 0 (Exists.intro 0 (And.intro ⟨rfl, rfl, Nat.le_of_ble_eq_true rfl, rfl, rfl, rfl, trivial⟩ (And.intro (Nat.le_refl _) (And.intro (Nat.le_refl _) ?_)))))))
  refine t_modulo rfl rfl (by omega) h0 (by omega) ?_
  show runS _ _ _ _ _ _ [some (.ref 0), some (.int (nI dr)), none, none] [.int (nI (dr % H))] (nc 0 kd th wi (nI H) (nI R) (nI M) dy) _ _
  refine And.intro (by decide) ?_
  have e8 : nI dr / 8 = nI (dr / 8) := by rw [show (8 : Int32) = nI 8 from rfl, pk_div (by omega) (by omega) (by omega)]
  refine Exists.intro [0, 1, 2, 3] (Exists.intro [.ref 0] (Exists.intro (nc 0 kd th wi (nI H) (nI R) (nI M) dy) (Exists.intro 0 (Exists.intro 0 (And.intro ⟨rfl, rfl, Nat.le_of_ble_eq_true rfl, rfl, rfl, rfl, ⟨0, _, rfl, rfl⟩⟩ (And.intro (Nat.le_refl _) (And.intro (Nat.le_refl _) ?_)))))))
  refine t_rooms ?_
  refine Exists.intro [] (Exists.intro [.int (nI dr / 8), .int (nI R)] (Exists.intro ([]) (Exists.intro 0 (Exists.intro 0 (And.intro ⟨rfl, rfl, Nat.le_of_ble_eq_true rfl, rfl, rfl, rfl, trivial⟩ (And.intro (Nat.le_refl _) (And.intro (Nat.le_refl _) ?_)))))))
  refine t_modulo e8 rfl (by omega) h1 (by omega) ?_
  show runS _ _ _ _ _ _ [some (.ref 0), some (.int (nI dr)), some (.int (nI (dr % H))), none] [.int (nI (dr / 8 % R))] (nc 0 kd th wi (nI H) (nI R) (nI M) dy) _ _
  refine And.intro (by decide) ?_
  refine And.intro (by decide) ?_
  have e64 : nI dr / 64 - nI dr / 64 / 6 * 6 = nI (dr / 64 % 6) := by rw [show (64 : Int32) = nI 64 from rfl, pk_div (by omega) (by omega) (by omega), show (6 : Int32) = nI 6 from rfl, pk_rem (by omega) (by omega) (by omega)]
  have eI : (nI dr / 64 - nI dr / 64 / 6 * 6).toInt = ((dr / 64 % 6 : Nat) : Int) := by rw [e64]; exact nI_toInt (by omega)
  unfold acS at hQ
  refine And.intro (fun c => ?_) (fun j t hj hc => ?_)
  · have c' : (nI dr / 64 - nI dr / 64 / 6 * 6).toInt < 0 ∨ 2 < (nI dr / 64 - nI dr / 64 / 6 * 6).toInt := c
    rw [eI] at c'
    rw [if_neg (by omega), if_neg (by omega), if_neg (by omega)] at hQ
    exact fin0 (hQ)
  · have c' : (nI dr / 64 - nI dr / 64 / 6 * 6).toInt = 0 + (j : Int) := hc
    rw [eI] at c'
    match j, hj with
    | 0, hj =>
      cases hj
      rw [if_pos (by omega)] at hQ
      refine And.intro (by decide) ?_
      refine And.intro (by decide) ?_
      have e5 : nI dr / 512 - nI dr / 512 / 10 * 10 = nI (dr / 512 % 10) := by rw [show (512 : Int32) = nI 512 from rfl, pk_div (by omega) (by omega) (by omega), show (10 : Int32) = nI 10 from rfl, pk_rem (by omega) (by omega) (by omega)]
      refine Exists.intro [0, 1, 2, 3] (Exists.intro [.ref 0, .int (nI (dr % H)), .int (nI (dr / 8 % R)), .int (nI dr / 512 - nI dr / 512 / 10 * 10)] (Exists.intro (nc 0 kd th wi (nI H) (nI R) (nI M) dy) (Exists.intro 0 (Exists.intro 0 (And.intro ⟨rfl, rfl, Nat.le_of_ble_eq_true rfl, rfl, rfl, rfl, ⟨0, _, rfl, rfl⟩⟩ (And.intro (Nat.le_refl _) (And.intro (Nat.le_refl _) ?_)))))))
      refine t_place rfl rfl (by omega) (by omega) ?_
      rw [e5]
      exact fin0 (hQ)
    | 1, hj =>
      cases hj
      rw [if_neg (by omega), if_pos (by omega)] at hQ
      refine Exists.intro [0, 1, 2, 3] (Exists.intro [.ref 0, .int (nI (dr % H))] (Exists.intro (nc 0 kd th wi (nI H) (nI R) (nI M) dy) (Exists.intro 0 (Exists.intro 0 (And.intro ⟨rfl, rfl, Nat.le_of_ble_eq_true rfl, rfl, rfl, rfl, ⟨0, _, rfl, rfl⟩⟩ (And.intro (Nat.le_refl _) (And.intro (Nat.le_refl _) ?_)))))))
      refine t_shift rfl (by omega) h1 hR ?_
      exact fin0 (hQ)
    | 2, hj =>
      cases hj
      rw [if_neg (by omega), if_neg (by omega), if_pos (by omega)] at hQ
      refine Exists.intro [0, 1, 2, 3] (Exists.intro [.ref 0, .int (nI (dr % H))] (Exists.intro (nc 0 kd th wi (nI H) (nI R) (nI M) dy) (Exists.intro 0 (Exists.intro 0 (And.intro ⟨rfl, rfl, Nat.le_of_ble_eq_true rfl, rfl, rfl, rfl, ⟨0, _, rfl, rfl⟩⟩ (And.intro (Nat.le_refl _) (And.intro (Nat.le_refl _) ?_)))))))
      refine t_toggleMouse rfl (by omega) hM ?_
      exact fin0 (hQ)
    | j + 3, hj => simp at hj
theorem t_liveCentury {Z : Nat} (hx : x = nI Z) (hy : y = nI n) (hZ : Z ≤ 9999) (hn : n ≤ 60) (hM : M < 64) (h0 : 0 < H) (hH : H ≤ 6) (h1 : 0 < R) (hR : R ≤ 5) (hQ : Q none (nc 0 kd (cyS kd H R Z (th, M) n).1 wi (nI H) (nI R) (nI (cyS kd H R Z (th, M) n).2) dy)) : callok (d + 5) 4 0 0 [.ref 0, .int x, .int y] (nc 0 kd th wi (nI H) (nI R) (nI M) dy) Q := by
  subst hx hy
  refine beg rfl (gs [2] ?_)
  refine up (W := fun k => wp (0, 0, callok (d + 4)) (mcode 4) (qE 0 0 Q) 2 [some (.ref 0), some (.int (nI Z)), some (.int (nI n)), some (.int (nI k))] [] (nc 0 kd (cyS kd H R Z (th, M) k).1 wi (nI H) (nI R) (nI (cyS kd H R Z (th, M) k).2) dy) 0 0) n ?_ ?_
  · refine gs [2] ?_
    refine br_f ((nI_nlt (by omega) (by omega))) ?_
    exact fin0 (hQ)
  · intro k hk ih
    have h64 := cyS_64 (kd := kd) (R := R) (Z := Z) (s := (th, M)) h0 hH hM k
    have h64' := acS_64 (R := R) (dr := drN Z k) h0 hH h64
    refine gs [2] ?_
    refine br_t ((nI_lt hk (by omega))) ?_
    refine Exists.intro [] (Exists.intro [.int (nI Z), .int (nI k)] (Exists.intro ([]) (Exists.intro 0 (Exists.intro 0 (And.intro ⟨rfl, rfl, Nat.le_of_ble_eq_true rfl, rfl, rfl, rfl, trivial⟩ (And.intro (Nat.le_refl _) (And.intro (Nat.le_refl _) ?_)))))))
    refine t_draw rfl rfl hZ (by omega) ?_
    have hdr := drN_lt Z k
    refine Exists.intro [0, 1, 2, 3] (Exists.intro [.ref 0, .int (nI (drN Z k))] (Exists.intro (nc 0 kd (cyS kd H R Z (th, M) k).1 wi (nI H) (nI R) (nI (cyS kd H R Z (th, M) k).2) dy) (Exists.intro 0 (Exists.intro 0 (And.intro ⟨rfl, rfl, Nat.le_of_ble_eq_true rfl, rfl, rfl, rfl, trivial⟩ (And.intro (Nat.le_refl _) (And.intro (Nat.le_refl _) ?_)))))))
    refine t_actBy rfl (by omega) h64 h0 hH h1 hR ?_
    show runS _ _ _ _ _ _ [some (.ref 0), some (.int (nI Z)), some (.int (nI n)), some (.int (nI k))] [] (nc 0 kd (acS H R (drN Z k) (cyS kd H R Z (th, M) k)).1 wi (nI H) (nI R) (nI (acS H R (drN Z k) (cyS kd H R Z (th, M) k)).2) dy) _ _
    refine Exists.intro [0, 1, 2, 3] (Exists.intro [.ref 0] (Exists.intro (nc 0 kd (acS H R (drN Z k) (cyS kd H R Z (th, M) k)).1 wi (nI H) (nI R) (nI (acS H R (drN Z k) (cyS kd H R Z (th, M) k)).2) dy) (Exists.intro 0 (Exists.intro 0 (And.intro ⟨rfl, rfl, Nat.le_of_ble_eq_true rfl, rfl, rfl, rfl, ⟨0, _, rfl, rfl⟩⟩ (And.intro (Nat.le_refl _) (And.intro (Nat.le_refl _) ?_)))))))
    refine t_comeUp h64' hH hR (fun r2 g1 g2 => ?_) h0
    rw [nI_succ, cyS] at ih
    exact ih
end CH
