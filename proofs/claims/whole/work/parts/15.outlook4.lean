/-! OUTLOOK: which room tells most. vl v b: what stands in house a's room that goes by room b of the last house, were that v -/
def gB (vl : Nat → Nat → Nat) (b : Nat) : Nat → Nat
  | 0 => 0
  | k + 1 => gB vl b k ||| 2 ^ vl k b
theorem bt_orB : ∀ k, k < 10 → ∀ m, m < 1024 → nI m ||| ((1 : Int32) <<< (nI k &&& 31)) = nI (m ||| 2 ^ k) ∧ m ||| 2 ^ k < 1024 := by decide +kernel
theorem gB_lt {vl : Nat → Nat → Nat} {b : Nat} (h : ∀ v, v < 10 → vl v b < 10) : ∀ k, k ≤ 10 → gB vl b k < 1024
  | 0, _ => by rw [gB]; omega
  | k + 1, hk => (bt_orB _ (h k (by omega)) _ (gB_lt h k (by omega))).2
/-- the row of bits with v = k gone through for the rooms below b -/
def gR (vl : Nat → Nat → Nat) (R k b : Nat) : Nat → Int32 := fun j => if j < b then nI (gB vl j (k + 1)) else if j < R then nI (gB vl j k) else 0
theorem gR_next {vl : Nat → Nat → Nat} {R k : Nat} : gR vl R k R = gR vl R (k + 1) 0 := by
  funext j
  unfold gR
  by_cases h : j < R
  · rw [if_pos h, if_neg (by omega), if_pos h]
  · rw [if_neg h, if_neg h, if_neg (by omega), if_neg h]
theorem gR_step {vl : Nat → Nat → Nat} {R k b : Nat} : upd (gR vl R k b) b (nI (gB vl b (k + 1))) = gR vl R k (b + 1) := by
  funext j
  by_cases e : j = b
  · rw [e, up_s]
    unfold gR
    rw [if_pos (by omega)]
  · rw [up_n _ _ e]
    unfold gR
    by_cases c : j < b
    · rw [if_pos c, if_pos (by omega)]
    · rw [if_neg c, if_neg (show ¬ j < b + 1 by omega)]
def mtR (vl : Nat → Nat → Nat) : Nat → Nat → Int32 × Int32 → Int32 × Int32
  | 0, _, s => s
  | f + 1, b, s => mtR vl f (b + 1) (if s.1 < nI (pop 10 (gB vl b 10)) then (nI (pop 10 (gB vl b 10)), nI b) else s)
section OX
variable {d : Nat} {kd th wi : Nat → Int32} {hs rm mb dy : Int32} {H R M a b n : Nat} {x y v w : Int32} {T : NV} {mby vby : Nat → Int32} {Q : Option Value → List aC → Prop} {vl : Nat → Nat → Nat}
theorem t_gatherValues (hx : x = nI n) (hy : y = nI a) (ha : a < H) (hn : n ≤ 1000) (hM : M < 64) (hH : H ≤ 6) (hR : R ≤ 5)
    (hv : ∀ k, k < 10 → ∀ b, b < R → vl k b < 10 ∧ (itT kd M H R n (plA (nI k) th (H - 1) R)) (5 * a + upA kd R a (H - 1 - a) b) = nI (vl k b))
    (hQ : ∀ T, Q none (ow T mby (gR vl R 10 0) (kd, th, wi, nI H, nI R, nI M, dy))) : callok (d + 6) 63 0 0 [.ref 0, .ref 7, .int x, .int y] (ow T mby vby (kd, th, wi, nI H, nI R, nI M, dy)) Q := by
  have h0 : 0 < H := by omega
  have kB : ∀ (k : Nat), k < 10 → (∀ T v6, wp (0, 0, callok (d + 5)) (mcode 63) (qE 0 0 Q) 98 [some (.ref 0), some (.ref 7), some (.int x), some (.int y), some (.int (nI (H - 1))), some (.int (nI k)), v6] [] (ow T mby (gR vl R k R) (kd, th, wi, nI H, nI R, nI M, dy)) 0 0) → wp (0, 0, callok (d + 5)) (mcode 63) (qE 0 0 Q) 54 [some (.ref 0), some (.ref 7), some (.int x), some (.int y), some (.int (nI (H - 1))), some (.int (nI k)), some (.int (nI 0))] [] (ow (kd, (itT kd M H R n (plA (nI k) th (H - 1) R)), wi, nI H, nI R, nI M, dy) mby (gR vl R k 0) (kd, th, wi, nI H, nI R, nI M, dy)) 0 0 := by
    intro k hk hE
    refine up (W := fun b => wp (0, 0, callok (d + 5)) (mcode 63) (qE 0 0 Q) 54 [some (.ref 0), some (.ref 7), some (.int x), some (.int y), some (.int (nI (H - 1))), some (.int (nI k)), some (.int (nI b))] [] (ow (kd, (itT kd M H R n (plA (nI k) th (H - 1) R)), wi, nI H, nI R, nI M, dy) mby (gR vl R k b) (kd, th, wi, nI H, nI R, nI M, dy)) 0 0) R ?_ ?_
    · refine gs [54, 98] ?_
      refine Exists.intro [7, 8, 9, 10] (Exists.intro [.ref 0] (Exists.intro (nc 0 kd th wi (nI H) (nI R) (nI M) dy) (Exists.intro 0 (Exists.intro 0 (And.intro ⟨rfl, rfl, Nat.le_of_ble_eq_true rfl, rfl, rfl, rfl, ⟨0, _, rfl, rfl⟩⟩ (And.intro (Nat.le_refl _) (And.intro (Nat.le_refl _) ?_)))))))
      refine t_rooms ?_
      refine br_f ((show ¬ nI R < nI R from nI_nlt (by omega) (by omega))) ?_
      exact hE _ _
    · intro b hb ih
      obtain ⟨g1, g2⟩ := hv k hk b hb
      refine gs [54, 98] ?_
      refine Exists.intro [7, 8, 9, 10] (Exists.intro [.ref 0] (Exists.intro (nc 0 kd th wi (nI H) (nI R) (nI M) dy) (Exists.intro 0 (Exists.intro 0 (And.intro ⟨rfl, rfl, Nat.le_of_ble_eq_true rfl, rfl, rfl, rfl, ⟨0, _, rfl, rfl⟩⟩ (And.intro (Nat.le_refl _) (And.intro (Nat.le_refl _) ?_)))))))
      refine t_rooms ?_
      refine br_t ((show nI b < nI R from nI_lt hb (by omega))) ?_
      refine Exists.intro (b) (And.intro (rfl) (And.intro ⟨by omega, by omega⟩ ?_))
      refine Exists.intro [7, 8, 9, 10] (Exists.intro [.ref 0, .int (nI (H - 1)), .int (nI b), .int y] (Exists.intro (nc 0 kd th wi (nI H) (nI R) (nI M) dy) (Exists.intro 0 (Exists.intro 0 (And.intro ⟨rfl, rfl, Nat.le_of_ble_eq_true rfl, rfl, rfl, rfl, ⟨0, _, rfl, rfl⟩⟩ (And.intro (Nat.le_refl _) (And.intro (Nat.le_refl _) ?_)))))))
      refine t_roomAbove (A := a) (n := H - 1 - a) (by rw [show a + (H - 1 - a) = H - 1 by omega]) rfl hy (by omega) hb hR ?_
      have hup : upA kd R a (H - 1 - a) b < R := upA_lt _ _ hb
      show runS _ _ _ _ _ _ [some (.ref 0), some (.ref 7), some (.int x), some (.int y), some (.int (nI (H - 1))), some (.int (nI k)), some (.int (nI b))] [.int (nI (upA kd R a (H - 1 - a) b)), .int y, .ref 1, .int 1, .int (gR vl R k b b), .int (nI b), .ref 6] (ow (kd, (itT kd M H R n (plA (nI k) th (H - 1) R)), wi, nI H, nI R, nI M, dy) mby (gR vl R k b) (kd, th, wi, nI H, nI R, nI M, dy)) _ _
      refine Exists.intro [1, 2, 3, 4] (Exists.intro [.ref 0, .int y, .int (nI (upA kd R a (H - 1 - a) b))] (Exists.intro (nc 0 kd (itT kd M H R n (plA (nI k) th (H - 1) R)) wi (nI H) (nI R) (nI M) dy) (Exists.intro 0 (Exists.intro 0 (And.intro ⟨rfl, rfl, Nat.le_of_ble_eq_true rfl, rfl, rfl, rfl, ⟨0, _, rfl, rfl⟩⟩ (And.intro (Nat.le_refl _) (And.intro (Nat.le_refl _) ?_)))))))
      refine t_thing hy rfl (by omega) (by omega) ?_
      rw [g2]
      refine Exists.intro (b) (And.intro (rfl) (And.intro ⟨by omega, by omega⟩ ?_))
      have e1 : gR vl R k b b = nI (gB vl b k) := by
        unfold gR
        rw [if_neg (by omega), if_pos hb]
      have e2 := (bt_orB (vl k b) g1 (gB vl b k) (gB_lt (fun v hv' => (hv v hv' b hb).1) k (by omega))).1
      rw [nI_succ b, ← gR_step, gB, ← e2, ← e1] at ih
      exact ih
  have kV := up (W := fun k => ∀ T v6, wp (0, 0, callok (d + 5)) (mcode 63) (qE 0 0 Q) 17 [some (.ref 0), some (.ref 7), some (.int x), some (.int y), some (.int (nI (H - 1))), some (.int (nI k)), v6] [] (ow T mby (gR vl R k 0) (kd, th, wi, nI H, nI R, nI M, dy)) 0 0) 10 ?_ ?_
  · refine beg rfl (gs [17] ?_)
    refine Exists.intro [6] (Exists.intro [.ref 0, .int 0] (Exists.intro ([ai 5 vby]) (Exists.intro 0 (Exists.intro 0 (And.intro ⟨rfl, rfl, Nat.le_of_ble_eq_true rfl, rfl, rfl, rfl, trivial⟩ (And.intro (Nat.le_refl _) (And.intro (Nat.le_refl _) ?_)))))))
    refine t_fill (by omega) ?_
    show runS _ _ _ _ _ _ [some (.ref 0), some (.ref 7), some (.int x), some (.int y), none, none, none] [] (ow T mby (fun _ => 0) (kd, th, wi, nI H, nI R, nI M, dy)) _ _
    refine Exists.intro [7, 8, 9, 10] (Exists.intro [.ref 0] (Exists.intro (nc 0 kd th wi (nI H) (nI R) (nI M) dy) (Exists.intro 0 (Exists.intro 0 (And.intro ⟨rfl, rfl, Nat.le_of_ble_eq_true rfl, rfl, rfl, rfl, ⟨0, _, rfl, rfl⟩⟩ (And.intro (Nat.le_refl _) (And.intro (Nat.le_refl _) ?_)))))))
    refine t_bottom h0 ?_
    have e0 : gR vl R 0 0 = fun _ => 0 := by
      funext j
      unfold gR
      rw [if_neg (by omega)]
      split <;> rfl
    have h9 := kV T none
    rw [e0] at h9
    exact h9
  · intro T v6
    refine gs [17] ?_
    refine br_f ((show ¬ nI 10 < (10 : Int32) by decide)) ?_
    exact fin0 (hQ T)
  · intro k hk ih T v6
    refine gs [17, 54] ?_
    refine br_t ((show nI k < (10 : Int32) from nI_lt (b := 10) hk (by omega))) ?_
    refine Exists.intro [1, 2, 3, 4, 7, 8, 9, 10] (Exists.intro [.ref 0, .ref 4] (Exists.intro (nv 0 T ++ nc 4 kd th wi (nI H) (nI R) (nI M) dy) (Exists.intro 0 (Exists.intro 0 (And.intro ⟨rfl, rfl, Nat.le_of_ble_eq_true rfl, rfl, rfl, rfl, ⟨0, _, rfl, rfl⟩⟩ (And.intro (Nat.le_refl _) (And.intro (Nat.le_refl _) ?_)))))))
    refine t_become ?_
    show runS _ _ _ _ _ _ [some (.ref 0), some (.ref 7), some (.int x), some (.int y), some (.int (nI (H - 1))), some (.int (nI k)), v6] [] (ow (kd, th, wi, nI H, nI R, nI M, dy) mby (gR vl R k 0) (kd, th, wi, nI H, nI R, nI M, dy)) _ _
    refine Exists.intro [1, 2, 3, 4] (Exists.intro [.ref 0, .int (nI (H - 1)), .int (nI k)] (Exists.intro (nc 0 kd th wi (nI H) (nI R) (nI M) dy) (Exists.intro 0 (Exists.intro 0 (And.intro ⟨rfl, rfl, Nat.le_of_ble_eq_true rfl, rfl, rfl, rfl, ⟨0, _, rfl, rfl⟩⟩ (And.intro (Nat.le_refl _) (And.intro (Nat.le_refl _) ?_)))))))
    refine t_placeAll rfl (by omega) hR ?_
    show runS _ _ _ _ _ _ [some (.ref 0), some (.ref 7), some (.int x), some (.int y), some (.int (nI (H - 1))), some (.int (nI k)), v6] [] (ow (kd, plA (nI k) th (H - 1) R, wi, nI H, nI R, nI M, dy) mby (gR vl R k 0) (kd, th, wi, nI H, nI R, nI M, dy)) _ _
    refine Exists.intro [1, 2, 3, 4] (Exists.intro [.ref 0, .int x] (Exists.intro (nc 0 kd (plA (nI k) th (H - 1) R) wi (nI H) (nI R) (nI M) dy) (Exists.intro 0 (Exists.intro 0 (And.intro ⟨rfl, rfl, Nat.le_of_ble_eq_true rfl, rfl, rfl, rfl, ⟨0, _, rfl, rfl⟩⟩ (And.intro (Nat.le_refl _) (And.intro (Nat.le_refl _) ?_)))))))
    refine t_live hx hn hM h0 hH hR ?_
    refine kB k hk (fun T v6 => ?_)
    refine gs [17] ?_
    have h9 := ih T v6
    rw [nI_succ k, ← gR_next] at h9
    exact h9
theorem t_mostTelling (hx : x = nI n) (hy : y = nI a) (ha : a < H) (hn : n ≤ 1000) (hM : M < 64) (hH : H ≤ 6) (hR : R ≤ 5)
    (hv : ∀ k, k < 10 → ∀ b, b < R → vl k b < 10 ∧ (itT kd M H R n (plA (nI k) th (H - 1) R)) (5 * a + upA kd R a (H - 1 - a) b) = nI (vl k b))
    (hQ : ∀ T vby, Q (some (.int (if w = 0 then (mtR vl R 0 (0, 0)).1 else (mtR vl R 0 (0, 0)).2))) (ow T mby vby (kd, th, wi, nI H, nI R, nI M, dy))) : callok (d + 7) 62 0 0 [.ref 0, .ref 7, .int x, .int y, .int w] (ow T mby vby (kd, th, wi, nI H, nI R, nI M, dy)) Q := by
  refine beg rfl (gs [16] ?_)
  refine Exists.intro [0, 1, 2, 3, 4, 5, 6, 7, 8, 9, 10] (Exists.intro [.ref 0, .ref 7, .int x, .int y] (Exists.intro (ow T mby vby (kd, th, wi, nI H, nI R, nI M, dy)) (Exists.intro 0 (Exists.intro 0 (And.intro ⟨rfl, rfl, Nat.le_of_ble_eq_true rfl, rfl, rfl, rfl, ⟨0, _, rfl, rfl⟩⟩ (And.intro (Nat.le_refl _) (And.intro (Nat.le_refl _) ?_)))))))
  refine t_gatherValues hx hy ha hn hM hH hR hv (fun T => ?_)
  have key : ∀ (f b : Nat) (s : Int32 × Int32) (v8 : Option Value), b + f = R → mtR vl f b s = mtR vl R 0 (0, 0) → wp (0, 0, callok (d + 6)) (mcode 62) (qE 0 0 Q) 16 [some (.ref 0), some (.ref 7), some (.int x), some (.int y), some (.int w), some (.int s.1), some (.int s.2), some (.int (nI b)), v8] [] (ow T mby (gR vl R 10 0) (kd, th, wi, nI H, nI R, nI M, dy)) 0 0 := by
    intro f
    induction f with
    | zero =>
      intro b s v8 hb e
      refine gs [16] ?_
      refine Exists.intro [7, 8, 9, 10] (Exists.intro [.ref 0] (Exists.intro (nc 0 kd th wi (nI H) (nI R) (nI M) dy) (Exists.intro 0 (Exists.intro 0 (And.intro ⟨rfl, rfl, Nat.le_of_ble_eq_true rfl, rfl, rfl, rfl, ⟨0, _, rfl, rfl⟩⟩ (And.intro (Nat.le_refl _) (And.intro (Nat.le_refl _) ?_)))))))
      refine t_rooms ?_
      refine br_f ((show ¬ nI b < nI R from nI_nlt (by omega) (by omega))) ?_
      rw [← e] at hQ
      unfold mtR at hQ
      refine br_c (fun c => ?_) (fun c => ?_)
      · rw [if_pos c] at hQ
        exact fin0 (hQ _ _)
      · rw [if_neg c] at hQ
        exact fin0 (hQ _ _)
    | succ f ih =>
      intro b s v8 hb e
      refine gs [16] ?_
      refine Exists.intro [7, 8, 9, 10] (Exists.intro [.ref 0] (Exists.intro (nc 0 kd th wi (nI H) (nI R) (nI M) dy) (Exists.intro 0 (Exists.intro 0 (And.intro ⟨rfl, rfl, Nat.le_of_ble_eq_true rfl, rfl, rfl, rfl, ⟨0, _, rfl, rfl⟩⟩ (And.intro (Nat.le_refl _) (And.intro (Nat.le_refl _) ?_)))))))
      refine t_rooms ?_
      refine br_t ((show nI b < nI R from nI_lt (by omega) (by omega))) ?_
      refine Exists.intro (b) (And.intro (rfl) (And.intro ⟨by omega, by omega⟩ ?_))
      have e1 : gR vl R 10 0 b = nI (gB vl b 10) := by
        unfold gR
        rw [if_neg (by omega), if_pos (by omega)]
      refine Exists.intro [] (Exists.intro [.int (gR vl R 10 0 b)] (Exists.intro ([]) (Exists.intro 0 (Exists.intro 0 (And.intro ⟨rfl, rfl, Nat.le_of_ble_eq_true rfl, rfl, rfl, rfl, trivial⟩ (And.intro (Nat.le_refl _) (And.intro (Nat.le_refl _) ?_)))))))
      refine t_bitCount (h := []) e1 (gB_lt (fun v hv' => (hv v hv' b (by omega)).1) 10 (by omega)) ?_
      rw [mtR] at e
      generalize hnb : nI (pop 10 (gB vl b 10)) = nb at e
      show runS _ _ _ _ _ _ [some (.ref 0), some (.ref 7), some (.int x), some (.int y), some (.int w), some (.int s.1), some (.int s.2), some (.int (nI b)), v8] [.int nb] (ow T mby (gR vl R 10 0) (kd, th, wi, nI H, nI R, nI M, dy)) _ _
      refine br_c (fun c => ?_) (fun c => ?_)
      · rw [if_pos c] at e
        have h9 := ih (b + 1) (nb, nI b) (some (.int nb)) (by omega) e
        rw [nI_succ b] at h9
        exact h9
      · rw [if_neg c] at e
        have h9 := ih (b + 1) s (some (.int nb)) (by omega) e
        rw [nI_succ b] at h9
        exact h9
  exact key R 0 (0, 0) none (by omega) rfl
end OX
