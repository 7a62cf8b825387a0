/-! DAYS: what comes up, as functions of the rooms (place 5 a + b: house a, room b) -/
def near (own goal : Int32) : Int32 := if own = goal then own else if own < goal then own + 1 else own - 1
/-- the room next to b -/
def rAf (R b : Nat) : Nat := if b + 1 < R then b + 1 else 0
/-- what stands in room b of house a behind a day -/
def nxT (kd th : Nat → Int32) (R a b : Nat) : Int32 :=
  if kd a = 2 then 9 - th (5 * (a + 1) + if kd a = 3 then rAf R b else b)
  else if kd a = 1 then near (th (5 * a + b)) (th (5 * (a + 1) + if kd a = 3 then rAf R b else b))
  else th (5 * (a + 1) + if kd a = 3 then rAf R b else b)
theorem nxT_cong {kd th th' : Nat → Int32} {R a b : Nat} (hb : b < R) (h1 : th (5 * a + b) = th' (5 * a + b)) (h2 : ∀ r, r < R → th (5 * (a + 1) + r) = th' (5 * (a + 1) + r)) : nxT kd th R a b = nxT kd th' R a b := by
  have h3 : th (5 * (a + 1) + if kd a = 3 then rAf R b else b) = th' (5 * (a + 1) + if kd a = 3 then rAf R b else b) := by
    apply h2
    split
    · unfold rAf; split <;> omega
    · exact hb
  unfold nxT
  rw [h1, h3]
/-- house a behind a day, its first k rooms -/
def rowT (kd th : Nat → Int32) (R a k : Nat) : Nat → Int32 := fun j => if 5 * a ≤ j ∧ j < 5 * a + k then nxT kd th R a (j - 5 * a) else th j
theorem rowT_0 {kd th : Nat → Int32} {R a : Nat} : rowT kd th R a 0 = th := by
  funext j
  unfold rowT
  rw [if_neg (by omega)]
theorem rowT_out {kd th : Nat → Int32} {R a k j : Nat} (h : j < 5 * a ∨ 5 * a + k ≤ j) : rowT kd th R a k j = th j := by
  unfold rowT
  rw [if_neg (by omega)]
theorem rowT_nx {kd th : Nat → Int32} {R a k : Nat} (hk : k < R) (hR : R ≤ 5) : nxT kd (rowT kd th R a k) R a k = nxT kd th R a k :=
  nxT_cong hk (rowT_out (by omega)) (fun r hr => rowT_out (by omega))
theorem rowT_succ {kd th : Nat → Int32} {R a k : Nat} : upd (rowT kd th R a k) (5 * a + k) (nxT kd th R a k) = rowT kd th R a (k + 1) := by
  funext j
  by_cases e : j = 5 * a + k
  · rw [e, up_s]
    unfold rowT
    rw [if_pos (by omega), show 5 * a + k - 5 * a = k by omega]
  · rw [up_n _ _ e]
    unfold rowT
    by_cases h : 5 * a ≤ j ∧ j < 5 * a + k
    · rw [if_pos h, if_pos (by omega)]
    · rw [if_neg h, if_neg (by omega)]
theorem rowT_same {kd th : Nat → Int32} {R a k : Nat} (h : nxT kd th R a k = th (5 * a + k)) : rowT kd th R a (k + 1) = rowT kd th R a k := by
  rw [← rowT_succ, h]
  funext j
  by_cases e : j = 5 * a + k
  · rw [e, up_s, rowT_out (by omega)]
  · rw [up_n _ _ e]
/-- all houses above n behind a day -/
def dyN (kd th : Nat → Int32) (M R n : Nat) : Nat → Int32 := fun j => if (j / 5 < n ∧ j % 5 < R) ∧ ¬ M.testBit (j / 5) = true then nxT kd th R (j / 5) (j % 5) else th j
theorem dyN_0 {kd th : Nat → Int32} {M R : Nat} : dyN kd th M R 0 = th := by
  funext j
  unfold dyN
  rw [if_neg (by omega)]
theorem dyN_low {kd th : Nat → Int32} {M R n j : Nat} (h : 5 * n ≤ j) : dyN kd th M R n j = th j := by
  unfold dyN
  rw [if_neg (by omega)]
theorem dyN_mouse {kd th : Nat → Int32} {M R n : Nat} (h : M.testBit n = true) : dyN kd th M R (n + 1) = dyN kd th M R n := by
  funext j
  unfold dyN
  by_cases e : j / 5 = n
  · rw [if_neg (fun z => z.2 (by rw [e]; exact h)), if_neg (fun z => z.2 (by rw [e]; exact h))]
  · by_cases c : (j / 5 < n ∧ j % 5 < R) ∧ ¬ M.testBit (j / 5) = true
    · rw [if_pos ⟨⟨by omega, c.1.2⟩, c.2⟩, if_pos c]
    · rw [if_neg (fun z => c ⟨⟨by omega, z.1.2⟩, z.2⟩), if_neg c]
theorem dyN_row {kd th : Nat → Int32} {M R n : Nat} (h : ¬ M.testBit n = true) (hR : R ≤ 5) : rowT kd (dyN kd th M R n) R n R = dyN kd th M R (n + 1) := by
  funext j
  by_cases c : 5 * n ≤ j ∧ j < 5 * n + R
  · have e1 : j / 5 = n := by omega
    have e2 : j % 5 = j - 5 * n := by omega
    have hb : j - 5 * n < R := by omega
    unfold rowT
    rw [if_pos c]
    rw [nxT_cong (th' := th) hb (dyN_low (by omega)) (fun r hr => dyN_low (by omega))]
    unfold dyN
    rw [e1, e2, if_pos ⟨⟨by omega, hb⟩, h⟩]
  · rw [rowT_out (by omega)]
    unfold dyN
    by_cases q : (j / 5 < n ∧ j % 5 < R) ∧ ¬ M.testBit (j / 5) = true
    · rw [if_pos q, if_pos ⟨⟨by omega, q.1.2⟩, q.2⟩]
    · rw [if_neg q, if_neg]
      intro z
      by_cases e : j / 5 = n
      · omega
      · exact q ⟨⟨by omega, z.1.2⟩, z.2⟩
/-- one day -/
abbrev dayT (kd th : Nat → Int32) (M H R : Nat) : Nat → Int32 := dyN kd th M R (H - 1)
/-- n days -/
def itT (kd : Nat → Int32) (M H R : Nat) : Nat → (Nat → Int32) → Nat → Int32
  | 0, th => th
  | n + 1, th => itT kd M H R n (dayT kd th M H R)
theorem itT_fix {kd th : Nat → Int32} {M H R : Nat} (h : dayT kd th M H R = th) : ∀ n, itT kd M H R n th = th
  | 0 => rfl
  | n + 1 => by rw [itT, h]; exact itT_fix h n
theorem itT_succ {kd : Nat → Int32} {M H R : Nat} : ∀ n th, itT kd M H R (n + 1) th = dayT kd (itT kd M H R n th) M H R
  | 0, th => rfl
  | n + 1, th => by
    rw [itT, itT_succ n]
    rfl
/-- a sneeze in house a -/
def shT (th : Nat → Int32) (R a : Nat) : Nat → Int32 := fun j => if 5 * a ≤ j ∧ j < 5 * a + R then (if j = 5 * a then th (5 * a + (R - 1)) else th (j - 1)) else th j
def shS (th : Nat → Int32) (R a k : Nat) : Nat → Int32 := fun j => if 5 * a + k < j ∧ j < 5 * a + R then th (j - 1) else th j
theorem shS_top {th : Nat → Int32} {R a : Nat} : shS th R a (R - 1) = th := by
  funext j
  unfold shS
  rw [if_neg (by omega)]
theorem shS_step {th : Nat → Int32} {R a k : Nat} (hk : k + 1 < R) : upd (shS th R a (k + 1)) (5 * a + (k + 1)) (shS th R a (k + 1) (5 * a + k)) = shS th R a k := by
  funext j
  by_cases e : j = 5 * a + (k + 1)
  · rw [e, up_s]
    unfold shS
    rw [if_neg (by omega), if_pos (by omega), show 5 * a + (k + 1) - 1 = 5 * a + k by omega]
  · rw [up_n _ _ e]
    unfold shS
    by_cases c : 5 * a + (k + 1) < j ∧ j < 5 * a + R
    · rw [if_pos c, if_pos (by omega)]
    · rw [if_neg c, if_neg (by omega)]
theorem shS_end {th : Nat → Int32} {R a : Nat} (hR : 0 < R) : upd (shS th R a 0) (5 * a) (th (5 * a + (R - 1))) = shT th R a := by
  funext j
  by_cases e : j = 5 * a
  · rw [e, up_s]
    unfold shT
    rw [if_pos (by omega), if_pos rfl]
  · rw [up_n _ _ e]
    unfold shS shT
    by_cases c : 5 * a ≤ j ∧ j < 5 * a + R
    · rw [if_pos c, if_pos (by omega), if_neg e]
    · rw [if_neg c, if_neg (by omega)]
theorem m1p1 (x : Int32) : x + (-1) + 1 = x := by rw [Int32.add_assoc, show (-1 : Int32) + 1 = 0 from rfl, Int32.add_zero]
/-- the room n houses above A + n's room r, in house A -/
def upA (kd : Nat → Int32) (R A : Nat) : Nat → Nat → Nat
  | 0, r => r
  | n + 1, r => upA kd R A n (if kd (A + n) = 3 then (if 0 < r then r - 1 else R - 1) else r)
theorem upA_lt {kd : Nat → Int32} {R A : Nat} : ∀ n r, r < R → upA kd R A n r < R
  | 0, r, h => h
  | n + 1, r, h => by
    rw [upA]
    apply upA_lt n
    split
    · split <;> omega
    · exact h
section DA
variable {d : Nat} {kd th wi : Nat → Int32} {hs rm mb dy : Int32} {H R M a b : Nat} {x y v : Int32} {Q : Option Value → List aC → Prop}
theorem t_nearer (hQ : Q (some (.int (near x y))) []) : callok (d + 1) 49 0 0 [.int x, .int y] [] Q := by
  refine beg rfl (gs [] ?_)
  unfold near at hQ
  refine br_c (fun c => ?_) (fun c => ?_)
  · rw [if_pos c] at hQ
    exact fin0 (hQ)
  · rw [if_neg c] at hQ
    refine br_c (fun c2 => ?_) (fun c2 => ?_)
    · rw [if_pos c2] at hQ
      exact fin0 (hQ)
    · rw [if_neg c2] at hQ
      exact fin0 (hQ)
theorem t_roomAfter (hx : x = nI b) (hb : b < R) (hR : R ≤ 5) (hQ : Q (some (.int (nI (rAf R b)))) (nc 0 kd th wi hs (nI R) mb dy)) : callok (d + 1) 50 0 0 [.ref 0, .int x] (nc 0 kd th wi hs (nI R) mb dy) Q := by
  subst hx
  refine beg rfl (gs [] ?_)
  unfold rAf at hQ
  refine br_c (fun c => ?_) (fun c => ?_)
  · rw [if_pos ((nI_ltI (by omega) (by omega)).mp (by rw [nI_succ]; exact c)), nI_succ] at hQ
    exact fin0 (hQ)
  · rw [if_neg (fun z => c (by have := (nI_ltI (a := b + 1) (b := R) (by omega) (by omega)).mpr z; rw [nI_succ] at this; exact this))] at hQ
    exact fin0 (hQ)
theorem t_nextThing (hx : x = nI a) (hy : y = nI b) (ha : a + 1 < H) (hH : H ≤ 6) (hb : b < R) (hR : R ≤ 5) (hQ : Q (some (.int (nxT kd th R a b))) (nc 0 kd th wi hs (nI R) mb dy)) : callok (d + 2) 48 0 0 [.ref 0, .int x, .int y] (nc 0 kd th wi hs (nI R) mb dy) Q := by
  subst hx hy
  refine beg rfl (gs [] ?_)
  refine Exists.intro [0, 1, 2, 3] (Exists.intro [.ref 0, .int (nI a)] (Exists.intro (nc 0 kd th wi hs (nI R) mb dy) (Exists.intro 0 (Exists.intro 0 (And.intro ⟨rfl, rfl, Nat.le_of_ble_eq_true rfl, rfl, rfl, rfl, ⟨0, _, rfl, rfl⟩⟩ (And.intro (Nat.le_refl _) (And.intro (Nat.le_refl _) ?_)))))))
  refine t_kindN rfl (by omega) ?_
  unfold nxT at hQ
  refine br_c (fun c => ?_) (fun c => ?_)
  · rw [if_pos c, if_neg (by rw [c]; decide), if_neg (by rw [c]; decide)] at hQ
    refine Exists.intro [0, 1, 2, 3] (Exists.intro [.ref 0, .int (nI b)] (Exists.intro (nc 0 kd th wi hs (nI R) mb dy) (Exists.intro 0 (Exists.intro 0 (And.intro ⟨rfl, rfl, Nat.le_of_ble_eq_true rfl, rfl, rfl, rfl, ⟨0, _, rfl, rfl⟩⟩ (And.intro (Nat.le_refl _) (And.intro (Nat.le_refl _) ?_)))))))
    refine t_roomAfter rfl hb hR ?_
    refine Exists.intro [0, 1, 2, 3] (Exists.intro [.ref 0, .int (nI a + 1), .int (nI (rAf R b))] (Exists.intro (nc 0 kd th wi hs (nI R) mb dy) (Exists.intro 0 (Exists.intro 0 (And.intro ⟨rfl, rfl, Nat.le_of_ble_eq_true rfl, rfl, rfl, rfl, ⟨0, _, rfl, rfl⟩⟩ (And.intro (Nat.le_refl _) (And.intro (Nat.le_refl _) ?_)))))))
    refine t_thing (a := a + 1) (nI_1 a) rfl (by omega) (by unfold rAf; split <;> omega) ?_
    refine br_f ((show ¬ kd a = 2 by rw [c]; decide)) ?_
    refine br_f ((show ¬ kd a = 1 by rw [c]; decide)) ?_
    exact fin0 (hQ)
  · rw [if_neg c] at hQ
    refine Exists.intro [0, 1, 2, 3] (Exists.intro [.ref 0, .int (nI a + 1), .int (nI b)] (Exists.intro (nc 0 kd th wi hs (nI R) mb dy) (Exists.intro 0 (Exists.intro 0 (And.intro ⟨rfl, rfl, Nat.le_of_ble_eq_true rfl, rfl, rfl, rfl, ⟨0, _, rfl, rfl⟩⟩ (And.intro (Nat.le_refl _) (And.intro (Nat.le_refl _) ?_)))))))
    refine t_thing (a := a + 1) (nI_1 a) rfl (by omega) (by omega) ?_
    refine br_c (fun c2 => ?_) (fun c2 => ?_)
    · rw [if_pos c2] at hQ
      exact fin0 (hQ)
    · rw [if_neg c2] at hQ
      refine br_c (fun c3 => ?_) (fun c3 => ?_)
      · rw [if_pos c3] at hQ
        refine Exists.intro [0, 1, 2, 3] (Exists.intro [.ref 0, .int (nI a), .int (nI b)] (Exists.intro (nc 0 kd th wi hs (nI R) mb dy) (Exists.intro 0 (Exists.intro 0 (And.intro ⟨rfl, rfl, Nat.le_of_ble_eq_true rfl, rfl, rfl, rfl, ⟨0, _, rfl, rfl⟩⟩ (And.intro (Nat.le_refl _) (And.intro (Nat.le_refl _) ?_)))))))
        refine t_thing rfl rfl (by omega) (by omega) ?_
        refine Exists.intro [] (Exists.intro [.int (th (5 * a + b)), .int (th (5 * (a + 1) + b))] (Exists.intro ([]) (Exists.intro 0 (Exists.intro 0 (And.intro ⟨rfl, rfl, Nat.le_of_ble_eq_true rfl, rfl, rfl, rfl, trivial⟩ (And.intro (Nat.le_refl _) (And.intro (Nat.le_refl _) ?_)))))))
        refine t_nearer ?_
        exact fin0 (hQ)
      · rw [if_neg c3] at hQ
        exact fin0 (hQ)
theorem t_takeFromWithin (hx : x = nI a) (ha : a + 1 < H) (hH : H ≤ 6) (hR : R ≤ 5) (hQ : ∀ r : Int32, (r = 0 ∨ r = 1) → (r = 0 ↔ rowT kd th R a R = th) → Q (some (.int r)) (nc 0 kd (rowT kd th R a R) wi hs (nI R) mb dy)) : callok (d + 3) 47 0 0 [.ref 0, .int x] (nc 0 kd th wi hs (nI R) mb dy) Q := by
  refine beg rfl (gs [4] ?_)
  have key := up (W := fun k => ∀ (r : Int32) (v4 : Option Value), (r = 0 ∨ r = 1) → (r = 0 ↔ rowT kd th R a k = th) → wp (0, 0, callok (d + 2)) (mcode 47) (qE 0 0 Q) 4 [some (.ref 0), some (.int x), some (.int r), some (.int (nI k)), v4] [] (nc 0 kd (rowT kd th R a k) wi hs (nI R) mb dy) 0 0) R ?_ ?_
  · have h0 := key 0 none (Or.inl rfl) ⟨fun _ => rowT_0, fun _ => rfl⟩
    rw [rowT_0] at h0
    exact h0
  · intro r v4 h1 h2
    refine gs [4] ?_
    refine br_f ((nI_nlt (by omega) (by omega))) ?_
    exact And.intro h1 (fin0 (hQ r h1 h2))
  · intro k hk ih r v4 h1 h2
    refine gs [4] ?_
    refine br_t ((nI_lt hk (by omega))) ?_
    refine Exists.intro [0, 1, 2, 3] (Exists.intro [.ref 0, .int x, .int (nI k)] (Exists.intro (nc 0 kd (rowT kd th R a k) wi hs (nI R) mb dy) (Exists.intro 0 (Exists.intro 0 (And.intro ⟨rfl, rfl, Nat.le_of_ble_eq_true rfl, rfl, rfl, rfl, ⟨0, _, rfl, rfl⟩⟩ (And.intro (Nat.le_refl _) (And.intro (Nat.le_refl _) ?_)))))))
    refine t_nextThing hx rfl ha hH hk hR ?_
    refine Exists.intro [0, 1, 2, 3] (Exists.intro [.ref 0, .int x, .int (nI k)] (Exists.intro (nc 0 kd (rowT kd th R a k) wi hs (nI R) mb dy) (Exists.intro 0 (Exists.intro 0 (And.intro ⟨rfl, rfl, Nat.le_of_ble_eq_true rfl, rfl, rfl, rfl, ⟨0, _, rfl, rfl⟩⟩ (And.intro (Nat.le_refl _) (And.intro (Nat.le_refl _) ?_)))))))
    refine t_thing hx rfl (by omega) (by omega) ?_
    rw [nI_succ] at ih
    rw [rowT_nx hk hR, rowT_out (j := 5 * a + k) (by omega)]
    refine br_c (fun c => ?_) (fun c => ?_)
    · have e := rowT_same c
      have h9 := ih r (some (.int (nxT kd th R a k))) h1 (by rw [e]; exact h2)
      rw [e] at h9
      exact h9
    · refine Exists.intro [0, 1, 2, 3] (Exists.intro [.ref 0, .int x, .int (nI k), .int (nxT kd th R a k)] (Exists.intro (nc 0 kd (rowT kd th R a k) wi hs (nI R) mb dy) (Exists.intro 0 (Exists.intro 0 (And.intro ⟨rfl, rfl, Nat.le_of_ble_eq_true rfl, rfl, rfl, rfl, ⟨0, _, rfl, rfl⟩⟩ (And.intro (Nat.le_refl _) (And.intro (Nat.le_refl _) ?_)))))))
      refine t_place hx rfl (by omega) (by omega) ?_
      rw [rowT_succ]
      refine ih 1 (some (.int (nxT kd th R a k))) (Or.inr rfl) ⟨fun z => absurd z (by decide), fun z => absurd ?_ c⟩
      have h8 := congrFun z (5 * a + k)
      unfold rowT at h8
      rw [if_pos (by omega), show 5 * a + k - 5 * a = k by omega] at h8
      exact h8
theorem t_comeUp (hM : M < 64) (hH : H ≤ 6) (hR : R ≤ 5) (hQ : ∀ r : Int32, (r = 0 ∨ r = 1) → (r = 0 ↔ dayT kd th M H R = th) → Q (some (.int r)) (nc 0 kd (dayT kd th M H R) wi (nI H) (nI R) (nI M) dy)) (h0 : 0 < H) : callok (d + 4) 45 0 0 [.ref 0] (nc 0 kd th wi (nI H) (nI R) (nI M) dy) Q := by
  refine beg rfl (gs [4] ?_)
  have key := up (W := fun k => ∀ (r : Int32), (r = 0 ∨ r = 1) → (r = 0 ↔ dyN kd th M R k = th) → wp (0, 0, callok (d + 3)) (mcode 45) (qE 0 0 Q) 4 [some (.ref 0), some (.int r), some (.int (nI k))] [] (nc 0 kd (dyN kd th M R k) wi (nI H) (nI R) (nI M) dy) 0 0) (H - 1) ?_ ?_
  · have h0 := key 0 (Or.inl rfl) ⟨fun _ => dyN_0, fun _ => rfl⟩
    rw [dyN_0] at h0
    exact h0
  · intro r h1 h2
    refine gs [4] ?_
    refine br_f ((show ¬ nI (H - 1) + 1 < nI H by rw [nI_1]; exact nI_nlt (by omega) (by omega))) ?_
    exact And.intro h1 (fin0 (hQ r h1 h2))
  · intro k hk ih r h1 h2
    refine gs [4] ?_
    refine br_t ((show nI k + 1 < nI H by rw [nI_1]; exact nI_lt (by omega) (by omega))) ?_
    refine Exists.intro [0, 1, 2, 3] (Exists.intro [.ref 0, .int (nI k)] (Exists.intro (nc 0 kd (dyN kd th M R k) wi (nI H) (nI R) (nI M) dy) (Exists.intro 0 (Exists.intro 0 (And.intro ⟨rfl, rfl, Nat.le_of_ble_eq_true rfl, rfl, rfl, rfl, ⟨0, _, rfl, rfl⟩⟩ (And.intro (Nat.le_refl _) (And.intro (Nat.le_refl _) ?_)))))))
    rw [nI_succ] at ih
    refine t_hasMouse rfl (by omega) hM (fun c => ?_) (fun c => ?_)
    · refine br_f ((by decide)) ?_
      have e := dyN_mouse (kd := kd) (th := th) (R := R) c
      have h9 := ih r h1 (by rw [e]; exact h2)
      rw [e] at h9
      exact h9
    · refine br_t ((rfl)) ?_
      refine Exists.intro [0, 1, 2, 3] (Exists.intro [.ref 0, .int (nI k)] (Exists.intro (nc 0 kd (dyN kd th M R k) wi (nI H) (nI R) (nI M) dy) (Exists.intro 0 (Exists.intro 0 (And.intro ⟨rfl, rfl, Nat.le_of_ble_eq_true rfl, rfl, rfl, rfl, ⟨0, _, rfl, rfl⟩⟩ (And.intro (Nat.le_refl _) (And.intro (Nat.le_refl _) ?_)))))))
      refine t_takeFromWithin rfl (by omega) hH hR (fun r2 g1 g2 => ?_)
      have e := dyN_row (kd := kd) (th := th) c hR
      rw [e] at g2 ⊢
      refine br_c (fun c2 => ?_) (fun c2 => ?_)
      · refine ih r h1 ?_
        rw [g2.mp c2]
        exact h2
      · refine ih 1 (Or.inr rfl) ⟨fun z => absurd z (by decide), fun z => ?_⟩
        refine absurd ?_ c2
        refine g2.mpr ?_
        rw [z]
        funext j
        by_cases hj : 5 * k ≤ j
        · exact (dyN_low hj).symm
        · have h8 := congrFun e j
          rw [rowT_out (by omega), z] at h8
          exact h8.symm
theorem t_live {n : Nat} (hx : x = nI n) (hn : n ≤ 1000) (hM : M < 64) (h0 : 0 < H) (hH : H ≤ 6) (hR : R ≤ 5) (hQ : Q none (nc 0 kd (itT kd M H R n th) wi (nI H) (nI R) (nI M) dy)) : callok (d + 5) 46 0 0 [.ref 0, .int x] (nc 0 kd th wi (nI H) (nI R) (nI M) dy) Q := by
  subst hx
  refine beg rfl (gs [4] ?_)
  have key := up (W := fun k => ∀ (r : Int32), (r = 0 → dayT kd (itT kd M H R k th) M H R = itT kd M H R k th) → wp (0, 0, callok (d + 4)) (mcode 46) (qE 0 0 Q) 4 [some (.ref 0), some (.int (nI n)), some (.int r), some (.int (nI k))] [] (nc 0 kd (itT kd M H R k th) wi (nI H) (nI R) (nI M) dy) 0 0) n ?_ ?_
  · exact key 1 (fun z => absurd z (by decide))
  · intro r h1
    refine gs [4] ?_
    refine br_f ((nI_nlt (by omega) (by omega))) ?_
    exact fin0 (hQ)
  · intro k hk ih r h1
    refine gs [4] ?_
    refine br_t ((nI_lt hk (by omega))) ?_
    refine br_c (fun c => ?_) (fun c => ?_)
    · have e : itT kd M H R n th = itT kd M H R k th := by
        have h2 := h1 c
        have key2 : ∀ m, itT kd M H R (k + m) th = itT kd M H R k th := by
          intro m
          induction m with
          | zero => rfl
          | succ m ih2 => rw [← Nat.add_assoc, itT_succ, ih2, h2]
        have := key2 (n - k)
        rwa [show k + (n - k) = n by omega] at this
      rw [e] at hQ
      exact fin0 (hQ)
    · refine Exists.intro [0, 1, 2, 3] (Exists.intro [.ref 0] (Exists.intro (nc 0 kd (itT kd M H R k th) wi (nI H) (nI R) (nI M) dy) (Exists.intro 0 (Exists.intro 0 (And.intro ⟨rfl, rfl, Nat.le_of_ble_eq_true rfl, rfl, rfl, rfl, ⟨0, _, rfl, rfl⟩⟩ (And.intro (Nat.le_refl _) (And.intro (Nat.le_refl _) ?_)))))))
      refine t_comeUp hM hH hR (fun r2 g1 g2 => ?_) h0
      rw [nI_succ, itT_succ] at ih
      refine ih r2 (fun z => ?_)
      rw [g2.mp z, g2.mp z]
theorem t_shift (hx : x = nI a) (ha : a < 6) (h0 : 0 < R) (hR : R ≤ 5) (hQ : Q none (nc 0 kd (shT th R a) wi hs (nI R) mb dy)) : callok (d + 2) 44 0 0 [.ref 0, .int x] (nc 0 kd th wi hs (nI R) mb dy) Q := by
  have er : nI R - 1 = nI (R - 1) := by rw [← nI_pred (R - 1), show R - 1 + 1 = R by omega]
  refine beg rfl (gs [19] ?_)
  refine Exists.intro [0, 1, 2, 3] (Exists.intro [.ref 0, .int x, .int (nI R - 1)] (Exists.intro (nc 0 kd th wi hs (nI R) mb dy) (Exists.intro 0 (Exists.intro 0 (And.intro ⟨rfl, rfl, Nat.le_of_ble_eq_true rfl, rfl, rfl, rfl, ⟨0, _, rfl, rfl⟩⟩ (And.intro (Nat.le_refl _) (And.intro (Nat.le_refl _) ?_)))))))
  refine t_thing hx er ha (by omega) ?_
  have key := dn (W := fun k => k < R → wp (0, 0, callok (d + 1)) (mcode 44) (qE 0 0 Q) 19 [some (.ref 0), some (.int x), some (.int (th (5 * a + (R - 1)))), some (.int (nI k))] [] (nc 0 kd (shS th R a k) wi hs (nI R) mb dy) 0 0) ?_ ?_ (R - 1)
  · have h1 := key (by omega)
    rw [shS_top, ← er] at h1
    exact h1
  · intro _
    refine gs [19] ?_
    refine br_f ((show ¬ 0 < nI 0 by decide)) ?_
    refine Exists.intro [0, 1, 2, 3] (Exists.intro [.ref 0, .int x, .int 0, .int (th (5 * a + (R - 1)))] (Exists.intro (nc 0 kd (shS th R a 0) wi hs (nI R) mb dy) (Exists.intro 0 (Exists.intro 0 (And.intro ⟨rfl, rfl, Nat.le_of_ble_eq_true rfl, rfl, rfl, rfl, ⟨0, _, rfl, rfl⟩⟩ (And.intro (Nat.le_refl _) (And.intro (Nat.le_refl _) ?_)))))))
    refine t_place (b := 0) hx rfl ha (by omega) ?_
    rw [show 5 * a + 0 = 5 * a from rfl, shS_end h0]
    exact fin0 (hQ)
  · intro k ih hk
    refine gs [19] ?_
    refine br_t ((show (0 : Int32) < nI (k + 1) from nI_lt (a := 0) (by omega) (by omega))) ?_
    refine Exists.intro [0, 1, 2, 3] (Exists.intro [.ref 0, .int x, .int (nI (k + 1) - 1)] (Exists.intro (nc 0 kd (shS th R a (k + 1)) wi hs (nI R) mb dy) (Exists.intro 0 (Exists.intro 0 (And.intro ⟨rfl, rfl, Nat.le_of_ble_eq_true rfl, rfl, rfl, rfl, ⟨0, _, rfl, rfl⟩⟩ (And.intro (Nat.le_refl _) (And.intro (Nat.le_refl _) ?_)))))))
    refine t_thing (b := k) hx (nI_pred k) ha (by omega) ?_
    refine Exists.intro [0, 1, 2, 3] (Exists.intro [.ref 0, .int x, .int (nI (k + 1)), .int (shS th R a (k + 1) (5 * a + k))] (Exists.intro (nc 0 kd (shS th R a (k + 1)) wi hs (nI R) mb dy) (Exists.intro 0 (Exists.intro 0 (And.intro ⟨rfl, rfl, Nat.le_of_ble_eq_true rfl, rfl, rfl, rfl, ⟨0, _, rfl, rfl⟩⟩ (And.intro (Nat.le_refl _) (And.intro (Nat.le_refl _) ?_)))))))
    refine t_place (b := k + 1) hx rfl ha (by omega) ?_
    rw [shS_step (by omega)]
    have h9 := ih (by omega)
    rw [← pk_m1] at h9
    exact h9
theorem t_roomAbove {A n : Nat} (hx : x = nI (A + n)) (hy : y = nI b) (hv : v = nI A) (hn : A + n ≤ 6) (hb : b < R) (hR : R ≤ 5) (hQ : Q (some (.int (nI (upA kd R A n b)))) (nc 0 kd th wi hs (nI R) mb dy)) : callok (d + 2) 51 0 0 [.ref 0, .int x, .int y, .int v] (nc 0 kd th wi hs (nI R) mb dy) Q := by
  subst hx hy hv
  refine beg rfl (gs [8] ?_)
  have key := dn (W := fun m => ∀ (r : Nat) (h5 : Int32), m ≤ n → r < R → h5 + 1 = nI (A + m) → upA kd R A m r = upA kd R A n b → wp (0, 0, callok (d + 1)) (mcode 51) (qE 0 0 Q) 8 [some (.ref 0), some (.int (nI (A + n))), some (.int (nI b)), some (.int (nI A)), some (.int (nI r)), some (.int h5)] [] (nc 0 kd th wi hs (nI R) mb dy) 0 0) ?_ ?_ n
  · exact key b _ (Nat.le_refl _) hb (by show nI (A + n) - 1 + 1 = _; simp) rfl
  · intro r h5 _ hr e5 e
    have e7 : h5 < nI A := by
      have e6 : h5 = nI A - 1 := by rw [Nat.add_zero] at e5; rw [← e5]; simp
      rw [e6, Int32.lt_iff_toInt_lt]
      have : (nI A - 1).toInt = (A : Int) - 1 := pk_sub_toInt (a := A) (b := 1) (by omega) (by omega)
      rw [this, nI_toInt (by omega)]
      omega
    refine gs [8] ?_
    refine br_t (e7) ?_
    rw [← e] at hQ
    exact fin0 (hQ)
  · intro m ih r h5 hm hr e5 e
    have e6 : h5 = nI (A + m) := by
      have : h5 = nI (A + (m + 1)) - 1 := by rw [← e5]; simp
      rw [this, show A + (m + 1) = A + m + 1 by omega, nI_pred]
    subst e6
    refine gs [8] ?_
    refine br_f ((show ¬ nI (A + m) < nI A from nI_nlt (by omega) (by omega))) ?_
    refine Exists.intro [0, 1, 2, 3] (Exists.intro [.ref 0, .int (nI (A + m))] (Exists.intro (nc 0 kd th wi hs (nI R) mb dy) (Exists.intro 0 (Exists.intro 0 (And.intro ⟨rfl, rfl, Nat.le_of_ble_eq_true rfl, rfl, rfl, rfl, ⟨0, _, rfl, rfl⟩⟩ (And.intro (Nat.le_refl _) (And.intro (Nat.le_refl _) ?_)))))))
    refine t_kindN rfl (by omega) ?_
    rw [upA] at e
    refine br_c (fun c => ?_) (fun c => ?_)
    · rw [if_pos c] at e
      refine br_c (fun c2 => ?_) (fun c2 => ?_)
      · have h2 : 0 < r := (nI_ltI (a := 0) (by omega) (by omega)).mp c2
        rw [if_pos h2] at e
        have h9 := ih (r - 1) (nI (A + m) + (-1)) (by omega) (by omega) (m1p1 _) e
        rw [show nI (r - 1) = nI r - 1 by rw [← nI_pred (r - 1), show r - 1 + 1 = r by omega]] at h9
        exact h9
      · have h2 : ¬ 0 < r := fun z => c2 ((nI_ltI (a := 0) (by omega) (by omega)).mpr z)
        rw [if_neg h2] at e
        have h9 := ih (R - 1) (nI (A + m) + (-1)) (by omega) (by omega) (m1p1 _) e
        rw [show nI (R - 1) = nI R - 1 by rw [← nI_pred (R - 1), show R - 1 + 1 = R by omega]] at h9
        exact h9
    · rw [if_neg c] at e
      exact ih r (nI (A + m) + (-1)) (by omega) hr (m1p1 _) e
end DA
