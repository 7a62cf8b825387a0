/-! NURSERY: cells at b; what its methods answer and do -/
abbrev nc (b : Nat) (kd th wi : Nat → Int32) (hs rm mb dy : Int32) : List aC := [ao 2 [.ref (b + 1), .ref (b + 2), .ref (b + 3), .int hs, .int rm, .int mb, .int dy], ai 6 kd, ai 30 th, ai 5 wi]
def flT (v : Int32) (f : Nat → Int32) : Nat → Nat → Int32
  | 0 => f
  | k + 1 => upd (flT v f k) k v
theorem flT_eq {v : Int32} {f : Nat → Int32} : ∀ {n j : Nat}, j < n → flT v f n j = v
  | 0, j, h => absurd h (Nat.not_lt_zero j)
  | n + 1, j, h => by
    rw [flT]
    by_cases e : j = n
    · rw [e, up_s]
    · rw [up_n _ _ e]
      exact flT_eq (by omega)
section NU
variable {d : Nat} {kd th wi : Nat → Int32} {hs rm mb dy : Int32} {H R M a b : Nat} {x y v : Int32} {Q : Option Value → List aC → Prop}
theorem t_fill {n : Nat} {f : Nat → Int32} (hn : n ≤ 1000) (hQ : Q none [ai n (fun _ => v)]) : callok (d + 1) 182 0 0 [.ref 0, .int v] [ai n f] Q := by
  refine beg rfl (gs [5] ?_)
  refine up (W := fun k => wp (0, 0, callok d) (mcode 182) (qE 0 0 Q) 5 [some (.ref 0), some (.int v), some (.int (nI k)), some (.int (nI n))] [] [ai n (flT v f k)] 0 0) n ?_ ?_
  · refine gs [5] ?_
    refine br_f ((nI_nlt (by omega) (by omega))) ?_
    exact finE (h' := [ai n (fun _ => v)]) (show (n = n ∧ ∀ j, j < n → flT v f n j = v) ∧ True from ⟨⟨rfl, fun j hj => flT_eq hj⟩, trivial⟩) hQ
  · intro k hk ih
    refine gs [5] ?_
    refine br_t ((nI_lt hk (by omega))) ?_
    refine Exists.intro (k) (And.intro (rfl) (And.intro ⟨by omega, by omega⟩ ?_))
    rw [nI_succ] at ih
    exact ih
def bcE (x : Int32) : Int32 :=
  let x1 := x - ((x.toUInt32 >>> ((1 : Int32).toUInt32 &&& Int32.toUInt32 31)).toInt32 &&& 1431655765)
  let x2 := (x1 &&& 858993459) + ((x1.toUInt32 >>> ((2 : Int32).toUInt32 &&& Int32.toUInt32 31)).toInt32 &&& 858993459)
  let x3 := (x2 + (x2.toUInt32 >>> ((4 : Int32).toUInt32 &&& Int32.toUInt32 31)).toInt32) &&& 252645135
  let x4 := x3 + (x3.toUInt32 >>> ((8 : Int32).toUInt32 &&& Int32.toUInt32 31)).toInt32
  let x5 := x4 + (x4.toUInt32 >>> ((16 : Int32).toUInt32 &&& Int32.toUInt32 31)).toInt32
  x5 &&& 63
/-- how many bits below k -/
def pop : Nat → Nat → Nat
  | 0, _ => 0
  | k + 1, m => pop k m + m / 2 ^ k % 2
theorem bc_pop : ∀ m, m < 1024 → bcE (nI m) = nI (pop 10 m) := by decide +kernel
theorem t_bitCount {h : List aC} {m : Nat} (hx : x = nI m) (hm : m < 1024) (hQ : Q (some (.int (nI (pop 10 m)))) []) : callok (d + 1) 181 0 0 [.int x] [] Q := by
  refine beg rfl (gs [] ?_)
  refine fin0 (h := []) ?_
  show Q (some (.int (bcE x))) []
  rw [hx, bc_pop m hm]
  exact hQ
theorem t_clear (hQ : Q none (nc 0 kd th (fun _ => 10) 0 0 0 0)) : callok (d + 2) 21 0 0 [.ref 0] (nc 0 kd th wi hs rm mb dy) Q := by
  refine beg rfl (gs [] ?_)
  refine Exists.intro [3] (Exists.intro [.ref 0, .int 10] (Exists.intro ([ai 5 wi]) (Exists.intro 0 (Exists.intro 0 (And.intro ⟨rfl, rfl, Nat.le_of_ble_eq_true rfl, rfl, rfl, rfl, trivial⟩ (And.intro (Nat.le_refl _) (And.intro (Nat.le_refl _) ?_)))))))
  refine t_fill (by omega) ?_
  exact fin0 (hQ)
theorem t_become {kd' th' wi' : Nat → Int32} {hs' rm' mb' dy' : Int32} (hQ : Q none (nc 0 kd' th' wi' hs' rm' mb' dy' ++ nc 4 kd' th' wi' hs' rm' mb' dy')) : callok (d + 1) 22 0 0 [.ref 0, .ref 4] (nc 0 kd th wi hs rm mb dy ++ nc 4 kd' th' wi' hs' rm' mb' dy') Q := by
  refine beg rfl (gs [] ?_)
  refine And.intro ⟨rfl, rfl, rfl, rfl, by omega, Nat.le_of_ble_eq_true rfl⟩ ?_
  refine And.intro ⟨rfl, rfl, rfl, rfl, by omega, Nat.le_of_ble_eq_true rfl⟩ ?_
  refine And.intro ⟨rfl, rfl, rfl, rfl, by omega, Nat.le_of_ble_eq_true rfl⟩ ?_
  exact fin0 (hQ)
theorem t_houses (hQ : Q (some (.int hs)) (nc 0 kd th wi hs rm mb dy)) : callok (d + 1) 25 0 0 [.ref 0] (nc 0 kd th wi hs rm mb dy) Q := by
  refine beg rfl (gs [] ?_)
  exact fin0 (hQ)
theorem t_rooms (hQ : Q (some (.int rm)) (nc 0 kd th wi hs rm mb dy)) : callok (d + 1) 26 0 0 [.ref 0] (nc 0 kd th wi hs rm mb dy) Q := by
  refine beg rfl (gs [] ?_)
  exact fin0 (hQ)
theorem t_bottom (hH : 0 < H) (hQ : Q (some (.int (nI (H - 1)))) (nc 0 kd th wi (nI H) rm mb dy)) : callok (d + 1) 27 0 0 [.ref 0] (nc 0 kd th wi (nI H) rm mb dy) Q := by
  refine beg rfl (gs [] ?_)
  refine fin0 (h := nc 0 kd th wi (nI H) rm mb dy) ?_
  show Q (some (.int (nI H - 1))) _
  rw [show nI H - 1 = nI (H - 1) by rw [← nI_pred (H - 1), show H - 1 + 1 = H by omega]]
  exact hQ
theorem t_day (hQ : Q (some (.int dy)) (nc 0 kd th wi hs rm mb dy)) : callok (d + 1) 42 0 0 [.ref 0] (nc 0 kd th wi hs rm mb dy) Q := by
  refine beg rfl (gs [] ?_)
  exact fin0 (hQ)
theorem t_addDays (hQ : Q none (nc 0 kd th wi hs rm mb (dy + v))) : callok (d + 1) 43 0 0 [.ref 0, .int v] (nc 0 kd th wi hs rm mb dy) Q := by
  refine beg rfl (gs [] ?_)
  exact fin0 (hQ)
theorem t_hasHouse (hT : inR x H → Q (some (.int 1)) (nc 0 kd th wi (nI H) rm mb dy)) (hF : ¬ inR x H → Q (some (.int 0)) (nc 0 kd th wi (nI H) rm mb dy)) : callok (d + 1) 28 0 0 [.ref 0, .int x] (nc 0 kd th wi (nI H) rm mb dy) Q := by
  refine beg rfl (gs [] ?_)
  refine br_c (fun c => ?_) (fun c => ?_)
  · exact And.intro (Or.inl rfl) (fin0 (hF (fun z => z.1 c)))
  · refine br_c (fun c2 => ?_) (fun c2 => ?_)
    · exact And.intro (Or.inr rfl) (fin0 (hT ⟨c, c2⟩))
    · exact And.intro (Or.inl rfl) (fin0 (hF (fun z => c2 z.2)))
theorem t_hasRoom (hT : inR x R → Q (some (.int 1)) (nc 0 kd th wi hs (nI R) mb dy)) (hF : ¬ inR x R → Q (some (.int 0)) (nc 0 kd th wi hs (nI R) mb dy)) : callok (d + 1) 29 0 0 [.ref 0, .int x] (nc 0 kd th wi hs (nI R) mb dy) Q := by
  refine beg rfl (gs [] ?_)
  refine br_c (fun c => ?_) (fun c => ?_)
  · exact And.intro (Or.inl rfl) (fin0 (hF (fun z => z.1 c)))
  · refine br_c (fun c2 => ?_) (fun c2 => ?_)
    · exact And.intro (Or.inr rfl) (fin0 (hT ⟨c, c2⟩))
    · exact And.intro (Or.inl rfl) (fin0 (hF (fun z => c2 z.2)))
theorem t_thing (hx : x = nI a) (hy : y = nI b) (ha : a < 6) (hb : b < 5) (hQ : Q (some (.int (th (5 * a + b)))) (nc 0 kd th wi hs rm mb dy)) : callok (d + 1) 30 0 0 [.ref 0, .int x, .int y] (nc 0 kd th wi hs rm mb dy) Q := by
  subst hx hy
  refine beg rfl (gs [] ?_)
  refine br_f ((show ¬ nI a * 5 + nI b < 0 by rw [i5]; exact nI_pos (by omega))) ?_
  refine br_t ((show nI a * 5 + nI b < nI 30 by rw [i5]; exact nI_lt (by omega) (by omega))) ?_
  refine Exists.intro (5 * a + b) (And.intro (i5 a b) (And.intro ⟨by omega, by omega⟩ ?_))
  exact fin0 (hQ)
theorem t_place (hx : x = nI a) (hy : y = nI b) (ha : a < 6) (hb : b < 5) (hQ : Q none (nc 0 kd (upd th (5 * a + b) v) wi hs rm mb dy)) : callok (d + 1) 31 0 0 [.ref 0, .int x, .int y, .int v] (nc 0 kd th wi hs rm mb dy) Q := by
  subst hx hy
  refine beg rfl (gs [] ?_)
  refine br_f ((show ¬ nI a * 5 + nI b < 0 by rw [i5]; exact nI_pos (by omega))) ?_
  refine br_t ((show nI a * 5 + nI b < nI 30 by rw [i5]; exact nI_lt (by omega) (by omega))) ?_
  refine Exists.intro (5 * a + b) (And.intro (i5 a b) (And.intro ⟨by omega, by omega⟩ ?_))
  exact fin0 (hQ)
/-- v in the first k rooms of house a -/
def plA (v : Int32) (th : Nat → Int32) (a : Nat) : Nat → Nat → Int32
  | 0 => th
  | k + 1 => upd (plA v th a k) (5 * a + k) v
theorem t_placeAll (hx : x = nI a) (ha : a < 6) (hR : R ≤ 5) (hQ : Q none (nc 0 kd (plA v th a R) wi hs (nI R) mb dy)) : callok (d + 2) 32 0 0 [.ref 0, .int x, .int v] (nc 0 kd th wi hs (nI R) mb dy) Q := by
  refine beg rfl (gs [2] ?_)
  refine up (W := fun k => wp (0, 0, callok (d + 1)) (mcode 32) (qE 0 0 Q) 2 [some (.ref 0), some (.int x), some (.int v), some (.int (nI k))] [] (nc 0 kd (plA v th a k) wi hs (nI R) mb dy) 0 0) R ?_ ?_
  · refine gs [2] ?_
    refine br_f ((nI_nlt (by omega) (by omega))) ?_
    exact fin0 (hQ)
  · intro k hk ih
    refine gs [2] ?_
    refine br_t ((nI_lt hk (by omega))) ?_
    refine Exists.intro [0, 1, 2, 3] (Exists.intro [.ref 0, .int x, .int (nI k), .int v] (Exists.intro (nc 0 kd (plA v th a k) wi hs (nI R) mb dy) (Exists.intro 0 (Exists.intro 0 (And.intro ⟨rfl, rfl, Nat.le_of_ble_eq_true rfl, rfl, rfl, rfl, ⟨0, _, rfl, rfl⟩⟩ (And.intro (Nat.le_refl _) (And.intro (Nat.le_refl _) ?_)))))))
    refine t_place hx rfl ha (by omega) ?_
    rw [nI_succ] at ih
    exact ih
theorem t_kindN (hx : x = nI a) (ha : a < 6) (hQ : Q (some (.int (kd a))) (nc 0 kd th wi hs rm mb dy)) : callok (d + 1) 33 0 0 [.ref 0, .int x] (nc 0 kd th wi hs rm mb dy) Q := by
  subst hx
  refine beg rfl (gs [] ?_)
  refine br_f ((nI_pos (by omega))) ?_
  refine br_t ((show nI a < nI 6 from nI_lt (by omega) (by omega))) ?_
  refine Exists.intro (a) (And.intro (rfl) (And.intro ⟨by omega, by omega⟩ ?_))
  exact fin0 (hQ)
theorem t_kind (hx : x = nI a) (ha : a < H) (hH : H ≤ 6) (hQ : Q (some (.int (kd a))) (nc 0 kd th wi (nI H) rm mb dy)) : callok (d + 2) 33 0 0 [.ref 0, .int x] (nc 0 kd th wi (nI H) rm mb dy) Q :=
  t_kindN (d := d + 1) hx (by omega) hQ
theorem t_setKind (hx : x = nI a) (ha : a < H) (hH : H ≤ 6) (hQ : Q none (nc 0 (upd kd a v) th wi (nI H) rm mb dy)) : callok (d + 2) 34 0 0 [.ref 0, .int x, .int v] (nc 0 kd th wi (nI H) rm mb dy) Q := by
  subst hx
  refine beg rfl (gs [] ?_)
  refine Exists.intro [0, 1, 2, 3] (Exists.intro [.ref 0, .int (nI a)] (Exists.intro (nc 0 kd th wi (nI H) rm mb dy) (Exists.intro 0 (Exists.intro 0 (And.intro ⟨rfl, rfl, Nat.le_of_ble_eq_true rfl, rfl, rfl, rfl, ⟨0, _, rfl, rfl⟩⟩ (And.intro (Nat.le_refl _) (And.intro (Nat.le_refl _) ?_)))))))
  refine t_hasHouse (fun _ => ?_) (fun c => absurd (inR_nI ha (by omega)) c)
  refine br_f ((by decide)) ?_
  refine Exists.intro (a) (And.intro (rfl) (And.intro ⟨by omega, by omega⟩ ?_))
  exact fin0 (hQ)
theorem bt_has : ∀ m, m < 64 → ∀ a, a < 6 → ((nI m >>> (nI a &&& 31)) &&& 1 = 1 ↔ m.testBit a = true) := by decide +kernel
theorem bt_tog : ∀ m, m < 64 → ∀ a, a < 6 → nI m ^^^ ((1 : Int32) <<< (nI a &&& 31)) = nI (m ^^^ 2 ^ a) := by decide +kernel
theorem t_hasMouse (hx : x = nI a) (ha : a < 6) (hM : M < 64) (hT : M.testBit a = true → Q (some (.int 1)) (nc 0 kd th wi hs rm (nI M) dy)) (hF : ¬ M.testBit a = true → Q (some (.int 0)) (nc 0 kd th wi hs rm (nI M) dy)) : callok (d + 1) 35 0 0 [.ref 0, .int x] (nc 0 kd th wi hs rm (nI M) dy) Q := by
  subst hx
  refine beg rfl (gs [] ?_)
  refine br_c (fun c => ?_) (fun c => ?_)
  · exact And.intro (Or.inr rfl) (fin0 (hT ((bt_has M hM a ha).mp c)))
  · exact And.intro (Or.inl rfl) (fin0 (hF (fun z => c ((bt_has M hM a ha).mpr z))))
theorem t_toggleMouse (hx : x = nI a) (ha : a < 6) (hM : M < 64) (hQ : Q none (nc 0 kd th wi hs rm (nI (M ^^^ 2 ^ a)) dy)) : callok (d + 1) 36 0 0 [.ref 0, .int x] (nc 0 kd th wi hs rm (nI M) dy) Q := by
  subst hx
  refine beg rfl (gs [] ?_)
  rw [← bt_tog M hM a ha] at hQ
  exact fin0 (hQ)
theorem t_mice (hM : M < 64) (hQ : Q (some (.int (nI (pop 10 M)))) (nc 0 kd th wi hs rm (nI M) dy)) : callok (d + 2) 37 0 0 [.ref 0] (nc 0 kd th wi hs rm (nI M) dy) Q := by
  refine beg rfl (gs [] ?_)
  refine Exists.intro [] (Exists.intro [.int (nI M)] (Exists.intro ([]) (Exists.intro 0 (Exists.intro 0 (And.intro ⟨rfl, rfl, Nat.le_of_ble_eq_true rfl, rfl, rfl, rfl, trivial⟩ (And.intro (Nat.le_refl _) (And.intro (Nat.le_refl _) ?_)))))))
  refine t_bitCount (h := []) rfl (by omega) ?_
  exact fin0 (hQ)
theorem t_wish (hx : x = nI a) (ha : a < R) (hR : R ≤ 5) (hQ : Q (some (.int (wi a))) (nc 0 kd th wi hs (nI R) mb dy)) : callok (d + 2) 38 0 0 [.ref 0, .int x] (nc 0 kd th wi hs (nI R) mb dy) Q := by
  subst hx
  refine beg rfl (gs [] ?_)
  refine Exists.intro [0, 1, 2, 3] (Exists.intro [.ref 0, .int (nI a)] (Exists.intro (nc 0 kd th wi hs (nI R) mb dy) (Exists.intro 0 (Exists.intro 0 (And.intro ⟨rfl, rfl, Nat.le_of_ble_eq_true rfl, rfl, rfl, rfl, ⟨0, _, rfl, rfl⟩⟩ (And.intro (Nat.le_refl _) (And.intro (Nat.le_refl _) ?_)))))))
  refine t_hasRoom (fun _ => ?_) (fun c => absurd (inR_nI ha (by omega)) c)
  refine br_f ((by decide)) ?_
  refine Exists.intro (a) (And.intro (rfl) (And.intro ⟨by omega, by omega⟩ ?_))
  exact fin0 (hQ)
theorem t_setWish (hx : x = nI a) (ha : a < R) (hR : R ≤ 5) (hQ : Q none (nc 0 kd th (upd wi a v) hs (nI R) mb dy)) : callok (d + 2) 39 0 0 [.ref 0, .int x, .int v] (nc 0 kd th wi hs (nI R) mb dy) Q := by
  subst hx
  refine beg rfl (gs [] ?_)
  refine Exists.intro [0, 1, 2, 3] (Exists.intro [.ref 0, .int (nI a)] (Exists.intro (nc 0 kd th wi hs (nI R) mb dy) (Exists.intro 0 (Exists.intro 0 (And.intro ⟨rfl, rfl, Nat.le_of_ble_eq_true rfl, rfl, rfl, rfl, ⟨0, _, rfl, rfl⟩⟩ (And.intro (Nat.le_refl _) (And.intro (Nat.le_refl _) ?_)))))))
  refine t_hasRoom (fun _ => ?_) (fun c => absurd (inR_nI ha (by omega)) c)
  refine br_f ((by decide)) ?_
  refine Exists.intro (a) (And.intro (rfl) (And.intro ⟨by omega, by omega⟩ ?_))
  exact fin0 (hQ)
/-- how many of the first k rooms at the top have something wanted -/
def wsN (wi : Nat → Int32) : Nat → Nat
  | 0 => 0
  | k + 1 => if wi k = 10 then wsN wi k else wsN wi k + 1
theorem t_wishes (hR : R ≤ 5) (hQ : Q (some (.int (nI (wsN wi R)))) (nc 0 kd th wi hs (nI R) mb dy)) : callok (d + 3) 40 0 0 [.ref 0] (nc 0 kd th wi hs (nI R) mb dy) Q := by
  refine beg rfl (gs [4] ?_)
  refine up (W := fun k => wp (0, 0, callok (d + 2)) (mcode 40) (qE 0 0 Q) 4 [some (.ref 0), some (.int (nI (wsN wi k))), some (.int (nI k))] [] (nc 0 kd th wi hs (nI R) mb dy) 0 0) R ?_ ?_
  · refine gs [4] ?_
    refine br_f ((nI_nlt (by omega) (by omega))) ?_
    exact fin0 (hQ)
  · intro k hk ih
    refine gs [4] ?_
    refine br_t ((nI_lt hk (by omega))) ?_
    refine Exists.intro [0, 1, 2, 3] (Exists.intro [.ref 0, .int (nI k)] (Exists.intro (nc 0 kd th wi hs (nI R) mb dy) (Exists.intro 0 (Exists.intro 0 (And.intro ⟨rfl, rfl, Nat.le_of_ble_eq_true rfl, rfl, rfl, rfl, ⟨0, _, rfl, rfl⟩⟩ (And.intro (Nat.le_refl _) (And.intro (Nat.le_refl _) ?_)))))))
    refine t_wish rfl hk hR ?_
    rw [wsN, nI_succ k] at ih
    refine br_c (fun c => ?_) (fun c => ?_)
    · rw [if_pos c] at ih
      exact ih
    · rw [if_neg c, nI_succ] at ih
      exact ih
/-- the rooms below k at the top, as bits, in which what is wanted stands -/
def metN (wi th : Nat → Int32) : Nat → Nat
  | 0 => 0
  | k + 1 => if wi k = th k then metN wi th k + 2 ^ k else metN wi th k
theorem metN_lt {wi th : Nat → Int32} : ∀ k, metN wi th k < 2 ^ k
  | 0 => Nat.one_pos
  | k + 1 => by
    have := metN_lt (wi := wi) (th := th) k
    rw [metN, Nat.pow_succ]
    split <;> omega
theorem bt_or : ∀ k, k < 10 → ∀ m, m < 2 ^ k → nI m ||| ((1 : Int32) <<< (nI k &&& 31)) = nI (m + 2 ^ k) := by decide +kernel
theorem t_metRooms (hR : R ≤ 5) (hQ : Q (some (.int (nI (metN wi th R)))) (nc 0 kd th wi hs (nI R) mb dy)) : callok (d + 3) 41 0 0 [.ref 0] (nc 0 kd th wi hs (nI R) mb dy) Q := by
  refine beg rfl (gs [4] ?_)
  refine up (W := fun k => wp (0, 0, callok (d + 2)) (mcode 41) (qE 0 0 Q) 4 [some (.ref 0), some (.int (nI (metN wi th k))), some (.int (nI k))] [] (nc 0 kd th wi hs (nI R) mb dy) 0 0) R ?_ ?_
  · refine gs [4] ?_
    refine br_f ((nI_nlt (by omega) (by omega))) ?_
    exact fin0 (hQ)
  · intro k hk ih
    refine gs [4] ?_
    refine br_t ((nI_lt hk (by omega))) ?_
    refine Exists.intro [0, 1, 2, 3] (Exists.intro [.ref 0, .int (nI k)] (Exists.intro (nc 0 kd th wi hs (nI R) mb dy) (Exists.intro 0 (Exists.intro 0 (And.intro ⟨rfl, rfl, Nat.le_of_ble_eq_true rfl, rfl, rfl, rfl, ⟨0, _, rfl, rfl⟩⟩ (And.intro (Nat.le_refl _) (And.intro (Nat.le_refl _) ?_)))))))
    refine t_wish rfl hk hR ?_
    refine Exists.intro [0, 1, 2, 3] (Exists.intro [.ref 0, .int 0, .int (nI k)] (Exists.intro (nc 0 kd th wi hs (nI R) mb dy) (Exists.intro 0 (Exists.intro 0 (And.intro ⟨rfl, rfl, Nat.le_of_ble_eq_true rfl, rfl, rfl, rfl, ⟨0, _, rfl, rfl⟩⟩ (And.intro (Nat.le_refl _) (And.intro (Nat.le_refl _) ?_)))))))
    refine t_thing (a := 0) rfl rfl (by omega) (by omega) ?_
    rw [metN, nI_succ k] at ih
    have e0 : th (5 * 0 + k) = th k := by rw [Nat.mul_zero, Nat.zero_add]
    rw [e0]
    refine br_c (fun c => ?_) (fun c => ?_)
    · rw [if_pos c, ← bt_or k (by omega) _ (metN_lt k)] at ih
      exact ih
    · rw [if_neg c] at ih
      exact ih
end NU
