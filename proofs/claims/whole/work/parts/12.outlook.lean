/-! OUTLOOK: object, its trial at 1, two rows, now at 7 -/
abbrev NV : Type := (Nat → Int32) × (Nat → Int32) × (Nat → Int32) × Int32 × Int32 × Int32 × Int32
abbrev nv (b : Nat) (T : NV) : List aC := nc b T.1 T.2.1 T.2.2.1 T.2.2.2.1 T.2.2.2.2.1 T.2.2.2.2.2.1 T.2.2.2.2.2.2
abbrev ow (T : NV) (mby vby : Nat → Int32) (N : NV) : List aC := ao 3 [.ref 1, .ref 5, .ref 6] :: (nv 1 T ++ [ai 10 mby, ai 5 vby] ++ nv 7 N)
section OU
variable {d : Nat} {kd th wi : Nat → Int32} {hs rm mb dy : Int32} {H R M a b n : Nat} {x y v w : Int32} {T : NV} {mby vby : Nat → Int32} {Q : Option Value → List aC → Prop}
theorem t_thingBehind (hx : x = nI n) (hy : y = nI a) (hv : v = nI b) (hn : n ≤ 1000) (ha : a < 6) (hb : b < 5) (hM : M < 64) (h0 : 0 < H) (hH : H ≤ 6) (hR : R ≤ 5) (hQ : ∀ T, Q (some (.int (itT kd M H R n th (5 * a + b)))) (ow T mby vby (kd, th, wi, nI H, nI R, nI M, dy))) : callok (d + 6) 53 0 0 [.ref 0, .ref 7, .int x, .int y, .int v] (ow T mby vby (kd, th, wi, nI H, nI R, nI M, dy)) Q := by
  refine beg rfl (gs [] ?_)
  refine Exists.intro [1, 2, 3, 4, 7, 8, 9, 10] (Exists.intro [.ref 0, .ref 4] (Exists.intro (nv 0 T ++ nc 4 kd th wi (nI H) (nI R) (nI M) dy) (Exists.intro 0 (Exists.intro 0 (And.intro ⟨rfl, rfl, Nat.le_of_ble_eq_true rfl, rfl, rfl, rfl, ⟨0, _, rfl, rfl⟩⟩ (And.intro (Nat.le_refl _) (And.intro (Nat.le_refl _) ?_)))))))
  refine t_become ?_
  show runS _ _ _ _ _ _ _ [] (ow (kd, th, wi, nI H, nI R, nI M, dy) mby vby (kd, th, wi, nI H, nI R, nI M, dy)) _ _
  refine Exists.intro [1, 2, 3, 4] (Exists.intro [.ref 0, .int x] (Exists.intro (nc 0 kd th wi (nI H) (nI R) (nI M) dy) (Exists.intro 0 (Exists.intro 0 (And.intro ⟨rfl, rfl, Nat.le_of_ble_eq_true rfl, rfl, rfl, rfl, ⟨0, _, rfl, rfl⟩⟩ (And.intro (Nat.le_refl _) (And.intro (Nat.le_refl _) ?_)))))))
  refine t_live hx hn hM h0 hH hR ?_
  show runS _ _ _ _ _ _ _ [] (ow (kd, itT kd M H R n th, wi, nI H, nI R, nI M, dy) mby vby (kd, th, wi, nI H, nI R, nI M, dy)) _ _
  refine Exists.intro [1, 2, 3, 4] (Exists.intro [.ref 0, .int y, .int v] (Exists.intro (nc 0 kd (itT kd M H R n th) wi (nI H) (nI R) (nI M) dy) (Exists.intro 0 (Exists.intro 0 (And.intro ⟨rfl, rfl, Nat.le_of_ble_eq_true rfl, rfl, rfl, rfl, ⟨0, _, rfl, rfl⟩⟩ (And.intro (Nat.le_refl _) (And.intro (Nat.le_refl _) ?_)))))))
  refine t_thing hy hv ha hb ?_
  exact fin0 (hQ (kd, itT kd M H R n th, wi, nI H, nI R, nI M, dy))
theorem t_metBehind (hx : x = nI n) (hn : n ≤ 1000) (hM : M < 64) (h0 : 0 < H) (hH : H ≤ 6) (hR : R ≤ 5) (hQ : ∀ T, Q (some (.int (nI (metN wi (itT kd M H R n th) R)))) (ow T mby vby (kd, th, wi, nI H, nI R, nI M, dy))) : callok (d + 6) 54 0 0 [.ref 0, .ref 7, .int x] (ow T mby vby (kd, th, wi, nI H, nI R, nI M, dy)) Q := by
  refine beg rfl (gs [] ?_)
  refine Exists.intro [1, 2, 3, 4, 7, 8, 9, 10] (Exists.intro [.ref 0, .ref 4] (Exists.intro (nv 0 T ++ nc 4 kd th wi (nI H) (nI R) (nI M) dy) (Exists.intro 0 (Exists.intro 0 (And.intro ⟨rfl, rfl, Nat.le_of_ble_eq_true rfl, rfl, rfl, rfl, ⟨0, _, rfl, rfl⟩⟩ (And.intro (Nat.le_refl _) (And.intro (Nat.le_refl _) ?_)))))))
  refine t_become ?_
  show runS _ _ _ _ _ _ _ [] (ow (kd, th, wi, nI H, nI R, nI M, dy) mby vby (kd, th, wi, nI H, nI R, nI M, dy)) _ _
  refine Exists.intro [1, 2, 3, 4] (Exists.intro [.ref 0, .int x] (Exists.intro (nc 0 kd th wi (nI H) (nI R) (nI M) dy) (Exists.intro 0 (Exists.intro 0 (And.intro ⟨rfl, rfl, Nat.le_of_ble_eq_true rfl, rfl, rfl, rfl, ⟨0, _, rfl, rfl⟩⟩ (And.intro (Nat.le_refl _) (And.intro (Nat.le_refl _) ?_)))))))
  refine t_live hx hn hM h0 hH hR ?_
  show runS _ _ _ _ _ _ _ [] (ow (kd, itT kd M H R n th, wi, nI H, nI R, nI M, dy) mby vby (kd, th, wi, nI H, nI R, nI M, dy)) _ _
  refine Exists.intro [1, 2, 3, 4] (Exists.intro [.ref 0] (Exists.intro (nc 0 kd (itT kd M H R n th) wi (nI H) (nI R) (nI M) dy) (Exists.intro 0 (Exists.intro 0 (And.intro ⟨rfl, rfl, Nat.le_of_ble_eq_true rfl, rfl, rfl, rfl, ⟨0, _, rfl, rfl⟩⟩ (And.intro (Nat.le_refl _) (And.intro (Nat.le_refl _) ?_)))))))
  refine t_metRooms hR ?_
  exact fin0 (hQ (kd, itT kd M H R n th, wi, nI H, nI R, nI M, dy))
/-- behind how many days v stands in room b at the top first, f days looked at, n gone -/
def fdG (kd : Nat → Int32) (M H R b : Nat) (v : Int32) : Nat → Nat → (Nat → Int32) → Int32
  | 0, _, _ => -4
  | f + 1, n, th => if th b = v then nI n else fdG kd M H R b v f (n + 1) (dayT kd th M H R)
theorem t_firstDayOf (hx : x = nI b) (hb : b < 5) (hM : M < 64) (h0 : 0 < H) (hH : H ≤ 6) (hR : R ≤ 5) (hQ : ∀ T, Q (some (.int (fdG kd M H R b v 41 0 th))) (ow T mby vby (kd, th, wi, nI H, nI R, nI M, dy))) : callok (d + 5) 55 0 0 [.ref 0, .ref 7, .int x, .int v] (ow T mby vby (kd, th, wi, nI H, nI R, nI M, dy)) Q := by
  refine beg rfl (gs [11] ?_)
  refine Exists.intro [1, 2, 3, 4, 7, 8, 9, 10] (Exists.intro [.ref 0, .ref 4] (Exists.intro (nv 0 T ++ nc 4 kd th wi (nI H) (nI R) (nI M) dy) (Exists.intro 0 (Exists.intro 0 (And.intro ⟨rfl, rfl, Nat.le_of_ble_eq_true rfl, rfl, rfl, rfl, ⟨0, _, rfl, rfl⟩⟩ (And.intro (Nat.le_refl _) (And.intro (Nat.le_refl _) ?_)))))))
  refine t_become ?_
  have key : ∀ f n (th' : Nat → Int32), n + f = 41 → fdG kd M H R b v f n th' = fdG kd M H R b v 41 0 th → wp (0, 0, callok (d + 4)) (mcode 55) (qE 0 0 Q) 11 [some (.ref 0), some (.ref 7), some (.int x), some (.int v), some (.int (nI n))] [] (ow (kd, th', wi, nI H, nI R, nI M, dy) mby vby (kd, th, wi, nI H, nI R, nI M, dy)) 0 0 := by
    intro f
    induction f with
    | zero =>
      intro n th' hn e
      refine gs [11] ?_
      refine br_t ((show (40 : Int32) < nI n from nI_lt (a := 40) (by omega) (by omega))) ?_
      rw [← e] at hQ
      exact fin0 (hQ _)
    | succ f ih =>
      intro n th' hn e
      refine gs [11] ?_
      refine br_f ((show ¬ (40 : Int32) < nI n from nI_nlt (a := 40) (by omega) (by omega))) ?_
      refine Exists.intro [1, 2, 3, 4] (Exists.intro [.ref 0, .int 0, .int x] (Exists.intro (nc 0 kd th' wi (nI H) (nI R) (nI M) dy) (Exists.intro 0 (Exists.intro 0 (And.intro ⟨rfl, rfl, Nat.le_of_ble_eq_true rfl, rfl, rfl, rfl, ⟨0, _, rfl, rfl⟩⟩ (And.intro (Nat.le_refl _) (And.intro (Nat.le_refl _) ?_)))))))
      refine t_thing (a := 0) rfl hx (by omega) hb ?_
      rw [show 5 * 0 + b = b by omega]
      show runS _ _ _ _ _ _ _ [.int (th' b)] (ow (kd, th', wi, nI H, nI R, nI M, dy) mby vby (kd, th, wi, nI H, nI R, nI M, dy)) _ _
      rw [fdG] at e
      refine br_c (fun c => ?_) (fun c => ?_)
      · rw [if_pos c] at e
        rw [← e] at hQ
        exact fin0 (hQ (kd, th', wi, nI H, nI R, nI M, dy))
      · rw [if_neg c] at e
        refine Exists.intro [1, 2, 3, 4] (Exists.intro [.ref 0] (Exists.intro (nc 0 kd th' wi (nI H) (nI R) (nI M) dy) (Exists.intro 0 (Exists.intro 0 (And.intro ⟨rfl, rfl, Nat.le_of_ble_eq_true rfl, rfl, rfl, rfl, ⟨0, _, rfl, rfl⟩⟩ (And.intro (Nat.le_refl _) (And.intro (Nat.le_refl _) ?_)))))))
        refine t_comeUp hM hH hR (fun r2 g1 g2 => ?_) h0
        have h9 := ih (n + 1) (dayT kd th' M H R) (by omega) e
        rw [nI_succ] at h9
        exact h9
  exact key 41 0 th (by omega) rfl
/-- behind how many days a day changes nothing first -/
noncomputable def fqG (kd : Nat → Int32) (M H R : Nat) : Nat → Nat → (Nat → Int32) → Int32
  | 0, _, _ => -4
  | f + 1, n, th => @ite Int32 (dayT kd th M H R = th) (Classical.propDecidable _) (nI n) (fqG kd M H R f (n + 1) (dayT kd th M H R))
theorem t_firstQuietDay (hM : M < 64) (h0 : 0 < H) (hH : H ≤ 6) (hR : R ≤ 5) (hQ : ∀ T, Q (some (.int (fqG kd M H R 41 0 th))) (ow T mby vby (kd, th, wi, nI H, nI R, nI M, dy))) : callok (d + 5) 56 0 0 [.ref 0, .ref 7] (ow T mby vby (kd, th, wi, nI H, nI R, nI M, dy)) Q := by
  refine beg rfl (gs [10] ?_)
  refine Exists.intro [1, 2, 3, 4, 7, 8, 9, 10] (Exists.intro [.ref 0, .ref 4] (Exists.intro (nv 0 T ++ nc 4 kd th wi (nI H) (nI R) (nI M) dy) (Exists.intro 0 (Exists.intro 0 (And.intro ⟨rfl, rfl, Nat.le_of_ble_eq_true rfl, rfl, rfl, rfl, ⟨0, _, rfl, rfl⟩⟩ (And.intro (Nat.le_refl _) (And.intro (Nat.le_refl _) ?_)))))))
  refine t_become ?_
  have key : ∀ f n (th' : Nat → Int32), n + f = 41 → fqG kd M H R f n th' = fqG kd M H R 41 0 th → wp (0, 0, callok (d + 4)) (mcode 56) (qE 0 0 Q) 10 [some (.ref 0), some (.ref 7), some (.int (nI n))] [] (ow (kd, th', wi, nI H, nI R, nI M, dy) mby vby (kd, th, wi, nI H, nI R, nI M, dy)) 0 0 := by
    intro f
    induction f with
    | zero =>
      intro n th' hn e
      refine gs [10] ?_
      refine br_t ((show (40 : Int32) < nI n from nI_lt (a := 40) (by omega) (by omega))) ?_
      rw [← e] at hQ
      exact fin0 (hQ _)
    | succ f ih =>
      intro n th' hn e
      refine gs [10] ?_
      refine br_f ((show ¬ (40 : Int32) < nI n from nI_nlt (a := 40) (by omega) (by omega))) ?_
      refine Exists.intro [1, 2, 3, 4] (Exists.intro [.ref 0] (Exists.intro (nc 0 kd th' wi (nI H) (nI R) (nI M) dy) (Exists.intro 0 (Exists.intro 0 (And.intro ⟨rfl, rfl, Nat.le_of_ble_eq_true rfl, rfl, rfl, rfl, ⟨0, _, rfl, rfl⟩⟩ (And.intro (Nat.le_refl _) (And.intro (Nat.le_refl _) ?_)))))))
      refine t_comeUp hM hH hR (fun r2 g1 g2 => ?_) h0
      rw [fqG] at e
      refine br_c (fun c => ?_) (fun c => ?_)
      · rw [if_pos (g2.mp c)] at e
        rw [← e] at hQ
        exact fin0 (hQ (kd, dayT kd th' M H R, wi, nI H, nI R, nI M, dy))
      · rw [if_neg (fun z => c (g2.mpr z))] at e
        have h9 := ih (n + 1) (dayT kd th' M H R) (by omega) e
        rw [nI_succ] at h9
        exact h9
  exact key 41 0 th (by omega) rfl
/-- what is met behind n days, were v in all rooms of house a -/
abbrev tyM (kd th wi : Nat → Int32) (M H R n a v : Nat) : Nat := metN wi (itT kd M H R n (plA (nI v) th a R)) R
def tyT (kd th wi : Nat → Int32) (M H R n a : Nat) (mby : Nat → Int32) : Nat → Nat → Int32
  | 0 => mby
  | k + 1 => upd (tyT kd th wi M H R n a mby k) k (nI (tyM kd th wi M H R n a k))
theorem tyT_eq {kd th wi mby : Nat → Int32} {M H R n a : Nat} : ∀ {k j : Nat}, j < k → tyT kd th wi M H R n a mby k j = nI (tyM kd th wi M H R n a j)
  | 0, j, h => absurd h (Nat.not_lt_zero j)
  | k + 1, j, h => by
    rw [tyT]
    by_cases e : j = k
    · rw [e, up_s]
    · rw [up_n _ _ e]
      exact tyT_eq (by omega)
theorem t_tryThings (hx : x = nI n) (hy : y = nI a) (hn : n ≤ 1000) (ha : a < 6) (hM : M < 64) (h0 : 0 < H) (hH : H ≤ 6) (hR : R ≤ 5) (hQ : ∀ T, Q none (ow T (fun v => nI (tyM kd th wi M H R n a v)) vby (kd, th, wi, nI H, nI R, nI M, dy))) : callok (d + 6) 60 0 0 [.ref 0, .ref 7, .int x, .int y] (ow T mby vby (kd, th, wi, nI H, nI R, nI M, dy)) Q := by
  refine beg rfl (gs [3] ?_)
  have key := up (W := fun k => ∀ T, wp (0, 0, callok (d + 5)) (mcode 60) (qE 0 0 Q) 3 [some (.ref 0), some (.ref 7), some (.int x), some (.int y), some (.int (nI k))] [] (ow T (tyT kd th wi M H R n a mby k) vby (kd, th, wi, nI H, nI R, nI M, dy)) 0 0) 10 ?_ ?_
  · exact key T
  · intro T
    refine gs [3] ?_
    refine br_f ((show ¬ nI 10 < (10 : Int32) by decide)) ?_
    refine finE (h' := ow T (fun v => nI (tyM kd th wi M H R n a v)) vby (kd, th, wi, nI H, nI R, nI M, dy)) ?_ (hQ T)
    exact ⟨rfl, ⟨rfl, ⟨rfl, fun _ _ => rfl⟩, ⟨rfl, fun _ _ => rfl⟩, ⟨rfl, fun _ _ => rfl⟩, ⟨rfl, fun j hj => tyT_eq hj⟩, hE_rf _⟩⟩
  · intro k hk ih T
    refine gs [3] ?_
    refine br_t ((show nI k < (10 : Int32) from nI_lt (b := 10) hk (by omega))) ?_
    refine Exists.intro [1, 2, 3, 4, 7, 8, 9, 10] (Exists.intro [.ref 0, .ref 4] (Exists.intro (nv 0 T ++ nc 4 kd th wi (nI H) (nI R) (nI M) dy) (Exists.intro 0 (Exists.intro 0 (And.intro ⟨rfl, rfl, Nat.le_of_ble_eq_true rfl, rfl, rfl, rfl, ⟨0, _, rfl, rfl⟩⟩ (And.intro (Nat.le_refl _) (And.intro (Nat.le_refl _) ?_)))))))
    refine t_become ?_
    show runS _ _ _ _ _ _ _ [] (ow (kd, th, wi, nI H, nI R, nI M, dy) (tyT kd th wi M H R n a mby k) vby (kd, th, wi, nI H, nI R, nI M, dy)) _ _
    refine Exists.intro [1, 2, 3, 4] (Exists.intro [.ref 0, .int y, .int (nI k)] (Exists.intro (nc 0 kd th wi (nI H) (nI R) (nI M) dy) (Exists.intro 0 (Exists.intro 0 (And.intro ⟨rfl, rfl, Nat.le_of_ble_eq_true rfl, rfl, rfl, rfl, ⟨0, _, rfl, rfl⟩⟩ (And.intro (Nat.le_refl _) (And.intro (Nat.le_refl _) ?_)))))))
    refine t_placeAll hy ha hR ?_
    show runS _ _ _ _ _ _ _ [] (ow (kd, plA (nI k) th a R, wi, nI H, nI R, nI M, dy) (tyT kd th wi M H R n a mby k) vby (kd, th, wi, nI H, nI R, nI M, dy)) _ _
    refine Exists.intro [1, 2, 3, 4] (Exists.intro [.ref 0, .int x] (Exists.intro (nc 0 kd (plA (nI k) th a R) wi (nI H) (nI R) (nI M) dy) (Exists.intro 0 (Exists.intro 0 (And.intro ⟨rfl, rfl, Nat.le_of_ble_eq_true rfl, rfl, rfl, rfl, ⟨0, _, rfl, rfl⟩⟩ (And.intro (Nat.le_refl _) (And.intro (Nat.le_refl _) ?_)))))))
    refine t_live hx hn hM h0 hH hR ?_
    show runS _ _ _ _ _ _ _ [] (ow (kd, itT kd M H R n (plA (nI k) th a R), wi, nI H, nI R, nI M, dy) (tyT kd th wi M H R n a mby k) vby (kd, th, wi, nI H, nI R, nI M, dy)) _ _
    refine Exists.intro [1, 2, 3, 4] (Exists.intro [.ref 0] (Exists.intro (nc 0 kd (itT kd M H R n (plA (nI k) th a R)) wi (nI H) (nI R) (nI M) dy) (Exists.intro 0 (Exists.intro 0 (And.intro ⟨rfl, rfl, Nat.le_of_ble_eq_true rfl, rfl, rfl, rfl, ⟨0, _, rfl, rfl⟩⟩ (And.intro (Nat.le_refl _) (And.intro (Nat.le_refl _) ?_)))))))
    refine t_metRooms hR ?_
    refine Exists.intro (k) (And.intro (rfl) (And.intro ⟨by omega, by omega⟩ ?_))
    have h9 := ih (kd, itT kd M H R n (plA (nI k) th a R), wi, nI H, nI R, nI M, dy)
    rw [nI_succ] at h9
    exact h9
end OU
