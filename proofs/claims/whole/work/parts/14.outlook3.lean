/-! OUTLOOK: one pin, a mouse, the most telling room -/
section OW
variable {d : Nat} {kd th wi : Nat → Int32} {hs rm mb dy : Int32} {H R M a b n : Nat} {x y v w : Int32} {T : NV} {mby vby : Nat → Int32} {Q : Option Value → List aC → Prop}
theorem t_bestPin (hx : x = nI n) (hn : n ≤ 1000) (hM : M < 64) (h0 : 0 < H) (hH : H ≤ 6) (hR : R ≤ 5)
    (hQ : ∀ T mby, Q (some (.int (if y = 0 then (bpH kd th wi M H R n H 0 (-1, 0)).1 else (bpH kd th wi M H R n H 0 (-1, 0)).2))) (ow T mby vby (kd, th, wi, nI H, nI R, nI M, dy))) : callok (d + 7) 59 0 0 [.ref 0, .ref 7, .int x, .int y] (ow T mby vby (kd, th, wi, nI H, nI R, nI M, dy)) Q := by
  have hmet : (metN wi (itT kd M H R n th) R) < 32 := metN_32 hR
  have kV : ∀ (h r : Nat) (T : NV) (v11 : Option Value), h < H → r < R → ∀ (f k : Nat) (s e : Int32 × Int32), k + f = 10 → bpV kd th R (metN wi (itT kd M H R n th) R) (tyM kd th wi M H R n h) h r f k s = e → (∀ (v10 v11 : Option Value), wp (0, 0, callok (d + 6)) (mcode 59) (qE 0 0 Q) 138 [some (.ref 0), some (.ref 7), some (.int x), some (.int y), some (.int (nI (metN wi (itT kd M H R n th) R))), some (.int e.1), some (.int e.2), some (.int (nI h)), some (.int (nI r)), some (.int ((1 : Int32) <<< (nI (upA kd R 0 h r) &&& 31))), v10, v11] [] (ow T (fun v => nI (tyM kd th wi M H R n h v)) vby (kd, th, wi, nI H, nI R, nI M, dy)) 0 0) → ∀ v11 : Option Value, wp (0, 0, callok (d + 6)) (mcode 59) (qE 0 0 Q) 62 [some (.ref 0), some (.ref 7), some (.int x), some (.int y), some (.int (nI (metN wi (itT kd M H R n th) R))), some (.int s.1), some (.int s.2), some (.int (nI h)), some (.int (nI r)), some (.int ((1 : Int32) <<< (nI (upA kd R 0 h r) &&& 31))), some (.int (nI k)), v11] [] (ow T (fun v => nI (tyM kd th wi M H R n h v)) vby (kd, th, wi, nI H, nI R, nI M, dy)) 0 0 := by
    intro h r T v11 hh hr f
    have htop : upA kd R 0 h r < R := upA_lt _ _ hr
    induction f with
    | zero =>
      intro k s e hk ee hE v11
      cases ee
      refine gs [62, 138] ?_
      refine br_f ((show ¬ nI k < (10 : Int32) from nI_nlt (b := 10) (by omega) (by omega))) ?_
      exact hE _ _
    | succ f ih =>
      intro k s e hk ee hE v11
      refine gs [62, 138] ?_
      refine br_t ((show nI k < (10 : Int32) from nI_lt (b := 10) (by omega) (by omega))) ?_
      refine Exists.intro (k) (And.intro (rfl) (And.intro ⟨by omega, by omega⟩ ?_))
      have hmix := bt_mix (upA kd R 0 h r) (by omega) (metN wi (itT kd M H R n th) R) hmet (tyM kd th wi M H R n h k) (metN_32 hR)
      refine Exists.intro [] (Exists.intro [.int ((nI (metN wi (itT kd M H R n th) R) &&& (((1 : Int32) <<< (nI (upA kd R 0 h r) &&& 31)) ^^^ (-1))) ||| (nI (tyM kd th wi M H R n h k) &&& ((1 : Int32) <<< (nI (upA kd R 0 h r) &&& 31))))] (Exists.intro ([]) (Exists.intro 0 (Exists.intro 0 (And.intro ⟨rfl, rfl, Nat.le_of_ble_eq_true rfl, rfl, rfl, rfl, trivial⟩ (And.intro (Nat.le_refl _) (And.intro (Nat.le_refl _) ?_)))))))
      refine t_bitCount (h := []) hmix.1 (by have := hmix.2; omega) ?_
      rw [bpV] at ee
      show runS _ _ _ _ _ _ [some (.ref 0), some (.ref 7), some (.int x), some (.int y), some (.int (nI (metN wi (itT kd M H R n th) R))), some (.int s.1), some (.int s.2), some (.int (nI h)), some (.int (nI r)), some (.int ((1 : Int32) <<< (nI (upA kd R 0 h r) &&& 31))), some (.int (nI k)), v11] [.int (nI (pop 10 (mxB (metN wi (itT kd M H R n th) R) (tyM kd th wi M H R n h k) (upA kd R 0 h r))))] (ow T (fun v => nI (tyM kd th wi M H R n h v)) vby (kd, th, wi, nI H, nI R, nI M, dy)) _ _
      generalize hnb : nI (pop 10 (mxB (metN wi (itT kd M H R n th) R) (tyM kd th wi M H R n h k) (upA kd R 0 h r))) = nb at ee
      refine br_c (fun c => ?_) (fun c => ?_)
      · refine Exists.intro [7, 8, 9, 10] (Exists.intro [.ref 0, .int (nI h), .int (nI r)] (Exists.intro (nc 0 kd th wi (nI H) (nI R) (nI M) dy) (Exists.intro 0 (Exists.intro 0 (And.intro ⟨rfl, rfl, Nat.le_of_ble_eq_true rfl, rfl, rfl, rfl, ⟨0, _, rfl, rfl⟩⟩ (And.intro (Nat.le_refl _) (And.intro (Nat.le_refl _) ?_)))))))
        refine t_thing rfl rfl (by omega) (by omega) ?_
        show runS _ _ _ _ _ _ [some (.ref 0), some (.ref 7), some (.int x), some (.int y), some (.int (nI (metN wi (itT kd M H R n th) R))), some (.int s.1), some (.int s.2), some (.int (nI h)), some (.int (nI r)), some (.int ((1 : Int32) <<< (nI (upA kd R 0 h r) &&& 31))), some (.int (nI k)), some (.int nb)] [.int (th (5 * h + r)), .int (nI k)] (ow T (fun v => nI (tyM kd th wi M H R n h v)) vby (kd, th, wi, nI H, nI R, nI M, dy)) _ _
        refine br_c (fun c2 => ?_) (fun c2 => ?_)
        · rw [if_neg (fun z => z.2 c2)] at ee
          have h9 := ih (k + 1) s e (by omega) ee hE (some (.int nb))
          rw [nI_succ k] at h9
          exact h9
        · rw [if_pos ⟨c, c2⟩] at ee
          have h9 := ih (k + 1) (nb, nI (100 * h + 10 * r + k)) e (by omega) ee hE (some (.int nb))
          have e100 : (100 : Int32) * nI h + 10 * nI r + nI k = nI (100 * h + 10 * r + k) := by
            rw [show (100 : Int32) = nI 100 from rfl, show (10 : Int32) = nI 10 from rfl, pk_mul, pk_mul, nI_add, nI_add]
          rw [nI_succ k, ← e100] at h9
          exact h9
      · rw [if_neg (fun z => c z.1)] at ee
        have h9 := ih (k + 1) s e (by omega) ee hE (some (.int nb))
        rw [nI_succ k] at h9
        exact h9
  have kR : ∀ (h : Nat) (T : NV), h < H → ∀ (f r : Nat) (s e : Int32 × Int32), r + f = R → bpR kd th R (metN wi (itT kd M H R n th) R) (tyM kd th wi M H R n h) h f r s = e → (∀ (v8 v9 v10 v11 : Option Value), wp (0, 0, callok (d + 6)) (mcode 59) (qE 0 0 Q) 144 [some (.ref 0), some (.ref 7), some (.int x), some (.int y), some (.int (nI (metN wi (itT kd M H R n th) R))), some (.int e.1), some (.int e.2), some (.int (nI h)), v8, v9, v10, v11] [] (ow T (fun v => nI (tyM kd th wi M H R n h v)) vby (kd, th, wi, nI H, nI R, nI M, dy)) 0 0) → ∀ v9 v10 v11 : Option Value, wp (0, 0, callok (d + 6)) (mcode 59) (qE 0 0 Q) 37 [some (.ref 0), some (.ref 7), some (.int x), some (.int y), some (.int (nI (metN wi (itT kd M H R n th) R))), some (.int s.1), some (.int s.2), some (.int (nI h)), some (.int (nI r)), v9, v10, v11] [] (ow T (fun v => nI (tyM kd th wi M H R n h v)) vby (kd, th, wi, nI H, nI R, nI M, dy)) 0 0 := by
    intro h T hh f
    induction f with
    | zero =>
      intro r s e hr ee hE v9 v10 v11
      cases ee
      refine gs [37, 144] ?_
      refine Exists.intro [7, 8, 9, 10] (Exists.intro [.ref 0] (Exists.intro (nc 0 kd th wi (nI H) (nI R) (nI M) dy) (Exists.intro 0 (Exists.intro 0 (And.intro ⟨rfl, rfl, Nat.le_of_ble_eq_true rfl, rfl, rfl, rfl, ⟨0, _, rfl, rfl⟩⟩ (And.intro (Nat.le_refl _) (And.intro (Nat.le_refl _) ?_)))))))
      refine t_rooms ?_
      refine br_f ((show ¬ nI r < nI R from nI_nlt (by omega) (by omega))) ?_
      exact hE _ _ _ _
    | succ f ih =>
      intro r s e hr ee hE v9 v10 v11
      refine gs [37, 62, 144] ?_
      refine Exists.intro [7, 8, 9, 10] (Exists.intro [.ref 0] (Exists.intro (nc 0 kd th wi (nI H) (nI R) (nI M) dy) (Exists.intro 0 (Exists.intro 0 (And.intro ⟨rfl, rfl, Nat.le_of_ble_eq_true rfl, rfl, rfl, rfl, ⟨0, _, rfl, rfl⟩⟩ (And.intro (Nat.le_refl _) (And.intro (Nat.le_refl _) ?_)))))))
      refine t_rooms ?_
      refine br_t ((show nI r < nI R from nI_lt (by omega) (by omega))) ?_
      refine Exists.intro [7, 8, 9, 10] (Exists.intro [.ref 0, .int (nI h), .int (nI r), .int 0] (Exists.intro (nc 0 kd th wi (nI H) (nI R) (nI M) dy) (Exists.intro 0 (Exists.intro 0 (And.intro ⟨rfl, rfl, Nat.le_of_ble_eq_true rfl, rfl, rfl, rfl, ⟨0, _, rfl, rfl⟩⟩ (And.intro (Nat.le_refl _) (And.intro (Nat.le_refl _) ?_)))))))
      refine t_roomAbove (A := 0) (n := h) (by rw [Nat.zero_add]) rfl rfl (by omega) (by omega) hR ?_
      rw [bpR] at ee
      refine kV h r T none hh (by omega) 10 0 s _ (by omega) rfl (fun v10 v11 => ?_) v11
      refine gs [37, 62, 144] ?_
      have h9 := ih (r + 1) _ e (by omega) ee hE (some (.int ((1 : Int32) <<< (nI (upA kd R 0 h r) &&& 31)))) v10 v11
      rw [nI_succ r] at h9
      exact h9
  have kH : ∀ (f h : Nat) (s : Int32 × Int32), h + f = H → bpH kd th wi M H R n f h s = bpH kd th wi M H R n H 0 (-1, 0) → ∀ (T : NV) (mby : Nat → Int32) (v8 v9 v10 v11 : Option Value), wp (0, 0, callok (d + 6)) (mcode 59) (qE 0 0 Q) 17 [some (.ref 0), some (.ref 7), some (.int x), some (.int y), some (.int (nI (metN wi (itT kd M H R n th) R))), some (.int s.1), some (.int s.2), some (.int (nI h)), v8, v9, v10, v11] [] (ow T mby vby (kd, th, wi, nI H, nI R, nI M, dy)) 0 0 := by
    intro f
    induction f with
    | zero =>
      intro h s hh ee T mby v8 v9 v10 v11
      refine gs [17] ?_
      refine Exists.intro [7, 8, 9, 10] (Exists.intro [.ref 0] (Exists.intro (nc 0 kd th wi (nI H) (nI R) (nI M) dy) (Exists.intro 0 (Exists.intro 0 (And.intro ⟨rfl, rfl, Nat.le_of_ble_eq_true rfl, rfl, rfl, rfl, ⟨0, _, rfl, rfl⟩⟩ (And.intro (Nat.le_refl _) (And.intro (Nat.le_refl _) ?_)))))))
      refine t_houses ?_
      refine br_f ((show ¬ nI h < nI H from nI_nlt (by omega) (by omega))) ?_
      rw [← ee] at hQ
      unfold bpH at hQ
      refine br_c (fun c => ?_) (fun c => ?_)
      · rw [if_pos c] at hQ
        exact fin0 (hQ _ _)
      · rw [if_neg c] at hQ
        exact fin0 (hQ _ _)
    | succ f ih =>
      intro h s hh ee T mby v8 v9 v10 v11
      refine gs [17, 37] ?_
      refine Exists.intro [7, 8, 9, 10] (Exists.intro [.ref 0] (Exists.intro (nc 0 kd th wi (nI H) (nI R) (nI M) dy) (Exists.intro 0 (Exists.intro 0 (And.intro ⟨rfl, rfl, Nat.le_of_ble_eq_true rfl, rfl, rfl, rfl, ⟨0, _, rfl, rfl⟩⟩ (And.intro (Nat.le_refl _) (And.intro (Nat.le_refl _) ?_)))))))
      refine t_houses ?_
      refine br_t ((show nI h < nI H from nI_lt (by omega) (by omega))) ?_
      show runS _ _ _ _ _ _ [some (.ref 0), some (.ref 7), some (.int x), some (.int y), some (.int (nI (metN wi (itT kd M H R n th) R))), some (.int s.1), some (.int s.2), some (.int (nI h)), v8, v9, v10, v11] [] (ow T mby vby (kd, th, wi, nI H, nI R, nI M, dy)) _ _
      refine Exists.intro [0, 1, 2, 3, 4, 5, 6, 7, 8, 9, 10] (Exists.intro [.ref 0, .ref 7, .int x, .int (nI h)] (Exists.intro (ow T mby vby (kd, th, wi, nI H, nI R, nI M, dy)) (Exists.intro 0 (Exists.intro 0 (And.intro ⟨rfl, rfl, Nat.le_of_ble_eq_true rfl, rfl, rfl, rfl, ⟨0, _, rfl, rfl⟩⟩ (And.intro (Nat.le_refl _) (And.intro (Nat.le_refl _) ?_)))))))
      refine t_tryThings hx rfl hn (by omega) hM h0 hH hR (fun T => ?_)
      rw [bpH] at ee
      refine kR h T (by omega) R 0 s _ (by omega) rfl (fun v8 v9 v10 v11 => ?_) v9 v10 v11
      refine gs [17, 37] ?_
      have h9 := ih (h + 1) _ (by omega) ee T (fun v => nI (tyM kd th wi M H R n h v)) v8 v9 v10 v11
      rw [nI_succ h] at h9
      exact h9
  refine beg rfl (gs [17] ?_)
  refine Exists.intro [0, 1, 2, 3, 4, 5, 6, 7, 8, 9, 10] (Exists.intro [.ref 0, .ref 7, .int x] (Exists.intro (ow T mby vby (kd, th, wi, nI H, nI R, nI M, dy)) (Exists.intro 0 (Exists.intro 0 (And.intro ⟨rfl, rfl, Nat.le_of_ble_eq_true rfl, rfl, rfl, rfl, ⟨0, _, rfl, rfl⟩⟩ (And.intro (Nat.le_refl _) (And.intro (Nat.le_refl _) ?_)))))))
  refine t_metBehind hx hn hM h0 hH hR (fun T => ?_)
  exact kH H 0 (-1, 0) (by omega) rfl T mby none none none none
theorem t_worstMouse (hx : x = nI n) (hn : n ≤ 1000) (hM : M < 64) (h0 : 0 < H) (hH : H ≤ 6) (hR : R ≤ 5)
    (hQ : ∀ T, Q (some (.int (if y = 0 then (if (wmR kd th wi M H R n H 0 (6, -4)).2 = -4 then (wmR kd th wi M H R n H 0 (6, -4)).2 else (wmR kd th wi M H R n H 0 (6, -4)).1) else (wmR kd th wi M H R n H 0 (6, -4)).2))) (ow T mby vby (kd, th, wi, nI H, nI R, nI M, dy))) : callok (d + 6) 61 0 0 [.ref 0, .ref 7, .int x, .int y] (ow T mby vby (kd, th, wi, nI H, nI R, nI M, dy)) Q := by
  have kH : ∀ (f h : Nat) (s : Int32 × Int32), h + f = H → wmR kd th wi M H R n f h s = wmR kd th wi M H R n H 0 (6, -4) → ∀ (T : NV) (v7 : Option Value), wp (0, 0, callok (d + 5)) (mcode 61) (qE 0 0 Q) 11 [some (.ref 0), some (.ref 7), some (.int x), some (.int y), some (.int s.1), some (.int s.2), some (.int (nI h)), v7] [] (ow T mby vby (kd, th, wi, nI H, nI R, nI M, dy)) 0 0 := by
    intro f
    induction f with
    | zero =>
      intro h s hh ee T v7
      refine gs [11] ?_
      refine Exists.intro [7, 8, 9, 10] (Exists.intro [.ref 0] (Exists.intro (nc 0 kd th wi (nI H) (nI R) (nI M) dy) (Exists.intro 0 (Exists.intro 0 (And.intro ⟨rfl, rfl, Nat.le_of_ble_eq_true rfl, rfl, rfl, rfl, ⟨0, _, rfl, rfl⟩⟩ (And.intro (Nat.le_refl _) (And.intro (Nat.le_refl _) ?_)))))))
      refine t_houses ?_
      refine br_f ((show ¬ nI h < nI H from nI_nlt (by omega) (by omega))) ?_
      rw [← ee] at hQ
      unfold wmR at hQ
      refine br_c (fun c => ?_) (fun c => ?_)
      · rw [if_pos c] at hQ
        refine br_c (fun c2 => ?_) (fun c2 => ?_)
        · rw [if_pos c2] at hQ
          exact fin0 (hQ _)
        · rw [if_neg c2] at hQ
          exact fin0 (hQ _)
      · rw [if_neg c] at hQ
        exact fin0 (hQ _)
    | succ f ih =>
      intro h s hh ee T v7
      refine gs [11] ?_
      refine Exists.intro [7, 8, 9, 10] (Exists.intro [.ref 0] (Exists.intro (nc 0 kd th wi (nI H) (nI R) (nI M) dy) (Exists.intro 0 (Exists.intro 0 (And.intro ⟨rfl, rfl, Nat.le_of_ble_eq_true rfl, rfl, rfl, rfl, ⟨0, _, rfl, rfl⟩⟩ (And.intro (Nat.le_refl _) (And.intro (Nat.le_refl _) ?_)))))))
      refine t_houses ?_
      refine br_t ((show nI h < nI H from nI_lt (by omega) (by omega))) ?_
      rw [wmR] at ee
      show runS _ _ _ _ _ _ [some (.ref 0), some (.ref 7), some (.int x), some (.int y), some (.int s.1), some (.int s.2), some (.int (nI h)), v7] [] (ow T mby vby (kd, th, wi, nI H, nI R, nI M, dy)) _ _
      refine Exists.intro [7, 8, 9, 10] (Exists.intro [.ref 0, .int (nI h)] (Exists.intro (nc 0 kd th wi (nI H) (nI R) (nI M) dy) (Exists.intro 0 (Exists.intro 0 (And.intro ⟨rfl, rfl, Nat.le_of_ble_eq_true rfl, rfl, rfl, rfl, ⟨0, _, rfl, rfl⟩⟩ (And.intro (Nat.le_refl _) (And.intro (Nat.le_refl _) ?_)))))))
      refine t_hasMouse rfl (by omega) hM (fun c => ?_) (fun c => ?_)
      · refine br_f ((by decide)) ?_
        rw [if_pos c] at ee
        have h9 := ih (h + 1) s (by omega) ee T v7
        rw [nI_succ h] at h9
        exact h9
      · refine br_t ((rfl)) ?_
        rw [if_neg c] at ee
        show runS _ _ _ _ _ _ [some (.ref 0), some (.ref 7), some (.int x), some (.int y), some (.int s.1), some (.int s.2), some (.int (nI h)), v7] [] (ow T mby vby (kd, th, wi, nI H, nI R, nI M, dy)) _ _
        refine Exists.intro [1, 2, 3, 4, 7, 8, 9, 10] (Exists.intro [.ref 0, .ref 4] (Exists.intro (nv 0 T ++ nc 4 kd th wi (nI H) (nI R) (nI M) dy) (Exists.intro 0 (Exists.intro 0 (And.intro ⟨rfl, rfl, Nat.le_of_ble_eq_true rfl, rfl, rfl, rfl, ⟨0, _, rfl, rfl⟩⟩ (And.intro (Nat.le_refl _) (And.intro (Nat.le_refl _) ?_)))))))
        refine t_become ?_
        show runS _ _ _ _ _ _ [some (.ref 0), some (.ref 7), some (.int x), some (.int y), some (.int s.1), some (.int s.2), some (.int (nI h)), v7] [] (ow (kd, th, wi, nI H, nI R, nI M, dy) mby vby (kd, th, wi, nI H, nI R, nI M, dy)) _ _
        refine Exists.intro [1, 2, 3, 4] (Exists.intro [.ref 0, .int (nI h)] (Exists.intro (nc 0 kd th wi (nI H) (nI R) (nI M) dy) (Exists.intro 0 (Exists.intro 0 (And.intro ⟨rfl, rfl, Nat.le_of_ble_eq_true rfl, rfl, rfl, rfl, ⟨0, _, rfl, rfl⟩⟩ (And.intro (Nat.le_refl _) (And.intro (Nat.le_refl _) ?_)))))))
        refine t_toggleMouse rfl (by omega) hM ?_
        show runS _ _ _ _ _ _ [some (.ref 0), some (.ref 7), some (.int x), some (.int y), some (.int s.1), some (.int s.2), some (.int (nI h)), v7] [] (ow (kd, th, wi, nI H, nI R, nI (M ^^^ 2 ^ h), dy) mby vby (kd, th, wi, nI H, nI R, nI M, dy)) _ _
        have hx6 := xor_64 M hM h (by omega)
        refine Exists.intro [1, 2, 3, 4] (Exists.intro [.ref 0, .int x] (Exists.intro (nc 0 kd th wi (nI H) (nI R) (nI (M ^^^ 2 ^ h)) dy) (Exists.intro 0 (Exists.intro 0 (And.intro ⟨rfl, rfl, Nat.le_of_ble_eq_true rfl, rfl, rfl, rfl, ⟨0, _, rfl, rfl⟩⟩ (And.intro (Nat.le_refl _) (And.intro (Nat.le_refl _) ?_)))))))
        refine t_live hx hn hx6 h0 hH hR ?_
        show runS _ _ _ _ _ _ [some (.ref 0), some (.ref 7), some (.int x), some (.int y), some (.int s.1), some (.int s.2), some (.int (nI h)), v7] [] (ow (kd, itT kd (M ^^^ 2 ^ h) H R n th, wi, nI H, nI R, nI (M ^^^ 2 ^ h), dy) mby vby (kd, th, wi, nI H, nI R, nI M, dy)) _ _
        refine Exists.intro [1, 2, 3, 4] (Exists.intro [.ref 0] (Exists.intro (nc 0 kd (itT kd (M ^^^ 2 ^ h) H R n th) wi (nI H) (nI R) (nI (M ^^^ 2 ^ h)) dy) (Exists.intro 0 (Exists.intro 0 (And.intro ⟨rfl, rfl, Nat.le_of_ble_eq_true rfl, rfl, rfl, rfl, ⟨0, _, rfl, rfl⟩⟩ (And.intro (Nat.le_refl _) (And.intro (Nat.le_refl _) ?_)))))))
        refine t_metRooms hR ?_
        show runS _ _ _ _ _ _ [some (.ref 0), some (.ref 7), some (.int x), some (.int y), some (.int s.1), some (.int s.2), some (.int (nI h)), v7] [.int (nI (metN wi (itT kd (M ^^^ 2 ^ h) H R n th) R))] (ow (kd, itT kd (M ^^^ 2 ^ h) H R n th, wi, nI H, nI R, nI (M ^^^ 2 ^ h), dy) mby vby (kd, th, wi, nI H, nI R, nI M, dy)) _ _
        refine Exists.intro [] (Exists.intro [.int (nI (metN wi (itT kd (M ^^^ 2 ^ h) H R n th) R))] (Exists.intro ([]) (Exists.intro 0 (Exists.intro 0 (And.intro ⟨rfl, rfl, Nat.le_of_ble_eq_true rfl, rfl, rfl, rfl, trivial⟩ (And.intro (Nat.le_refl _) (And.intro (Nat.le_refl _) ?_)))))))
        refine t_bitCount (h := []) rfl (by have := metN_32 (wi := wi) (th := itT kd (M ^^^ 2 ^ h) H R n th) hR; omega) ?_
        generalize hnb : nI (pop 10 (metN wi (itT kd (M ^^^ 2 ^ h) H R n th) R)) = nb at ee
        show runS _ _ _ _ _ _ [some (.ref 0), some (.ref 7), some (.int x), some (.int y), some (.int s.1), some (.int s.2), some (.int (nI h)), v7] [.int nb] (ow (kd, itT kd (M ^^^ 2 ^ h) H R n th, wi, nI H, nI R, nI (M ^^^ 2 ^ h), dy) mby vby (kd, th, wi, nI H, nI R, nI M, dy)) _ _
        refine br_c (fun c2 => ?_) (fun c2 => ?_)
        · rw [if_pos c2] at ee
          have h9 := ih (h + 1) (nb, nI h) (by omega) ee (kd, itT kd (M ^^^ 2 ^ h) H R n th, wi, nI H, nI R, nI (M ^^^ 2 ^ h), dy) (some (.int nb))
          rw [nI_succ h] at h9
          exact h9
        · rw [if_neg c2] at ee
          have h9 := ih (h + 1) s (by omega) ee (kd, itT kd (M ^^^ 2 ^ h) H R n th, wi, nI H, nI R, nI (M ^^^ 2 ^ h), dy) (some (.int nb))
          rw [nI_succ h] at h9
          exact h9
  refine beg rfl (gs [11] ?_)
  exact kH H 0 (6, -4) (by omega) rfl T none
end OW
