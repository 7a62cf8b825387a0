/-! OUTLOOK, the searches -/
theorem bt5_has : ∀ m, m < 32 → ∀ a, a < 5 → ((nI m >>> (nI a &&& 31)) &&& 1 = 1 ↔ m.testBit a = true) := by decide +kernel
/-- met with the bit t of mv in place of its own -/
def mxB (met mv t : Nat) : Nat := if mv.testBit t then met ||| 2 ^ t else (if met.testBit t then met - 2 ^ t else met)
theorem bt_mix : ∀ t, t < 5 → ∀ met, met < 32 → ∀ mv, mv < 32 → (nI met &&& (((1 : Int32) <<< (nI t &&& 31)) ^^^ (-1))) ||| (nI mv &&& ((1 : Int32) <<< (nI t &&& 31))) = nI (mxB met mv t) ∧ mxB met mv t < 32 := by decide +kernel
def lstG (m : Nat → Nat) (top : Nat) : Nat → Nat → Int32
  | 0, _ => -4
  | f + 1, v => if (m v).testBit top = true then nI v else lstG m top f (v + 1)
/-- pins: f rooms of the last house left, b the next, mv moved so far, st what stands in room r -/
def fpR (kd wi : Nat → Int32) (R H met : Nat) (m : Nat → Nat) (r : Int32) : Nat → Nat → Nat → Int32 → Int32
  | 0, _, mv, st => if r < 0 then nI mv else st
  | f + 1, b, mv, st => if wi (upA kd R 0 (H - 1) b) = 10 then fpR kd wi R H met m r f (b + 1) mv st
    else if met.testBit (upA kd R 0 (H - 1) b) = true then fpR kd wi R H met m r f (b + 1) mv st
    else if lstG m (upA kd R 0 (H - 1) b) 10 0 = -4 then -4
    else fpR kd wi R H met m r f (b + 1) (mv + 1) (if nI b = r then lstG m (upA kd R 0 (H - 1) b) 10 0 else st)
def bpV (kd th : Nat → Int32) (R met : Nat) (m : Nat → Nat) (h r : Nat) : Nat → Nat → Int32 × Int32 → Int32 × Int32
  | 0, _, s => s
  | f + 1, v, s => bpV kd th R met m h r f (v + 1) (if s.1 < nI (pop 10 (mxB met (m v) (upA kd R 0 h r))) ∧ ¬ nI v = th (5 * h + r) then (nI (pop 10 (mxB met (m v) (upA kd R 0 h r))), nI (100 * h + 10 * r + v)) else s)
def bpR (kd th : Nat → Int32) (R met : Nat) (m : Nat → Nat) (h : Nat) : Nat → Nat → Int32 × Int32 → Int32 × Int32
  | 0, _, s => s
  | f + 1, r, s => bpR kd th R met m h f (r + 1) (bpV kd th R met m h r 10 0 s)
def bpH (kd th wi : Nat → Int32) (M H R n : Nat) : Nat → Nat → Int32 × Int32 → Int32 × Int32
  | 0, _, s => s
  | f + 1, h, s => bpH kd th wi M H R n f (h + 1) (bpR kd th R (metN wi (itT kd M H R n th) R) (tyM kd th wi M H R n h) h R 0 s)
def wmR (kd th wi : Nat → Int32) (M H R n : Nat) : Nat → Nat → Int32 × Int32 → Int32 × Int32
  | 0, _, s => s
  | f + 1, h, s => wmR kd th wi M H R n f (h + 1) (if M.testBit h = true then s else if nI (pop 10 (metN wi (itT kd (M ^^^ 2 ^ h) H R n th) R)) < s.1 then (nI (pop 10 (metN wi (itT kd (M ^^^ 2 ^ h) H R n th) R)), nI h) else s)
theorem metN_32 {wi th : Nat → Int32} {R : Nat} (hR : R ≤ 5) : metN wi th R < 32 := Nat.lt_of_lt_of_le (metN_lt R) (Nat.pow_le_pow_right (by omega) hR)
theorem xor_64 : ∀ m, m < 64 → ∀ a, a < 6 → m ^^^ 2 ^ a < 64 := by decide +kernel
section OV
variable {d : Nat} {kd th wi : Nat → Int32} {hs rm mb dy : Int32} {H R M a b n : Nat} {x y v w : Int32} {T : NV} {mby vby : Nat → Int32} {Q : Option Value → List aC → Prop}
theorem t_hasBit {m k : Nat} (hx : x = nI m) (hy : y = nI k) (hm : m < 32) (hk : k < 5) (hT : m.testBit k = true → Q (some (.int 1)) []) (hF : ¬ m.testBit k = true → Q (some (.int 0)) []) : callok (d + 1) 64 0 0 [.int x, .int y] [] Q := by
  subst hx hy
  refine beg rfl (gs [] ?_)
  refine br_c (fun c => ?_) (fun c => ?_)
  · exact And.intro (Or.inr rfl) (fin0 (hT ((bt5_has m hm k hk).mp c)))
  · exact And.intro (Or.inl rfl) (fin0 (hF (fun z => c ((bt5_has m hm k hk).mpr z))))
theorem t_leastThingFor {m : Nat → Nat} {N : NV} {top : Nat} (hx : x = nI top) (ht : top < 5) (hm : ∀ v, m v < 32) (hQ : Q (some (.int (lstG m top 10 0))) (ow T (fun v => nI (m v)) vby N)) : callok (d + 2) 58 0 0 [.ref 0, .int x] (ow T (fun v => nI (m v)) vby N) Q := by
  refine beg rfl (gs [2] ?_)
  have key : ∀ f k, k + f = 10 → lstG m top f k = lstG m top 10 0 → wp (0, 0, callok (d + 1)) (mcode 58) (qE 0 0 Q) 2 [some (.ref 0), some (.int x), some (.int (nI k))] [] (ow T (fun v => nI (m v)) vby N) 0 0 := by
    intro f
    induction f with
    | zero =>
      intro k hk e
      refine gs [2] ?_
      refine br_f ((show ¬ nI k < (10 : Int32) from nI_nlt (b := 10) (by omega) (by omega))) ?_
      rw [← e] at hQ
      exact fin0 (hQ)
    | succ f ih =>
      intro k hk e
      refine gs [2] ?_
      refine br_t ((show nI k < (10 : Int32) from nI_lt (b := 10) (by omega) (by omega))) ?_
      refine Exists.intro (k) (And.intro (rfl) (And.intro ⟨by omega, by omega⟩ ?_))
      refine Exists.intro [] (Exists.intro [.int (nI (m k)), .int x] (Exists.intro ([]) (Exists.intro 0 (Exists.intro 0 (And.intro ⟨rfl, rfl, Nat.le_of_ble_eq_true rfl, rfl, rfl, rfl, trivial⟩ (And.intro (Nat.le_refl _) (And.intro (Nat.le_refl _) ?_)))))))
      rw [lstG] at e
      refine t_hasBit rfl hx (hm k) ht (fun c => ?_) (fun c => ?_)
      · refine br_f ((by decide)) ?_
        rw [if_pos c] at e
        rw [← e] at hQ
        exact fin0 (hQ)
      · refine br_t ((rfl)) ?_
        rw [if_neg c] at e
        have h9 := ih (k + 1) (by omega) e
        rw [nI_succ] at h9
        exact h9
  exact key 10 0 (by omega) rfl
theorem t_fewestPins (hx : x = nI n) (hn : n ≤ 1000) (hy : y < 0 ∨ ∃ b, b < R ∧ y = nI b) (hM : M < 64) (h0 : 0 < H) (hH : H ≤ 6) (hR : R ≤ 5)
    (hQ : ∀ T mby, Q (some (.int (fpR kd wi R H (metN wi (itT kd M H R n th) R) (tyM kd th wi M H R n (H - 1)) y R 0 0 (if y < 0 then -4 else th (5 * (H - 1) + y.toNatClampNeg))))) (ow T mby vby (kd, th, wi, nI H, nI R, nI M, dy))) : callok (d + 7) 57 0 0 [.ref 0, .ref 7, .int x, .int y] (ow T mby vby (kd, th, wi, nI H, nI R, nI M, dy)) Q := by
  have hmet : metN wi (itT kd M H R n th) R < 32 := metN_32 hR
  have key : ∀ (f b mv : Nat) (st : Int32) (T : NV) (v9 v10 : Option Value), b + f = R → mv ≤ b → fpR kd wi R H (metN wi (itT kd M H R n th) R) (tyM kd th wi M H R n (H - 1)) y f b mv st = fpR kd wi R H (metN wi (itT kd M H R n th) R) (tyM kd th wi M H R n (H - 1)) y R 0 0 (if y < 0 then -4 else th (5 * (H - 1) + y.toNatClampNeg)) → wp (0, 0, callok (d + 6)) (mcode 57) (qE 0 0 Q) 46 [some (.ref 0), some (.ref 7), some (.int x), some (.int y), some (.int (nI (H - 1))), some (.int (nI (metN wi (itT kd M H R n th) R))), some (.int (nI mv)), some (.int st), some (.int (nI b)), v9, v10] [] (ow T (fun v => nI (tyM kd th wi M H R n (H - 1) v)) vby (kd, th, wi, nI H, nI R, nI M, dy)) 0 0 := by
    intro f
    induction f with
    | zero =>
      intro b mv st T v9 v10 hb hmv e
      refine gs [46] ?_
      refine Exists.intro [7, 8, 9, 10] (Exists.intro [.ref 0] (Exists.intro (nc 0 kd th wi (nI H) (nI R) (nI M) dy) (Exists.intro 0 (Exists.intro 0 (And.intro ⟨rfl, rfl, Nat.le_of_ble_eq_true rfl, rfl, rfl, rfl, ⟨0, _, rfl, rfl⟩⟩ (And.intro (Nat.le_refl _) (And.intro (Nat.le_refl _) ?_)))))))
      refine t_rooms ?_
      refine br_f ((show ¬ nI b < nI R from nI_nlt (by omega) (by omega))) ?_
      rw [← e] at hQ
      unfold fpR at hQ
      refine br_c (fun c => ?_) (fun c => ?_)
      · rw [if_pos c] at hQ
        exact fin0 (hQ _ _)
      · rw [if_neg c] at hQ
        exact fin0 (hQ _ _)
    | succ f ih =>
      intro b mv st T v9 v10 hb hmv e
      refine gs [46] ?_
      refine Exists.intro [7, 8, 9, 10] (Exists.intro [.ref 0] (Exists.intro (nc 0 kd th wi (nI H) (nI R) (nI M) dy) (Exists.intro 0 (Exists.intro 0 (And.intro ⟨rfl, rfl, Nat.le_of_ble_eq_true rfl, rfl, rfl, rfl, ⟨0, _, rfl, rfl⟩⟩ (And.intro (Nat.le_refl _) (And.intro (Nat.le_refl _) ?_)))))))
      refine t_rooms ?_
      refine br_t ((show nI b < nI R from nI_lt (by omega) (by omega))) ?_
      refine Exists.intro [7, 8, 9, 10] (Exists.intro [.ref 0, .int (nI (H - 1)), .int (nI b), .int 0] (Exists.intro (nc 0 kd th wi (nI H) (nI R) (nI M) dy) (Exists.intro 0 (Exists.intro 0 (And.intro ⟨rfl, rfl, Nat.le_of_ble_eq_true rfl, rfl, rfl, rfl, ⟨0, _, rfl, rfl⟩⟩ (And.intro (Nat.le_refl _) (And.intro (Nat.le_refl _) ?_)))))))
      refine t_roomAbove (A := 0) (n := H - 1) (by rw [Nat.zero_add]) rfl rfl (by omega) (by omega) hR ?_
      have htop : upA kd R 0 (H - 1) b < R := upA_lt _ _ (by omega)
      generalize htg : upA kd R 0 (H - 1) b = top at htop
      rw [fpR, htg] at e
      show runS _ _ _ _ _ _ [some (.ref 0), some (.ref 7), some (.int x), some (.int y), some (.int (nI (H - 1))), some (.int (nI (metN wi (itT kd M H R n th) R))), some (.int (nI mv)), some (.int st), some (.int (nI b)), v9, v10] [.int (nI top)] (ow T (fun v => nI (tyM kd th wi M H R n (H - 1) v)) vby (kd, th, wi, nI H, nI R, nI M, dy)) _ _
      refine Exists.intro [7, 8, 9, 10] (Exists.intro [.ref 0, .int (nI top)] (Exists.intro (nc 0 kd th wi (nI H) (nI R) (nI M) dy) (Exists.intro 0 (Exists.intro 0 (And.intro ⟨rfl, rfl, Nat.le_of_ble_eq_true rfl, rfl, rfl, rfl, ⟨0, _, rfl, rfl⟩⟩ (And.intro (Nat.le_refl _) (And.intro (Nat.le_refl _) ?_)))))))
      refine t_wish rfl htop hR ?_
      show runS _ _ _ _ _ _ [some (.ref 0), some (.ref 7), some (.int x), some (.int y), some (.int (nI (H - 1))), some (.int (nI (metN wi (itT kd M H R n th) R))), some (.int (nI mv)), some (.int st), some (.int (nI b)), some (.int (nI top)), v10] [.int (wi top)] (ow T (fun v => nI (tyM kd th wi M H R n (H - 1) v)) vby (kd, th, wi, nI H, nI R, nI M, dy)) _ _
      refine br_c (fun c => ?_) (fun c => ?_)
      · rw [if_pos c] at e
        have h9 := ih (b + 1) mv st T (some (.int (nI top))) v10 (by omega) (by omega) e
        rw [nI_succ b] at h9
        exact h9
      · rw [if_neg c] at e
        refine Exists.intro [] (Exists.intro [.int (nI (metN wi (itT kd M H R n th) R)), .int (nI top)] (Exists.intro ([]) (Exists.intro 0 (Exists.intro 0 (And.intro ⟨rfl, rfl, Nat.le_of_ble_eq_true rfl, rfl, rfl, rfl, trivial⟩ (And.intro (Nat.le_refl _) (And.intro (Nat.le_refl _) ?_)))))))
        refine t_hasBit rfl rfl hmet (by omega) (fun c2 => ?_) (fun c2 => ?_)
        · rw [if_pos c2] at e
          refine br_f ((by decide)) ?_
          have h9 := ih (b + 1) mv st T (some (.int (nI top))) v10 (by omega) (by omega) e
          rw [nI_succ b] at h9
          exact h9
        · rw [if_neg c2] at e
          refine br_t ((rfl)) ?_
          show runS _ _ _ _ _ _ [some (.ref 0), some (.ref 7), some (.int x), some (.int y), some (.int (nI (H - 1))), some (.int (nI (metN wi (itT kd M H R n th) R))), some (.int (nI mv)), some (.int st), some (.int (nI b)), some (.int (nI top)), v10] [] (ow T (fun v => nI (tyM kd th wi M H R n (H - 1) v)) vby (kd, th, wi, nI H, nI R, nI M, dy)) _ _
          refine Exists.intro [0, 1, 2, 3, 4, 5, 6, 7, 8, 9, 10] (Exists.intro [.ref 0, .int (nI top)] (Exists.intro (ow T (fun v => nI (tyM kd th wi M H R n (H - 1) v)) vby (kd, th, wi, nI H, nI R, nI M, dy)) (Exists.intro 0 (Exists.intro 0 (And.intro ⟨rfl, rfl, Nat.le_of_ble_eq_true rfl, rfl, rfl, rfl, ⟨0, _, rfl, rfl⟩⟩ (And.intro (Nat.le_refl _) (And.intro (Nat.le_refl _) ?_)))))))
          refine t_leastThingFor rfl (by omega) (fun v => metN_32 hR) ?_
          generalize hlg : lstG (tyM kd th wi M H R n (H - 1)) top 10 0 = lst at e
          show runS _ _ _ _ _ _ [some (.ref 0), some (.ref 7), some (.int x), some (.int y), some (.int (nI (H - 1))), some (.int (nI (metN wi (itT kd M H R n th) R))), some (.int (nI mv)), some (.int st), some (.int (nI b)), some (.int (nI top)), v10] [.int lst] (ow T (fun v => nI (tyM kd th wi M H R n (H - 1) v)) vby (kd, th, wi, nI H, nI R, nI M, dy)) _ _
          refine br_c (fun c3 => ?_) (fun c3 => ?_)
          · rw [if_pos c3] at e
            rw [← e] at hQ
            exact fin0 (hQ _ _)
          · rw [if_neg c3] at e
            refine br_c (fun c4 => ?_) (fun c4 => ?_)
            · rw [if_pos c4] at e
              have h9 := ih (b + 1) (mv + 1) lst T (some (.int (nI top))) (some (.int lst)) (by omega) (by omega) e
              rw [nI_succ b, nI_succ mv] at h9
              exact h9
            · rw [if_neg c4] at e
              have h9 := ih (b + 1) (mv + 1) st T (some (.int (nI top))) (some (.int lst)) (by omega) (by omega) e
              rw [nI_succ b, nI_succ mv] at h9
              exact h9
  refine beg rfl (gs [46] ?_)
  refine Exists.intro [7, 8, 9, 10] (Exists.intro [.ref 0] (Exists.intro (nc 0 kd th wi (nI H) (nI R) (nI M) dy) (Exists.intro 0 (Exists.intro 0 (And.intro ⟨rfl, rfl, Nat.le_of_ble_eq_true rfl, rfl, rfl, rfl, ⟨0, _, rfl, rfl⟩⟩ (And.intro (Nat.le_refl _) (And.intro (Nat.le_refl _) ?_)))))))
  refine t_bottom h0 ?_
  show runS _ _ _ _ _ _ [some (.ref 0), some (.ref 7), some (.int x), some (.int y), none, none, none, none, none, none, none] [.int (nI (H - 1))] (ow T mby vby (kd, th, wi, nI H, nI R, nI M, dy)) _ _
  refine Exists.intro [0, 1, 2, 3, 4, 5, 6, 7, 8, 9, 10] (Exists.intro [.ref 0, .ref 7, .int x] (Exists.intro (ow T mby vby (kd, th, wi, nI H, nI R, nI M, dy)) (Exists.intro 0 (Exists.intro 0 (And.intro ⟨rfl, rfl, Nat.le_of_ble_eq_true rfl, rfl, rfl, rfl, ⟨0, _, rfl, rfl⟩⟩ (And.intro (Nat.le_refl _) (And.intro (Nat.le_refl _) ?_)))))))
  refine t_metBehind hx hn hM h0 hH hR (fun T => ?_)
  show runS _ _ _ _ _ _ [some (.ref 0), some (.ref 7), some (.int x), some (.int y), some (.int (nI (H - 1))), none, none, none, none, none, none] [.int (nI (metN wi (itT kd M H R n th) R))] (ow T mby vby (kd, th, wi, nI H, nI R, nI M, dy)) _ _
  refine Exists.intro [0, 1, 2, 3, 4, 5, 6, 7, 8, 9, 10] (Exists.intro [.ref 0, .ref 7, .int x, .int (nI (H - 1))] (Exists.intro (ow T mby vby (kd, th, wi, nI H, nI R, nI M, dy)) (Exists.intro 0 (Exists.intro 0 (And.intro ⟨rfl, rfl, Nat.le_of_ble_eq_true rfl, rfl, rfl, rfl, ⟨0, _, rfl, rfl⟩⟩ (And.intro (Nat.le_refl _) (And.intro (Nat.le_refl _) ?_)))))))
  refine t_tryThings hx rfl hn (by omega) hM h0 hH hR (fun T => ?_)
  show runS _ _ _ _ _ _ [some (.ref 0), some (.ref 7), some (.int x), some (.int y), some (.int (nI (H - 1))), some (.int (nI (metN wi (itT kd M H R n th) R))), none, none, none, none, none] [] (ow T (fun v => nI (tyM kd th wi M H R n (H - 1) v)) vby (kd, th, wi, nI H, nI R, nI M, dy)) _ _
  refine br_c (fun c => ?_) (fun c => ?_)
  · exact key R 0 0 _ T none none (by omega) (by omega) (by rw [if_pos c])
  · obtain ⟨b, hb, rfl⟩ := hy.resolve_left c
    refine Exists.intro [7, 8, 9, 10] (Exists.intro [.ref 0, .int (nI (H - 1)), .int (nI b)] (Exists.intro (nc 0 kd th wi (nI H) (nI R) (nI M) dy) (Exists.intro 0 (Exists.intro 0 (And.intro ⟨rfl, rfl, Nat.le_of_ble_eq_true rfl, rfl, rfl, rfl, ⟨0, _, rfl, rfl⟩⟩ (And.intro (Nat.le_refl _) (And.intro (Nat.le_refl _) ?_)))))))
    refine t_thing rfl rfl (by omega) (by omega) ?_
    exact key R 0 0 _ T none none (by omega) (by omega) (by rw [if_neg c, nI_clamp (by omega)])
end OV
