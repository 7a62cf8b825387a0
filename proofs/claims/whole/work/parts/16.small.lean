/-! DOLLSVOTE's small functions; SIGHTINGS -/
abbrev sw (dys hos rms ths : Nat → Int32) (sz : Int32) : List aC := [ao 5 [.ref 1, .ref 2, .ref 3, .ref 4, .int sz], ai 6 dys, ai 6 hos, ai 6 rms, ai 6 ths]
def powI (x : Int32) : Nat → Int32
  | 0 => 1
  | k + 1 => powI x k * x
/-- the greatest common divisor as it is sought: f turns left -/
def cdG : Nat → Int32 → Int32 → Int32
  | 0, big, _ => big
  | f + 1, big, small => if small = 0 then big else cdG f small (big - big / small * small)
def mxD (sd : Nat → Nat) : Nat → Nat
  | 0 => 0
  | k + 1 => if mxD sd k < sd k then sd k else mxD sd k
theorem mxD_ge {sd : Nat → Nat} : ∀ {k i : Nat}, i < k → sd i ≤ mxD sd k
  | 0, i, h => absurd h (Nat.not_lt_zero i)
  | k + 1, i, h => by
    rw [mxD]
    by_cases e : i = k
    · subst e
      split <;> omega
    · have := mxD_ge (sd := sd) (k := k) (i := i) (by omega)
      split <;> omega
theorem mxD_le {sd : Nat → Nat} {n : Nat} (h : ∀ i, sd i ≤ n) : ∀ k, mxD sd k ≤ n
  | 0 => Nat.zero_le _
  | k + 1 => by
    rw [mxD]
    split
    · exact h k
    · exact mxD_le h k
section SM
variable {d : Nat} {kd th wi : Nat → Int32} {hs rm mb dy : Int32} {H R M a b n : Nat} {x y v w : Int32} {dys hos rms ths : Nat → Int32} {sz : Int32} {S : Nat} {sd sh sr : Nat → Nat} {Q : Option Value → List aC → Prop}
theorem t_within (hT : ¬ x < y → ¬ v < x → Q (some (.int 1)) []) (hF : ¬ (¬ x < y ∧ ¬ v < x) → Q (some (.int 0)) []) : callok (d + 1) 114 0 0 [.int x, .int y, .int v] [] Q := by
  refine beg rfl (gs [] ?_)
  refine br_c (fun c => ?_) (fun c => ?_)
  · exact And.intro (Or.inl rfl) (fin0 (hF (fun z => z.1 c)))
  · refine br_c (fun c2 => ?_) (fun c2 => ?_)
    · exact And.intro (Or.inl rfl) (fin0 (hF (fun z => z.2 c2)))
    · exact And.intro (Or.inr rfl) (fin0 (hT c c2))
theorem t_isThing (hT : ¬ x < 0 → ¬ 9 < x → Q (some (.int 1)) []) (hF : ¬ (¬ x < 0 ∧ ¬ 9 < x) → Q (some (.int 0)) []) : callok (d + 2) 113 0 0 [.int x] [] Q := by
  refine beg rfl (gs [] ?_)
  refine Exists.intro [] (Exists.intro [.int x, .int 0, .int 9] (Exists.intro ([]) (Exists.intro 0 (Exists.intro 0 (And.intro ⟨rfl, rfl, Nat.le_of_ble_eq_true rfl, rfl, rfl, rfl, trivial⟩ (And.intro (Nat.le_refl _) (And.intro (Nat.le_refl _) ?_)))))))
  refine t_within (fun c c2 => ?_) (fun c => ?_)
  · exact And.intro (Or.inr rfl) (fin0 (hT c c2))
  · exact And.intro (Or.inl rfl) (fin0 (hF c))
theorem t_orNone (hQ : Q (some (.int (if x = 10 then -4 else x))) []) : callok (d + 1) 112 0 0 [.int x] [] Q := by
  refine beg rfl (gs [] ?_)
  refine br_c (fun c => ?_) (fun c => ?_)
  · rw [if_pos c] at hQ
    exact fin0 (hQ)
  · rw [if_neg c] at hQ
    exact fin0 (hQ)
theorem t_power (hy : y = nI n) (hn : n ≤ 1000) (hQ : Q (some (.int (powI x n))) []) : callok (d + 1) 115 0 0 [.int x, .int y] [] Q := by
  subst hy
  refine beg rfl (gs [4] ?_)
  refine up (W := fun k => wp (0, 0, callok d) (mcode 115) (qE 0 0 Q) 4 [some (.int x), some (.int (nI n)), some (.int (powI x k)), some (.int (nI k))] [] [] 0 0) n ?_ ?_
  · refine gs [4] ?_
    refine br_f ((nI_nlt (by omega) (by omega))) ?_
    exact fin0 (hQ)
  · intro k hk ih
    refine gs [4] ?_
    refine br_t ((nI_lt hk (by omega))) ?_
    rw [nI_succ] at ih
    exact ih
theorem t_commonDivisor (hQ : Q (some (.int (cdG 64 y x))) []) : callok (d + 1) 116 0 0 [.int x, .int y] [] Q := by
  refine beg rfl (gs [7] ?_)
  have key : ∀ (f k : Nat) (big small : Int32) (v5 : Option Value), k + f = 64 → cdG f big small = cdG 64 y x → wp (0, 0, callok d) (mcode 116) (qE 0 0 Q) 7 [some (.int x), some (.int y), some (.int big), some (.int small), some (.int (nI k)), v5] [] [] 0 0 := by
    intro f
    induction f with
    | zero =>
      intro k big small v5 hk e
      refine gs [7] ?_
      refine br_f ((show ¬ nI k < (64 : Int32) from nI_nlt (b := 64) (by omega) (by omega))) ?_
      rw [← e] at hQ
      exact fin0 (hQ)
    | succ f ih =>
      intro k big small v5 hk e
      refine gs [7] ?_
      refine br_t ((show nI k < (64 : Int32) from nI_lt (b := 64) (by omega) (by omega))) ?_
      rw [cdG] at e
      refine br_c (fun c => ?_) (fun c => ?_)
      · rw [if_pos c] at e
        rw [← e] at hQ
        exact fin0 (hQ)
      · rw [if_neg c] at e
        refine And.intro c ?_
        have h9 := ih (k + 1) small (big - big / small * small) (some (.int (big - big / small * small))) (by omega) e
        rw [nI_succ] at h9
        exact h9
  exact key 64 0 y x none (by omega) rfl
theorem t_ssize (hQ : Q (some (.int sz)) (sw dys hos rms ths sz)) : callok (d + 1) 73 0 0 [.ref 0] (sw dys hos rms ths sz) Q := by
  refine beg rfl (gs [] ?_)
  exact fin0 (hQ)
theorem t_sclear (hQ : Q none (sw dys hos rms ths 0)) : callok (d + 1) 74 0 0 [.ref 0] (sw dys hos rms ths sz) Q := by
  refine beg rfl (gs [] ?_)
  exact fin0 (hQ)
theorem t_sadd (hS : S ≤ 6) (hT : S < 6 → Q (some (.int 1)) (sw (upd dys S x) (upd hos S y) (upd rms S v) (upd ths S w) (nI (S + 1)))) (hF : ¬ S < 6 → Q (some (.int 0)) (sw dys hos rms ths (nI S))) : callok (d + 1) 75 0 0 [.ref 0, .int x, .int y, .int v, .int w] (sw dys hos rms ths (nI S)) Q := by
  refine beg rfl (gs [] ?_)
  by_cases c : S < 6
  · refine br_t ((show nI S < (6 : Int32) from nI_lt (b := 6) c (by omega))) ?_
    refine Exists.intro (S) (And.intro (rfl) (And.intro ⟨by omega, by omega⟩ ?_))
    refine Exists.intro (S) (And.intro (rfl) (And.intro ⟨by omega, by omega⟩ ?_))
    refine Exists.intro (S) (And.intro (rfl) (And.intro ⟨by omega, by omega⟩ ?_))
    refine Exists.intro (S) (And.intro (rfl) (And.intro ⟨by omega, by omega⟩ ?_))
    have := hT c
    rw [nI_succ] at this
    exact And.intro (Or.inr rfl) (fin0 (this))
  · refine br_f ((show ¬ nI S < (6 : Int32) from nI_nlt (b := 6) (by omega) (by omega))) ?_
    exact And.intro (Or.inl rfl) (fin0 (hF c))
theorem t_furthestDay (hS : S ≤ 6) (hd : ∀ i, sd i ≤ 20) (hQ : Q (some (.int (nI (mxD sd S)))) (sw (fun i => nI (sd i)) hos rms ths (nI S))) : callok (d + 1) 77 0 0 [.ref 0] (sw (fun i => nI (sd i)) hos rms ths (nI S)) Q := by
  refine beg rfl (gs [4] ?_)
  refine up (W := fun k => wp (0, 0, callok d) (mcode 77) (qE 0 0 Q) 4 [some (.ref 0), some (.int (nI (mxD sd k))), some (.int (nI k))] [] (sw (fun i => nI (sd i)) hos rms ths (nI S)) 0 0) S ?_ ?_
  · refine gs [4] ?_
    refine br_f ((nI_nlt (by omega) (by omega))) ?_
    exact fin0 (hQ)
  · intro k hk ih
    refine gs [4] ?_
    refine br_t ((nI_lt hk (by omega))) ?_
    refine Exists.intro (k) (And.intro (rfl) (And.intro ⟨by omega, by omega⟩ ?_))
    refine And.intro ⟨Nat.le_of_ble_eq_true rfl, Nat.le_refl _, Nat.le_refl _⟩ ?_
    have e : (if nI (mxD sd k) < nI (sd k) then nI (sd k) else nI (mxD sd k)) = nI (mxD sd (k + 1)) := by
      have h1 := mxD_le hd k
      have h2 := hd k
      rw [mxD]
      by_cases c : mxD sd k < sd k
      · rw [if_pos c, if_pos (nI_lt c (by omega))]
      · rw [if_neg c, if_neg (nI_nlt (by omega) (by omega))]
    rw [nI_succ k, ← e] at ih
    exact ih
/-- what is seen of day n is so -/
def SO (sd sh sr : Nat → Nat) (ths : Nat → Int32) (n : Nat) (th : Nat → Int32) (k : Nat) : Prop := ∀ i, i < k → sd i = n → th (5 * sh i + sr i) = ths i
theorem t_areSo (hx : x = nI n) (hn : n ≤ 1000) (hS : S ≤ 6) (hd : ∀ i, sd i ≤ 20) (hh : ∀ i, i < S → sh i < 6) (hr : ∀ i, i < S → sr i < 5) (hT : SO sd sh sr ths n th S → Q (some (.int 1)) (sw (fun i => nI (sd i)) (fun i => nI (sh i)) (fun i => nI (sr i)) ths (nI S) ++ nc 5 kd th wi hs rm mb dy)) (hF : ¬ SO sd sh sr ths n th S → Q (some (.int 0)) (sw (fun i => nI (sd i)) (fun i => nI (sh i)) (fun i => nI (sr i)) ths (nI S) ++ nc 5 kd th wi hs rm mb dy)) : callok (d + 2) 78 0 0 [.ref 0, .int x, .ref 5] (sw (fun i => nI (sd i)) (fun i => nI (sh i)) (fun i => nI (sr i)) ths (nI S) ++ nc 5 kd th wi hs rm mb dy) Q := by
  subst hx
  refine beg rfl (gs [2] ?_)
  have key := up (W := fun k => SO sd sh sr ths n th k → wp (0, 0, callok (d + 1)) (mcode 78) (qE 0 0 Q) 2 [some (.ref 0), some (.int (nI n)), some (.ref 5), some (.int (nI k))] [] (sw (fun i => nI (sd i)) (fun i => nI (sh i)) (fun i => nI (sr i)) ths (nI S) ++ nc 5 kd th wi hs rm mb dy) 0 0) S ?_ ?_
  · exact key (fun i h => absurd h (Nat.not_lt_zero i))
  · intro h
    refine gs [2] ?_
    refine br_f ((nI_nlt (by omega) (by omega))) ?_
    exact And.intro (Or.inr rfl) (fin0 (hT h))
  · intro k hk ih h
    refine gs [2] ?_
    refine br_t ((nI_lt hk (by omega))) ?_
    refine Exists.intro (k) (And.intro (rfl) (And.intro ⟨by omega, by omega⟩ ?_))
    have h2 := hd k
    refine br_c (fun c => ?_) (fun c => ?_)
    · have c' : sd k = n := (nI_eq (by omega) (by omega)).mp c
      refine Exists.intro (k) (And.intro (rfl) (And.intro ⟨by omega, by omega⟩ ?_))
      refine Exists.intro (k) (And.intro (rfl) (And.intro ⟨by omega, by omega⟩ ?_))
      refine Exists.intro [5, 6, 7, 8] (Exists.intro [.ref 0, .int (nI (sh k)), .int (nI (sr k))] (Exists.intro (nc 0 kd th wi hs rm mb dy) (Exists.intro 0 (Exists.intro 0 (And.intro ⟨rfl, rfl, Nat.le_of_ble_eq_true rfl, rfl, rfl, rfl, ⟨0, _, rfl, rfl⟩⟩ (And.intro (Nat.le_refl _) (And.intro (Nat.le_refl _) ?_)))))))
      refine t_thing rfl rfl (hh k hk) (hr k hk) ?_
      refine Exists.intro (k) (And.intro (rfl) (And.intro ⟨by omega, by omega⟩ ?_))
      refine br_c (fun c2 => ?_) (fun c2 => ?_)
      · have h9 := ih (fun i hi e => by
          by_cases q : i = k
          · rw [q]; exact c2
          · exact h i (by omega) e)
        rw [nI_succ] at h9
        exact h9
      · exact And.intro (Or.inl rfl) (fin0 (hF (fun z => c2 (z k hk c'))))
    · have h9 := ih (fun i hi e => by
        by_cases q : i = k
        · exact absurd (by rw [← e, q]) c
        · exact h i (by omega) e)
      rw [nI_succ] at h9
      exact h9
/-- all that is seen would be so -/
def ASO (kd : Nat → Int32) (M H R : Nat) (sd sh sr : Nat → Nat) (ths : Nat → Int32) (S : Nat) (th : Nat → Int32) : Prop := ∀ i, i < S → itT kd M H R (sd i) th (5 * sh i + sr i) = ths i
theorem t_comeTrueIn (hM : M < 64) (h0 : 0 < H) (hH : H ≤ 6) (hR : R ≤ 5) (hS : S ≤ 6) (hd : ∀ i, sd i ≤ 20) (hh : ∀ i, i < S → sh i < 6) (hr : ∀ i, i < S → sr i < 5) (hT : ASO kd M H R sd sh sr ths S th → ∀ th', Q (some (.int 1)) (sw (fun i => nI (sd i)) (fun i => nI (sh i)) (fun i => nI (sr i)) ths (nI S) ++ nc 5 kd th' wi (nI H) (nI R) (nI M) dy)) (hF : ¬ ASO kd M H R sd sh sr ths S th → ∀ th', Q (some (.int 0)) (sw (fun i => nI (sd i)) (fun i => nI (sh i)) (fun i => nI (sr i)) ths (nI S) ++ nc 5 kd th' wi (nI H) (nI R) (nI M) dy)) : callok (d + 5) 76 0 0 [.ref 0, .ref 5] (sw (fun i => nI (sd i)) (fun i => nI (sh i)) (fun i => nI (sr i)) ths (nI S) ++ nc 5 kd th wi (nI H) (nI R) (nI M) dy) Q := by
  have hmx := mxD_le hd S
  have key : ∀ (f n : Nat), n + f = mxD sd S + 1 → (∀ m, m < n → SO sd sh sr ths m (itT kd M H R m th) S) → wp (0, 0, callok (d + 4)) (mcode 76) (qE 0 0 Q) 7 [some (.ref 0), some (.ref 5), some (.int (nI (mxD sd S))), some (.int (nI n))] [] (sw (fun i => nI (sd i)) (fun i => nI (sh i)) (fun i => nI (sr i)) ths (nI S) ++ nc 5 kd (itT kd M H R n th) wi (nI H) (nI R) (nI M) dy) 0 0 := by
    intro f
    induction f with
    | zero =>
      intro n hn h
      refine gs [7] ?_
      refine br_t ((show nI (mxD sd S) < nI n from nI_lt (by omega) (by omega))) ?_
      exact And.intro (Or.inr rfl) (fin0 (hT (fun i hi => h (sd i) (by have := mxD_ge (sd := sd) hi; omega) i hi rfl) _))
    | succ f ih =>
      intro n hn h
      refine gs [7] ?_
      refine br_f ((show ¬ nI (mxD sd S) < nI n from nI_nlt (by omega) (by omega))) ?_
      refine Exists.intro [0, 1, 2, 3, 4, 5, 6, 7, 8] (Exists.intro [.ref 0, .int (nI n), .ref 5] (Exists.intro (sw (fun i => nI (sd i)) (fun i => nI (sh i)) (fun i => nI (sr i)) ths (nI S) ++ nc 5 kd (itT kd M H R n th) wi (nI H) (nI R) (nI M) dy) (Exists.intro 0 (Exists.intro 0 (And.intro ⟨rfl, rfl, Nat.le_of_ble_eq_true rfl, rfl, rfl, rfl, ⟨0, _, rfl, rfl⟩⟩ (And.intro (Nat.le_refl _) (And.intro (Nat.le_refl _) ?_)))))))
      refine t_areSo rfl (by omega) hS hd hh hr (fun c => ?_) (fun c => ?_)
      · refine br_f ((by decide)) ?_
        show runS _ _ _ _ _ _ _ [] (sw (fun i => nI (sd i)) (fun i => nI (sh i)) (fun i => nI (sr i)) ths (nI S) ++ nc 5 kd (itT kd M H R n th) wi (nI H) (nI R) (nI M) dy) _ _
        refine Exists.intro [5, 6, 7, 8] (Exists.intro [.ref 0] (Exists.intro (nc 0 kd (itT kd M H R n th) wi (nI H) (nI R) (nI M) dy) (Exists.intro 0 (Exists.intro 0 (And.intro ⟨rfl, rfl, Nat.le_of_ble_eq_true rfl, rfl, rfl, rfl, ⟨0, _, rfl, rfl⟩⟩ (And.intro (Nat.le_refl _) (And.intro (Nat.le_refl _) ?_)))))))
        refine t_comeUp hM hH hR (fun r2 g1 g2 => ?_) h0
        have h9 := ih (n + 1) (by omega) (fun m hm => by
          by_cases q : m = n
          · rw [q]; exact c
          · exact h m (by omega))
        rw [nI_succ, itT_succ] at h9
        exact h9
      · refine br_t ((rfl)) ?_
        exact And.intro (Or.inl rfl) (fin0 (hF (fun z => c (fun i hi e => by rw [← e]; exact z i hi)) _))
  refine beg rfl (gs [7] ?_)
  refine Exists.intro [0, 1, 2, 3, 4] (Exists.intro [.ref 0] (Exists.intro (sw (fun i => nI (sd i)) (fun i => nI (sh i)) (fun i => nI (sr i)) ths (nI S)) (Exists.intro 0 (Exists.intro 0 (And.intro ⟨rfl, rfl, Nat.le_of_ble_eq_true rfl, rfl, rfl, rfl, ⟨0, _, rfl, rfl⟩⟩ (And.intro (Nat.le_refl _) (And.intro (Nat.le_refl _) ?_)))))))
  refine t_furthestDay hS hd ?_
  exact key (mxD sd S + 1) 0 (by omega) (fun m hm => absurd hm (Nat.not_lt_zero m))
end SM
