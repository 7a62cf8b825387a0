/-! SEGMENTS of a world -/
theorem put_seg {A S B S' : List aC} {a n : Nat} (ha : A.length = a) (hn : S.length = n) (h : S'.length = n) : put (A ++ (S ++ B)) (List.range' a n) S' = A ++ (S' ++ B) := by
  induction S generalizing A S' a n with
  | nil =>
    subst hn
    have : S' = [] := List.eq_nil_of_length_eq_zero h
    subst this
    simp [put]
  | cons c t ih =>
    subst hn
    cases S' with
    | nil => simp at h
    | cons c' t' =>
      rw [List.length_cons, List.range'_succ, put]
      have e : (A ++ (c :: t ++ B)).set a c' = (A ++ [c']) ++ (t ++ B) := by
        rw [List.set_append_right _ _ (by omega), ← ha]
        simp
      rw [e, ih (A := A ++ [c']) (a := a + 1) (n := t.length) (S' := t') (by simp [ha]) rfl (by simpa using h)]
      simp
theorem get_seg {A S B : List aC} {a n : Nat} (ha : A.length = a) (hn : S.length = n) : (List.range' a n).map (fun i => (A ++ (S ++ B))[i]?) = S.map some := by
  induction S generalizing A a n with
  | nil => subst hn; rfl
  | cons c t ih =>
    subst hn
    rw [List.length_cons, List.range'_succ, List.map_cons, List.map_cons]
    congr 1
    · rw [List.getElem?_append_right (by omega), ← ha]
      simp
    · have := ih (A := A ++ [c]) (a := a + 1) (n := t.length) (by simp [ha]) rfl
      simpa using this
theorem put_app : ∀ (is js : List Nat) (h c1 c2 : List aC), c1.length = is.length → put h (is ++ js) (c1 ++ c2) = put (put h is c1) js c2
  | [], js, h, [], c2, _ => by simp [put]
  | [], js, h, _ :: _, c2, e => by simp at e
  | i :: is, js, h, [], c2, e => by simp at e
  | i :: is, js, h, c :: cs, c2, e => by
    rw [List.cons_append, List.cons_append, put, put]
    exact put_app is js (h.set i c) cs c2 (by simpa using e)
/-! PILES of n nurseries: entry i of the row is the nursery p i -/
def gP (b n : Nat) (p : Nat → Nat) : Nat → Option Nat := fun i => if i < n then some (b + 4 * p i) else none
def updN (P : Nat → NV) (j : Nat) (N : NV) : Nat → NV := fun i => if i = j then N else P i
def rot (n : Nat) (p : Nat → Nat) : Nat → Nat := fun i => if i + 1 < n then p (i + 1) else p 0
def rP (p : Nat → Nat) (k : Nat) : Nat → Nat := fun i => if i < k then p (i + 1) else p i
theorem gP_at {b n : Nat} {p : Nat → Nat} {i : Nat} (h : i < n) : gP b n p i = some (b + 4 * p i) := if_pos h
theorem rP_0 {p : Nat → Nat} : rP p 0 = p := by
  funext i
  unfold rP
  rw [if_neg (by omega)]
theorem rP_step {b n k : Nat} {p : Nat → Nat} (h : k < n) : va_up (gP b n (rP p k)) k (some (b + 4 * p (k + 1))) = gP b n (rP p (k + 1)) := by
  funext i
  unfold va_up gP rP
  by_cases e : i = k
  · subst e
    rw [if_pos rfl, if_pos h, if_pos (by omega)]
  · rw [if_neg e]
    by_cases c : i < n
    · rw [if_pos c, if_pos c]
      by_cases q : i < k
      · rw [if_pos q, if_pos (by omega)]
      · rw [if_neg q, if_neg (by omega)]
    · rw [if_neg c, if_neg c]
theorem rP_end {b n : Nat} {p : Nat → Nat} (h : 0 < n) : va_up (gP b n (rP p (n - 1))) (n - 1) (some (b + 4 * p 0)) = gP b n (rot n p) := by
  funext i
  unfold va_up gP rP rot
  by_cases e : i = n - 1
  · subst e
    rw [if_pos rfl, if_pos (by omega), if_neg (by omega)]
  · rw [if_neg e]
    by_cases c : i < n
    · rw [if_pos c, if_pos c, if_pos (by omega), if_pos (by omega)]
    · rw [if_neg c, if_neg c]
abbrev gM (is : List Nat) (n : Nat) (g : Nat → Option Nat) : Nat → Option Nat := fun i => (g i).map (rho is n)
theorem gP_map {is : List Nat} {n b b' m : Nat} {p : Nat → Nat} (h : ∀ j, j < m → rho is n (b + 4 * j) = b' + 4 * j) (hp : ∀ i, i < m → p i < m) : gM is n (gP b m p) = gP b' m p := by
  funext i
  unfold gM gP
  by_cases c : i < m
  · rw [if_pos c, if_pos c, Option.map_some, h (p i) (hp i c)]
  · rw [if_neg c, if_neg c]
    rfl
theorem rot_lt {n : Nat} {p : Nat → Nat} (hp : ∀ i, i < n → p i < n) : ∀ i, i < n → rot n p i < n := by
  intro i hi
  unfold rot
  split
  · exact hp _ (by omega)
  · exact hp _ (by omega)
theorem nv_len (b : Nat) (T : NV) : (nv b T).length = 4 := rfl
theorem updN_s (P : Nat → NV) (j : Nat) (N : NV) : updN P j N j = N := if_pos rfl
theorem updN_n (P : Nat → NV) {i j : Nat} (N : NV) (h : i ≠ j) : updN P j N i = P i := if_neg h
/-- pile, row and nurseries, then what else is there -/
abbrev pw8 (g : Nat → Option Nat) (sz : Int32) (P : Nat → NV) (X : List aC) : List aC := [ao 4 [.ref 1, .int sz], aq 8 g] ++ (nv 2 (P 0) ++ (nv 6 (P 1) ++ (nv 10 (P 2) ++ (nv 14 (P 3) ++ (nv 18 (P 4) ++ (nv 22 (P 5) ++ (nv 26 (P 6) ++ (nv 30 (P 7) ++ (X)))))))))
theorem pw8_at {g : Nat → Option Nat} {sz : Int32} {P : Nat → NV} {X : List aC} {j : Nat} (h : j < 8) : ∃ fs, (pw8 g sz P X)[2 + 4 * j]? = some (ao 2 fs) := by
  match j, h with
  | 0, _ => exact ⟨_, rfl⟩
  | 1, _ => exact ⟨_, rfl⟩
  | 2, _ => exact ⟨_, rfl⟩
  | 3, _ => exact ⟨_, rfl⟩
  | 4, _ => exact ⟨_, rfl⟩
  | 5, _ => exact ⟨_, rfl⟩
  | 6, _ => exact ⟨_, rfl⟩
  | 7, _ => exact ⟨_, rfl⟩
  | j + 8, h => omega
theorem pw8_s0 (g : Nat → Option Nat) (sz : Int32) (P : Nat → NV) (X : List aC) : pw8 g sz P X = ([ao 4 [.ref 1, .int sz], aq 8 g]) ++ (nv 2 (P 0) ++ (nv 6 (P 1) ++ (nv 10 (P 2) ++ (nv 14 (P 3) ++ (nv 18 (P 4) ++ (nv 22 (P 5) ++ (nv 26 (P 6) ++ (nv 30 (P 7) ++ (X))))))))) := by simp only [List.append_assoc]
theorem pw8_p0 (g : Nat → Option Nat) (sz : Int32) (P : Nat → NV) (X : List aC) (N' : NV) : put (pw8 g sz P X) [2, 3, 4, 5] (nv 2 N') = pw8 g sz (updN P 0 N') X := by
  rw [pw8_s0 g sz P X]
  refine (put_seg (a := 2) (n := 4) rfl rfl rfl).trans ?_
  rw [pw8_s0 g sz (updN P 0 N') X, updN_s, updN_n P N' (show 1 ≠ 0 by decide), updN_n P N' (show 2 ≠ 0 by decide), updN_n P N' (show 3 ≠ 0 by decide), updN_n P N' (show 4 ≠ 0 by decide), updN_n P N' (show 5 ≠ 0 by decide), updN_n P N' (show 6 ≠ 0 by decide), updN_n P N' (show 7 ≠ 0 by decide)]
theorem pw8_s1 (g : Nat → Option Nat) (sz : Int32) (P : Nat → NV) (X : List aC) : pw8 g sz P X = (([ao 4 [.ref 1, .int sz], aq 8 g]) ++ (nv 2 (P 0))) ++ (nv 6 (P 1) ++ (nv 10 (P 2) ++ (nv 14 (P 3) ++ (nv 18 (P 4) ++ (nv 22 (P 5) ++ (nv 26 (P 6) ++ (nv 30 (P 7) ++ (X)))))))) := by simp only [List.append_assoc]
theorem pw8_p1 (g : Nat → Option Nat) (sz : Int32) (P : Nat → NV) (X : List aC) (N' : NV) : put (pw8 g sz P X) [6, 7, 8, 9] (nv 6 N') = pw8 g sz (updN P 1 N') X := by
  rw [pw8_s1 g sz P X]
  refine (put_seg (a := 6) (n := 4) rfl rfl rfl).trans ?_
  rw [pw8_s1 g sz (updN P 1 N') X, updN_s, updN_n P N' (show 0 ≠ 1 by decide), updN_n P N' (show 2 ≠ 1 by decide), updN_n P N' (show 3 ≠ 1 by decide), updN_n P N' (show 4 ≠ 1 by decide), updN_n P N' (show 5 ≠ 1 by decide), updN_n P N' (show 6 ≠ 1 by decide), updN_n P N' (show 7 ≠ 1 by decide)]
theorem pw8_s2 (g : Nat → Option Nat) (sz : Int32) (P : Nat → NV) (X : List aC) : pw8 g sz P X = ((([ao 4 [.ref 1, .int sz], aq 8 g]) ++ (nv 2 (P 0))) ++ (nv 6 (P 1))) ++ (nv 10 (P 2) ++ (nv 14 (P 3) ++ (nv 18 (P 4) ++ (nv 22 (P 5) ++ (nv 26 (P 6) ++ (nv 30 (P 7) ++ (X))))))) := by simp only [List.append_assoc]
theorem pw8_p2 (g : Nat → Option Nat) (sz : Int32) (P : Nat → NV) (X : List aC) (N' : NV) : put (pw8 g sz P X) [10, 11, 12, 13] (nv 10 N') = pw8 g sz (updN P 2 N') X := by
  rw [pw8_s2 g sz P X]
  refine (put_seg (a := 10) (n := 4) rfl rfl rfl).trans ?_
  rw [pw8_s2 g sz (updN P 2 N') X, updN_s, updN_n P N' (show 0 ≠ 2 by decide), updN_n P N' (show 1 ≠ 2 by decide), updN_n P N' (show 3 ≠ 2 by decide), updN_n P N' (show 4 ≠ 2 by decide), updN_n P N' (show 5 ≠ 2 by decide), updN_n P N' (show 6 ≠ 2 by decide), updN_n P N' (show 7 ≠ 2 by decide)]
theorem pw8_s3 (g : Nat → Option Nat) (sz : Int32) (P : Nat → NV) (X : List aC) : pw8 g sz P X = (((([ao 4 [.ref 1, .int sz], aq 8 g]) ++ (nv 2 (P 0))) ++ (nv 6 (P 1))) ++ (nv 10 (P 2))) ++ (nv 14 (P 3) ++ (nv 18 (P 4) ++ (nv 22 (P 5) ++ (nv 26 (P 6) ++ (nv 30 (P 7) ++ (X)))))) := by simp only [List.append_assoc]
theorem pw8_p3 (g : Nat → Option Nat) (sz : Int32) (P : Nat → NV) (X : List aC) (N' : NV) : put (pw8 g sz P X) [14, 15, 16, 17] (nv 14 N') = pw8 g sz (updN P 3 N') X := by
  rw [pw8_s3 g sz P X]
  refine (put_seg (a := 14) (n := 4) rfl rfl rfl).trans ?_
  rw [pw8_s3 g sz (updN P 3 N') X, updN_s, updN_n P N' (show 0 ≠ 3 by decide), updN_n P N' (show 1 ≠ 3 by decide), updN_n P N' (show 2 ≠ 3 by decide), updN_n P N' (show 4 ≠ 3 by decide), updN_n P N' (show 5 ≠ 3 by decide), updN_n P N' (show 6 ≠ 3 by decide), updN_n P N' (show 7 ≠ 3 by decide)]
theorem pw8_s4 (g : Nat → Option Nat) (sz : Int32) (P : Nat → NV) (X : List aC) : pw8 g sz P X = ((((([ao 4 [.ref 1, .int sz], aq 8 g]) ++ (nv 2 (P 0))) ++ (nv 6 (P 1))) ++ (nv 10 (P 2))) ++ (nv 14 (P 3))) ++ (nv 18 (P 4) ++ (nv 22 (P 5) ++ (nv 26 (P 6) ++ (nv 30 (P 7) ++ (X))))) := by simp only [List.append_assoc]
theorem pw8_p4 (g : Nat → Option Nat) (sz : Int32) (P : Nat → NV) (X : List aC) (N' : NV) : put (pw8 g sz P X) [18, 19, 20, 21] (nv 18 N') = pw8 g sz (updN P 4 N') X := by
  rw [pw8_s4 g sz P X]
  refine (put_seg (a := 18) (n := 4) rfl rfl rfl).trans ?_
  rw [pw8_s4 g sz (updN P 4 N') X, updN_s, updN_n P N' (show 0 ≠ 4 by decide), updN_n P N' (show 1 ≠ 4 by decide), updN_n P N' (show 2 ≠ 4 by decide), updN_n P N' (show 3 ≠ 4 by decide), updN_n P N' (show 5 ≠ 4 by decide), updN_n P N' (show 6 ≠ 4 by decide), updN_n P N' (show 7 ≠ 4 by decide)]
theorem pw8_s5 (g : Nat → Option Nat) (sz : Int32) (P : Nat → NV) (X : List aC) : pw8 g sz P X = (((((([ao 4 [.ref 1, .int sz], aq 8 g]) ++ (nv 2 (P 0))) ++ (nv 6 (P 1))) ++ (nv 10 (P 2))) ++ (nv 14 (P 3))) ++ (nv 18 (P 4))) ++ (nv 22 (P 5) ++ (nv 26 (P 6) ++ (nv 30 (P 7) ++ (X)))) := by simp only [List.append_assoc]
theorem pw8_p5 (g : Nat → Option Nat) (sz : Int32) (P : Nat → NV) (X : List aC) (N' : NV) : put (pw8 g sz P X) [22, 23, 24, 25] (nv 22 N') = pw8 g sz (updN P 5 N') X := by
  rw [pw8_s5 g sz P X]
  refine (put_seg (a := 22) (n := 4) rfl rfl rfl).trans ?_
  rw [pw8_s5 g sz (updN P 5 N') X, updN_s, updN_n P N' (show 0 ≠ 5 by decide), updN_n P N' (show 1 ≠ 5 by decide), updN_n P N' (show 2 ≠ 5 by decide), updN_n P N' (show 3 ≠ 5 by decide), updN_n P N' (show 4 ≠ 5 by decide), updN_n P N' (show 6 ≠ 5 by decide), updN_n P N' (show 7 ≠ 5 by decide)]
theorem pw8_s6 (g : Nat → Option Nat) (sz : Int32) (P : Nat → NV) (X : List aC) : pw8 g sz P X = ((((((([ao 4 [.ref 1, .int sz], aq 8 g]) ++ (nv 2 (P 0))) ++ (nv 6 (P 1))) ++ (nv 10 (P 2))) ++ (nv 14 (P 3))) ++ (nv 18 (P 4))) ++ (nv 22 (P 5))) ++ (nv 26 (P 6) ++ (nv 30 (P 7) ++ (X))) := by simp only [List.append_assoc]
theorem pw8_p6 (g : Nat → Option Nat) (sz : Int32) (P : Nat → NV) (X : List aC) (N' : NV) : put (pw8 g sz P X) [26, 27, 28, 29] (nv 26 N') = pw8 g sz (updN P 6 N') X := by
  rw [pw8_s6 g sz P X]
  refine (put_seg (a := 26) (n := 4) rfl rfl rfl).trans ?_
  rw [pw8_s6 g sz (updN P 6 N') X, updN_s, updN_n P N' (show 0 ≠ 6 by decide), updN_n P N' (show 1 ≠ 6 by decide), updN_n P N' (show 2 ≠ 6 by decide), updN_n P N' (show 3 ≠ 6 by decide), updN_n P N' (show 4 ≠ 6 by decide), updN_n P N' (show 5 ≠ 6 by decide), updN_n P N' (show 7 ≠ 6 by decide)]
theorem pw8_s7 (g : Nat → Option Nat) (sz : Int32) (P : Nat → NV) (X : List aC) : pw8 g sz P X = (((((((([ao 4 [.ref 1, .int sz], aq 8 g]) ++ (nv 2 (P 0))) ++ (nv 6 (P 1))) ++ (nv 10 (P 2))) ++ (nv 14 (P 3))) ++ (nv 18 (P 4))) ++ (nv 22 (P 5))) ++ (nv 26 (P 6))) ++ (nv 30 (P 7) ++ (X)) := by simp only [List.append_assoc]
theorem pw8_p7 (g : Nat → Option Nat) (sz : Int32) (P : Nat → NV) (X : List aC) (N' : NV) : put (pw8 g sz P X) [30, 31, 32, 33] (nv 30 N') = pw8 g sz (updN P 7 N') X := by
  rw [pw8_s7 g sz P X]
  refine (put_seg (a := 30) (n := 4) rfl rfl rfl).trans ?_
  rw [pw8_s7 g sz (updN P 7 N') X, updN_s, updN_n P N' (show 0 ≠ 7 by decide), updN_n P N' (show 1 ≠ 7 by decide), updN_n P N' (show 2 ≠ 7 by decide), updN_n P N' (show 3 ≠ 7 by decide), updN_n P N' (show 4 ≠ 7 by decide), updN_n P N' (show 5 ≠ 7 by decide), updN_n P N' (show 6 ≠ 7 by decide)]
theorem pw8_x (g : Nat → Option Nat) (sz : Int32) (P : Nat → NV) (N N' : NV) : put (pw8 g sz P (nv 34 N)) [34, 35, 36, 37] (nv 34 N') = pw8 g sz P (nv 34 N') := by
  have e : ∀ X : List aC, pw8 g sz P X = ((((((((([ao 4 [.ref 1, .int sz], aq 8 g]) ++ (nv 2 (P 0))) ++ (nv 6 (P 1))) ++ (nv 10 (P 2))) ++ (nv 14 (P 3))) ++ (nv 18 (P 4))) ++ (nv 22 (P 5))) ++ (nv 26 (P 6))) ++ (nv 30 (P 7))) ++ (X ++ []) := fun X => by simp only [List.append_assoc, List.append_nil]
  rw [e (nv 34 N)]
  refine (put_seg (a := 34) (n := 4) rfl rfl rfl).trans ?_
  rw [e (nv 34 N')]
section PI8
variable {d : Nat} {g : Nat → Option Nat} {sz : Int32} {P : Nat → NV} {N : NV} {X : List aC} {p : Nat → Nat} {S : Nat} {Q : Option Value → List aC → Prop}
theorem t_pclear8 (hQ : Q none (pw8 g 0 P X)) : callok (d + 1) 66 0 0 [.ref 0] (pw8 g sz P X) Q := by
  refine beg rfl (gs [] ?_)
  exact fin0 (hQ)
theorem t_psize8 (hQ : Q (some (.int sz)) (pw8 g sz P X)) : callok (d + 1) 67 0 0 [.ref 0] (pw8 g sz P X) Q := by
  refine beg rfl (gs [] ?_)
  exact fin0 (hQ)
theorem t_isFull8 (hT : ¬ S < 8 → Q (some (.int 1)) (pw8 g (nI S) P X)) (hF : S < 8 → Q (some (.int 0)) (pw8 g (nI S) P X)) (hS : S ≤ 8) : callok (d + 1) 68 0 0 [.ref 0] (pw8 g (nI S) P X) Q := by
  refine beg rfl (gs [] ?_)
  by_cases c : S < 8
  · refine br_t ((show nI S < nI 8 from nI_lt c (by omega))) ?_
    exact And.intro (Or.inl rfl) (fin0 (hF c))
  · refine br_f ((show ¬ nI S < nI 8 from nI_nlt (by omega) (by omega))) ?_
    exact And.intro (Or.inr rfl) (fin0 (hT c))
theorem t_dropOldest8 (hp : ∀ i, i < 8 → p i < 8) (hQ : Q none (pw8 (gP 2 8 (rot 8 p)) (nI 7) P X)) : callok (d + 1) 71 0 0 [.ref 0] (pw8 (gP 2 8 p) sz P X) Q := by
  refine beg rfl (gs [9] ?_)
  refine Exists.intro (0) (And.intro (rfl) (And.intro ⟨by omega, by omega⟩ ?_))
  refine Exists.intro (2 + 4 * p 0) (And.intro (gP_at (by omega)) ?_)
  have key := up (W := fun k => wp (0, 0, callok d) (mcode 71) (qE 0 0 Q) 9 [some (.ref 0), some (.ref (2 + 4 * p 0)), some (.int (nI (k + 1)))] [] (pw8 (gP 2 8 (rP p k)) sz P X) 0 0) 7 ?_ ?_
  · rw [rP_0] at key
    exact key
  · refine gs [9] ?_
    refine br_f ((show ¬ nI 8 < nI 8 by decide)) ?_
    refine Exists.intro (7) (And.intro (rfl) (And.intro ⟨by omega, by omega⟩ ?_))
    refine And.intro (pw8_at (hp 0 (by omega))) ?_
    have e := rP_end (b := 2) (n := 8) (p := p) (by omega)
    rw [← e] at hQ
    exact fin0 (hQ)
  · intro k hk ih
    refine gs [9] ?_
    refine br_t ((show nI (k + 1) < nI 8 from nI_lt (by omega) (by omega))) ?_
    refine Exists.intro (k + 1) (And.intro (rfl) (And.intro ⟨by omega, by omega⟩ ?_))
    refine Exists.intro (2 + 4 * p (k + 1)) (And.intro (by rw [gP_at (by omega)]; unfold rP; rw [if_neg (by omega)]) ?_)
    refine Exists.intro (k) (And.intro (nI_pred k) (And.intro ⟨by omega, by omega⟩ ?_))
    refine And.intro (pw8_at (hp (k + 1) (by omega))) ?_
    rw [nI_succ (k + 1), ← rP_step (by omega)] at ih
    exact ih
theorem q_put8_0 (N' N2 : NV) : put (pw8 g sz P (nv 34 N)) [2, 3, 4, 5, 34, 35, 36, 37] ((nv 0 N' ++ nv 4 N2).map (rc (rho [2, 3, 4, 5, 34, 35, 36, 37] (pw8 g sz P (nv 34 N)).length))) = pw8 g sz (updN P 0 N') (nv 34 N2) := by
  refine (put_app [2, 3, 4, 5] [34, 35, 36, 37] _ (nv 2 N') (nv 34 N2) rfl).trans ?_
  rw [pw8_p0, pw8_x]
theorem q_take8_0 (N' : NV) : put (pw8 g sz P (nv 34 N)) [34, 35, 36, 37, 2, 3, 4, 5] ((nv 0 N' ++ nv 4 (P 0)).map (rc (rho [34, 35, 36, 37, 2, 3, 4, 5] (pw8 g sz P (nv 34 N)).length))) = pw8 g sz P (nv 34 N') := by
  refine (put_app [34, 35, 36, 37] [2, 3, 4, 5] _ (nv 34 N') (nv 2 (P 0)) rfl).trans ?_
  rw [pw8_x, pw8_p0]
  congr 1
  have e : updN P 0 (P 0) = P := by
    funext i
    unfold updN
    split
    · rename_i h; rw [h]
    · rfl
  rw [e]
theorem q_put8_1 (N' N2 : NV) : put (pw8 g sz P (nv 34 N)) [6, 7, 8, 9, 34, 35, 36, 37] ((nv 0 N' ++ nv 4 N2).map (rc (rho [6, 7, 8, 9, 34, 35, 36, 37] (pw8 g sz P (nv 34 N)).length))) = pw8 g sz (updN P 1 N') (nv 34 N2) := by
  refine (put_app [6, 7, 8, 9] [34, 35, 36, 37] _ (nv 6 N') (nv 34 N2) rfl).trans ?_
  rw [pw8_p1, pw8_x]
theorem q_take8_1 (N' : NV) : put (pw8 g sz P (nv 34 N)) [34, 35, 36, 37, 6, 7, 8, 9] ((nv 0 N' ++ nv 4 (P 1)).map (rc (rho [34, 35, 36, 37, 6, 7, 8, 9] (pw8 g sz P (nv 34 N)).length))) = pw8 g sz P (nv 34 N') := by
  refine (put_app [34, 35, 36, 37] [6, 7, 8, 9] _ (nv 34 N') (nv 6 (P 1)) rfl).trans ?_
  rw [pw8_x, pw8_p1]
  congr 1
  have e : updN P 1 (P 1) = P := by
    funext i
    unfold updN
    split
    · rename_i h; rw [h]
    · rfl
  rw [e]
theorem q_put8_2 (N' N2 : NV) : put (pw8 g sz P (nv 34 N)) [10, 11, 12, 13, 34, 35, 36, 37] ((nv 0 N' ++ nv 4 N2).map (rc (rho [10, 11, 12, 13, 34, 35, 36, 37] (pw8 g sz P (nv 34 N)).length))) = pw8 g sz (updN P 2 N') (nv 34 N2) := by
  refine (put_app [10, 11, 12, 13] [34, 35, 36, 37] _ (nv 10 N') (nv 34 N2) rfl).trans ?_
  rw [pw8_p2, pw8_x]
theorem q_take8_2 (N' : NV) : put (pw8 g sz P (nv 34 N)) [34, 35, 36, 37, 10, 11, 12, 13] ((nv 0 N' ++ nv 4 (P 2)).map (rc (rho [34, 35, 36, 37, 10, 11, 12, 13] (pw8 g sz P (nv 34 N)).length))) = pw8 g sz P (nv 34 N') := by
  refine (put_app [34, 35, 36, 37] [10, 11, 12, 13] _ (nv 34 N') (nv 10 (P 2)) rfl).trans ?_
  rw [pw8_x, pw8_p2]
  congr 1
  have e : updN P 2 (P 2) = P := by
    funext i
    unfold updN
    split
    · rename_i h; rw [h]
    · rfl
  rw [e]
theorem q_put8_3 (N' N2 : NV) : put (pw8 g sz P (nv 34 N)) [14, 15, 16, 17, 34, 35, 36, 37] ((nv 0 N' ++ nv 4 N2).map (rc (rho [14, 15, 16, 17, 34, 35, 36, 37] (pw8 g sz P (nv 34 N)).length))) = pw8 g sz (updN P 3 N') (nv 34 N2) := by
  refine (put_app [14, 15, 16, 17] [34, 35, 36, 37] _ (nv 14 N') (nv 34 N2) rfl).trans ?_
  rw [pw8_p3, pw8_x]
theorem q_take8_3 (N' : NV) : put (pw8 g sz P (nv 34 N)) [34, 35, 36, 37, 14, 15, 16, 17] ((nv 0 N' ++ nv 4 (P 3)).map (rc (rho [34, 35, 36, 37, 14, 15, 16, 17] (pw8 g sz P (nv 34 N)).length))) = pw8 g sz P (nv 34 N') := by
  refine (put_app [34, 35, 36, 37] [14, 15, 16, 17] _ (nv 34 N') (nv 14 (P 3)) rfl).trans ?_
  rw [pw8_x, pw8_p3]
  congr 1
  have e : updN P 3 (P 3) = P := by
    funext i
    unfold updN
    split
    · rename_i h; rw [h]
    · rfl
  rw [e]
theorem q_put8_4 (N' N2 : NV) : put (pw8 g sz P (nv 34 N)) [18, 19, 20, 21, 34, 35, 36, 37] ((nv 0 N' ++ nv 4 N2).map (rc (rho [18, 19, 20, 21, 34, 35, 36, 37] (pw8 g sz P (nv 34 N)).length))) = pw8 g sz (updN P 4 N') (nv 34 N2) := by
  refine (put_app [18, 19, 20, 21] [34, 35, 36, 37] _ (nv 18 N') (nv 34 N2) rfl).trans ?_
  rw [pw8_p4, pw8_x]
theorem q_take8_4 (N' : NV) : put (pw8 g sz P (nv 34 N)) [34, 35, 36, 37, 18, 19, 20, 21] ((nv 0 N' ++ nv 4 (P 4)).map (rc (rho [34, 35, 36, 37, 18, 19, 20, 21] (pw8 g sz P (nv 34 N)).length))) = pw8 g sz P (nv 34 N') := by
  refine (put_app [34, 35, 36, 37] [18, 19, 20, 21] _ (nv 34 N') (nv 18 (P 4)) rfl).trans ?_
  rw [pw8_x, pw8_p4]
  congr 1
  have e : updN P 4 (P 4) = P := by
    funext i
    unfold updN
    split
    · rename_i h; rw [h]
    · rfl
  rw [e]
theorem q_put8_5 (N' N2 : NV) : put (pw8 g sz P (nv 34 N)) [22, 23, 24, 25, 34, 35, 36, 37] ((nv 0 N' ++ nv 4 N2).map (rc (rho [22, 23, 24, 25, 34, 35, 36, 37] (pw8 g sz P (nv 34 N)).length))) = pw8 g sz (updN P 5 N') (nv 34 N2) := by
  refine (put_app [22, 23, 24, 25] [34, 35, 36, 37] _ (nv 22 N') (nv 34 N2) rfl).trans ?_
  rw [pw8_p5, pw8_x]
theorem q_take8_5 (N' : NV) : put (pw8 g sz P (nv 34 N)) [34, 35, 36, 37, 22, 23, 24, 25] ((nv 0 N' ++ nv 4 (P 5)).map (rc (rho [34, 35, 36, 37, 22, 23, 24, 25] (pw8 g sz P (nv 34 N)).length))) = pw8 g sz P (nv 34 N') := by
  refine (put_app [34, 35, 36, 37] [22, 23, 24, 25] _ (nv 34 N') (nv 22 (P 5)) rfl).trans ?_
  rw [pw8_x, pw8_p5]
  congr 1
  have e : updN P 5 (P 5) = P := by
    funext i
    unfold updN
    split
    · rename_i h; rw [h]
    · rfl
  rw [e]
theorem q_put8_6 (N' N2 : NV) : put (pw8 g sz P (nv 34 N)) [26, 27, 28, 29, 34, 35, 36, 37] ((nv 0 N' ++ nv 4 N2).map (rc (rho [26, 27, 28, 29, 34, 35, 36, 37] (pw8 g sz P (nv 34 N)).length))) = pw8 g sz (updN P 6 N') (nv 34 N2) := by
  refine (put_app [26, 27, 28, 29] [34, 35, 36, 37] _ (nv 26 N') (nv 34 N2) rfl).trans ?_
  rw [pw8_p6, pw8_x]
theorem q_take8_6 (N' : NV) : put (pw8 g sz P (nv 34 N)) [34, 35, 36, 37, 26, 27, 28, 29] ((nv 0 N' ++ nv 4 (P 6)).map (rc (rho [34, 35, 36, 37, 26, 27, 28, 29] (pw8 g sz P (nv 34 N)).length))) = pw8 g sz P (nv 34 N') := by
  refine (put_app [34, 35, 36, 37] [26, 27, 28, 29] _ (nv 34 N') (nv 26 (P 6)) rfl).trans ?_
  rw [pw8_x, pw8_p6]
  congr 1
  have e : updN P 6 (P 6) = P := by
    funext i
    unfold updN
    split
    · rename_i h; rw [h]
    · rfl
  rw [e]
theorem q_put8_7 (N' N2 : NV) : put (pw8 g sz P (nv 34 N)) [30, 31, 32, 33, 34, 35, 36, 37] ((nv 0 N' ++ nv 4 N2).map (rc (rho [30, 31, 32, 33, 34, 35, 36, 37] (pw8 g sz P (nv 34 N)).length))) = pw8 g sz (updN P 7 N') (nv 34 N2) := by
  refine (put_app [30, 31, 32, 33] [34, 35, 36, 37] _ (nv 30 N') (nv 34 N2) rfl).trans ?_
  rw [pw8_p7, pw8_x]
theorem q_take8_7 (N' : NV) : put (pw8 g sz P (nv 34 N)) [34, 35, 36, 37, 30, 31, 32, 33] ((nv 0 N' ++ nv 4 (P 7)).map (rc (rho [34, 35, 36, 37, 30, 31, 32, 33] (pw8 g sz P (nv 34 N)).length))) = pw8 g sz P (nv 34 N') := by
  refine (put_app [34, 35, 36, 37] [30, 31, 32, 33] _ (nv 34 N') (nv 30 (P 7)) rfl).trans ?_
  rw [pw8_x, pw8_p7]
  congr 1
  have e : updN P 7 (P 7) = P := by
    funext i
    unfold updN
    split
    · rename_i h; rw [h]
    · rfl
  rw [e]
theorem c_put8 {p' : Nat → Nat} {S' : Nat} (h1 : S' < 8) (h2 : p' S' < 8) (hq : Q none (pw8 (gP 2 8 p') (nI (S' + 1)) (updN P (p' S') N) (nv 34 N))) : wp (0, 0, callok (d + 1)) (mcode 69) (qE 0 0 Q) 11 [some (.ref 0), some (.ref 34)] [] (pw8 (gP 2 8 p') (nI S') P (nv 34 N)) 0 0 := by
  refine gs [] ?_
  refine Exists.intro (S') (And.intro (rfl) (And.intro ⟨by omega, by omega⟩ ?_))
  refine Exists.intro (2 + 4 * p' S') (And.intro (gP_at h1) ?_)
  rw [nI_succ] at hq
  generalize p' S' = j at h2 hq ⊢
  match j, h2 with
  | 0, _ =>
    refine Exists.intro [2, 3, 4, 5, 34, 35, 36, 37] (Exists.intro [.ref 0, .ref 4] (Exists.intro (nv 0 (P 0) ++ nv 4 N) (Exists.intro 0 (Exists.intro 0 (And.intro ⟨rfl, rfl, Nat.le_of_ble_eq_true rfl, rfl, rfl, rfl, ⟨0, _, rfl, rfl⟩⟩ (And.intro (Nat.le_refl _) (And.intro (Nat.le_refl _) ?_)))))))
    refine t_become ?_
    rw [q_put8_0 N N]
    exact fin0 (hq)
  | 1, _ =>
    refine Exists.intro [6, 7, 8, 9, 34, 35, 36, 37] (Exists.intro [.ref 0, .ref 4] (Exists.intro (nv 0 (P 1) ++ nv 4 N) (Exists.intro 0 (Exists.intro 0 (And.intro ⟨rfl, rfl, Nat.le_of_ble_eq_true rfl, rfl, rfl, rfl, ⟨0, _, rfl, rfl⟩⟩ (And.intro (Nat.le_refl _) (And.intro (Nat.le_refl _) ?_)))))))
    refine t_become ?_
    rw [q_put8_1 N N]
    exact fin0 (hq)
  | 2, _ =>
    refine Exists.intro [10, 11, 12, 13, 34, 35, 36, 37] (Exists.intro [.ref 0, .ref 4] (Exists.intro (nv 0 (P 2) ++ nv 4 N) (Exists.intro 0 (Exists.intro 0 (And.intro ⟨rfl, rfl, Nat.le_of_ble_eq_true rfl, rfl, rfl, rfl, ⟨0, _, rfl, rfl⟩⟩ (And.intro (Nat.le_refl _) (And.intro (Nat.le_refl _) ?_)))))))
    refine t_become ?_
    rw [q_put8_2 N N]
    exact fin0 (hq)
  | 3, _ =>
    refine Exists.intro [14, 15, 16, 17, 34, 35, 36, 37] (Exists.intro [.ref 0, .ref 4] (Exists.intro (nv 0 (P 3) ++ nv 4 N) (Exists.intro 0 (Exists.intro 0 (And.intro ⟨rfl, rfl, Nat.le_of_ble_eq_true rfl, rfl, rfl, rfl, ⟨0, _, rfl, rfl⟩⟩ (And.intro (Nat.le_refl _) (And.intro (Nat.le_refl _) ?_)))))))
    refine t_become ?_
    rw [q_put8_3 N N]
    exact fin0 (hq)
  | 4, _ =>
    refine Exists.intro [18, 19, 20, 21, 34, 35, 36, 37] (Exists.intro [.ref 0, .ref 4] (Exists.intro (nv 0 (P 4) ++ nv 4 N) (Exists.intro 0 (Exists.intro 0 (And.intro ⟨rfl, rfl, Nat.le_of_ble_eq_true rfl, rfl, rfl, rfl, ⟨0, _, rfl, rfl⟩⟩ (And.intro (Nat.le_refl _) (And.intro (Nat.le_refl _) ?_)))))))
    refine t_become ?_
    rw [q_put8_4 N N]
    exact fin0 (hq)
  | 5, _ =>
    refine Exists.intro [22, 23, 24, 25, 34, 35, 36, 37] (Exists.intro [.ref 0, .ref 4] (Exists.intro (nv 0 (P 5) ++ nv 4 N) (Exists.intro 0 (Exists.intro 0 (And.intro ⟨rfl, rfl, Nat.le_of_ble_eq_true rfl, rfl, rfl, rfl, ⟨0, _, rfl, rfl⟩⟩ (And.intro (Nat.le_refl _) (And.intro (Nat.le_refl _) ?_)))))))
    refine t_become ?_
    rw [q_put8_5 N N]
    exact fin0 (hq)
  | 6, _ =>
    refine Exists.intro [26, 27, 28, 29, 34, 35, 36, 37] (Exists.intro [.ref 0, .ref 4] (Exists.intro (nv 0 (P 6) ++ nv 4 N) (Exists.intro 0 (Exists.intro 0 (And.intro ⟨rfl, rfl, Nat.le_of_ble_eq_true rfl, rfl, rfl, rfl, ⟨0, _, rfl, rfl⟩⟩ (And.intro (Nat.le_refl _) (And.intro (Nat.le_refl _) ?_)))))))
    refine t_become ?_
    rw [q_put8_6 N N]
    exact fin0 (hq)
  | 7, _ =>
    refine Exists.intro [30, 31, 32, 33, 34, 35, 36, 37] (Exists.intro [.ref 0, .ref 4] (Exists.intro (nv 0 (P 7) ++ nv 4 N) (Exists.intro 0 (Exists.intro 0 (And.intro ⟨rfl, rfl, Nat.le_of_ble_eq_true rfl, rfl, rfl, rfl, ⟨0, _, rfl, rfl⟩⟩ (And.intro (Nat.le_refl _) (And.intro (Nat.le_refl _) ?_)))))))
    refine t_become ?_
    rw [q_put8_7 N N]
    exact fin0 (hq)
  | j + 8, h => omega
theorem q_all8 (g' : Nat → Option Nat) (sz' : Int32) : put (pw8 g sz P (nv 34 N)) [0, 1, 2, 3, 4, 5, 6, 7, 8, 9, 10, 11, 12, 13, 14, 15, 16, 17, 18, 19, 20, 21, 22, 23, 24, 25, 26, 27, 28, 29, 30, 31, 32, 33, 34, 35, 36, 37] ((pw8 g' sz' P (nv 34 N)).map (rc (rho [0, 1, 2, 3, 4, 5, 6, 7, 8, 9, 10, 11, 12, 13, 14, 15, 16, 17, 18, 19, 20, 21, 22, 23, 24, 25, 26, 27, 28, 29, 30, 31, 32, 33, 34, 35, 36, 37] (pw8 g sz P (nv 34 N)).length))) = pw8 (gM [0, 1, 2, 3, 4, 5, 6, 7, 8, 9, 10, 11, 12, 13, 14, 15, 16, 17, 18, 19, 20, 21, 22, 23, 24, 25, 26, 27, 28, 29, 30, 31, 32, 33, 34, 35, 36, 37] 38 g') sz' P (nv 34 N) := by
  have e := put_seg (A := []) (S := pw8 g sz P (nv 34 N)) (B := []) (S' := pw8 (gM [0, 1, 2, 3, 4, 5, 6, 7, 8, 9, 10, 11, 12, 13, 14, 15, 16, 17, 18, 19, 20, 21, 22, 23, 24, 25, 26, 27, 28, 29, 30, 31, 32, 33, 34, 35, 36, 37] 38 g') sz' P (nv 34 N)) (a := 0) (n := 38) rfl rfl rfl
  rw [List.append_nil, List.append_nil, List.nil_append, List.nil_append] at e
  exact e
theorem t_put8 (hp : ∀ i, i < 8 → p i < 8) (hS : S ≤ 8) (hA : S < 8 → Q none (pw8 (gP 2 8 p) (nI (S + 1)) (updN P (p S) N) (nv 34 N))) (hB : ¬ S < 8 → Q none (pw8 (gP 2 8 (rot 8 p)) (nI 8) (updN P (p 0) N) (nv 34 N))) : callok (d + 2) 69 0 0 [.ref 0, .ref 34] (pw8 (gP 2 8 p) (nI S) P (nv 34 N)) Q := by
  have hid : ∀ j, j < 8 → rho [0, 1, 2, 3, 4, 5, 6, 7, 8, 9, 10, 11, 12, 13, 14, 15, 16, 17, 18, 19, 20, 21, 22, 23, 24, 25, 26, 27, 28, 29, 30, 31, 32, 33, 34, 35, 36, 37] 38 (2 + 4 * j) = 2 + 4 * j := by decide +kernel
  have e8 := gP_map (p := p) hid hp
  have e9 := gP_map (p := rot 8 p) hid (rot_lt hp)
  refine beg rfl (gs [11] ?_)
  rw [← e8]
  refine Exists.intro [0, 1, 2, 3, 4, 5, 6, 7, 8, 9, 10, 11, 12, 13, 14, 15, 16, 17, 18, 19, 20, 21, 22, 23, 24, 25, 26, 27, 28, 29, 30, 31, 32, 33, 34, 35, 36, 37] (Exists.intro [.ref 0] (Exists.intro (pw8 (gP 2 8 p) (nI S) P (nv 34 N)) (Exists.intro 0 (Exists.intro 0 (And.intro ⟨rfl, rfl, Nat.le_of_ble_eq_true rfl, rfl, rfl, rfl, ⟨0, _, rfl, rfl⟩⟩ (And.intro (Nat.le_refl _) (And.intro (Nat.le_refl _) ?_)))))))
  refine t_isFull8 (fun c => ?_) (fun c => ?_) hS
  · rw [q_all8]
    refine br_f ((by decide)) ?_
    refine Exists.intro [0, 1, 2, 3, 4, 5, 6, 7, 8, 9, 10, 11, 12, 13, 14, 15, 16, 17, 18, 19, 20, 21, 22, 23, 24, 25, 26, 27, 28, 29, 30, 31, 32, 33, 34, 35, 36, 37] (Exists.intro [.ref 0] (Exists.intro (pw8 (gP 2 8 p) (nI S) P (nv 34 N)) (Exists.intro 0 (Exists.intro 0 (And.intro ⟨rfl, rfl, Nat.le_of_ble_eq_true rfl, rfl, rfl, rfl, ⟨0, _, rfl, rfl⟩⟩ (And.intro (Nat.le_refl _) (And.intro (Nat.le_refl _) ?_)))))))
    refine t_dropOldest8 hp ?_
    rw [q_all8, e9]
    exact c_put8 (by omega) (rot_lt hp 7 (by omega)) (hB c)
  · rw [q_all8, e8]
    refine br_t ((rfl)) ?_
    exact c_put8 c (hp S c) (hA c)
theorem t_takeInto8 (hp : ∀ i, i < 8 → p i < 8) (hS : S ≤ 8) (hT : 0 < S → Q (some (.int 1)) (pw8 (gP 2 8 p) (nI (S - 1)) P (nv 34 (P (p (S - 1)))))) (hF : ¬ 0 < S → Q (some (.int 0)) (pw8 (gP 2 8 p) (nI S) P (nv 34 N))) : callok (d + 2) 70 0 0 [.ref 0, .ref 34] (pw8 (gP 2 8 p) (nI S) P (nv 34 N)) Q := by
  refine beg rfl (gs [] ?_)
  by_cases c : 0 < S
  · refine br_f ((show ¬ nI S < (1 : Int32) from nI_nlt (b := 1) (by omega) (by omega))) ?_
    have es : nI S - 1 = nI (S - 1) := by rw [← nI_pred (S - 1), show S - 1 + 1 = S by omega]
    refine Exists.intro (S - 1) (And.intro (es) (And.intro ⟨by omega, by omega⟩ ?_))
    refine Exists.intro (2 + 4 * p (S - 1)) (And.intro (gP_at (by omega)) ?_)
    have hq := hT c
    have h2 := hp (S - 1) (by omega)
    rw [← es] at hq
    generalize p (S - 1) = j at h2 hq ⊢
    show runS _ _ _ _ _ _ [some (.ref 0), some (.ref 34)] [.ref (2 + 4 * j), .ref 34] (pw8 (gP 2 8 p) (nI S - 1) P (nv 34 N)) _ _
    match j, h2 with
    | 0, _ =>
      refine Exists.intro [34, 35, 36, 37, 2, 3, 4, 5] (Exists.intro [.ref 0, .ref 4] (Exists.intro (nv 0 N ++ nv 4 (P 0)) (Exists.intro 0 (Exists.intro 0 (And.intro ⟨rfl, rfl, Nat.le_of_ble_eq_true rfl, rfl, rfl, rfl, ⟨0, _, rfl, rfl⟩⟩ (And.intro (Nat.le_refl _) (And.intro (Nat.le_refl _) ?_)))))))
      refine t_become ?_
      rw [q_take8_0 (P 0)]
      exact And.intro (Or.inr rfl) (fin0 (hq))
    | 1, _ =>
      refine Exists.intro [34, 35, 36, 37, 6, 7, 8, 9] (Exists.intro [.ref 0, .ref 4] (Exists.intro (nv 0 N ++ nv 4 (P 1)) (Exists.intro 0 (Exists.intro 0 (And.intro ⟨rfl, rfl, Nat.le_of_ble_eq_true rfl, rfl, rfl, rfl, ⟨0, _, rfl, rfl⟩⟩ (And.intro (Nat.le_refl _) (And.intro (Nat.le_refl _) ?_)))))))
      refine t_become ?_
      rw [q_take8_1 (P 1)]
      exact And.intro (Or.inr rfl) (fin0 (hq))
    | 2, _ =>
      refine Exists.intro [34, 35, 36, 37, 10, 11, 12, 13] (Exists.intro [.ref 0, .ref 4] (Exists.intro (nv 0 N ++ nv 4 (P 2)) (Exists.intro 0 (Exists.intro 0 (And.intro ⟨rfl, rfl, Nat.le_of_ble_eq_true rfl, rfl, rfl, rfl, ⟨0, _, rfl, rfl⟩⟩ (And.intro (Nat.le_refl _) (And.intro (Nat.le_refl _) ?_)))))))
      refine t_become ?_
      rw [q_take8_2 (P 2)]
      exact And.intro (Or.inr rfl) (fin0 (hq))
    | 3, _ =>
      refine Exists.intro [34, 35, 36, 37, 14, 15, 16, 17] (Exists.intro [.ref 0, .ref 4] (Exists.intro (nv 0 N ++ nv 4 (P 3)) (Exists.intro 0 (Exists.intro 0 (And.intro ⟨rfl, rfl, Nat.le_of_ble_eq_true rfl, rfl, rfl, rfl, ⟨0, _, rfl, rfl⟩⟩ (And.intro (Nat.le_refl _) (And.intro (Nat.le_refl _) ?_)))))))
      refine t_become ?_
      rw [q_take8_3 (P 3)]
      exact And.intro (Or.inr rfl) (fin0 (hq))
    | 4, _ =>
      refine Exists.intro [34, 35, 36, 37, 18, 19, 20, 21] (Exists.intro [.ref 0, .ref 4] (Exists.intro (nv 0 N ++ nv 4 (P 4)) (Exists.intro 0 (Exists.intro 0 (And.intro ⟨rfl, rfl, Nat.le_of_ble_eq_true rfl, rfl, rfl, rfl, ⟨0, _, rfl, rfl⟩⟩ (And.intro (Nat.le_refl _) (And.intro (Nat.le_refl _) ?_)))))))
      refine t_become ?_
      rw [q_take8_4 (P 4)]
      exact And.intro (Or.inr rfl) (fin0 (hq))
    | 5, _ =>
      refine Exists.intro [34, 35, 36, 37, 22, 23, 24, 25] (Exists.intro [.ref 0, .ref 4] (Exists.intro (nv 0 N ++ nv 4 (P 5)) (Exists.intro 0 (Exists.intro 0 (And.intro ⟨rfl, rfl, Nat.le_of_ble_eq_true rfl, rfl, rfl, rfl, ⟨0, _, rfl, rfl⟩⟩ (And.intro (Nat.le_refl _) (And.intro (Nat.le_refl _) ?_)))))))
      refine t_become ?_
      rw [q_take8_5 (P 5)]
      exact And.intro (Or.inr rfl) (fin0 (hq))
    | 6, _ =>
      refine Exists.intro [34, 35, 36, 37, 26, 27, 28, 29] (Exists.intro [.ref 0, .ref 4] (Exists.intro (nv 0 N ++ nv 4 (P 6)) (Exists.intro 0 (Exists.intro 0 (And.intro ⟨rfl, rfl, Nat.le_of_ble_eq_true rfl, rfl, rfl, rfl, ⟨0, _, rfl, rfl⟩⟩ (And.intro (Nat.le_refl _) (And.intro (Nat.le_refl _) ?_)))))))
      refine t_become ?_
      rw [q_take8_6 (P 6)]
      exact And.intro (Or.inr rfl) (fin0 (hq))
    | 7, _ =>
      refine Exists.intro [34, 35, 36, 37, 30, 31, 32, 33] (Exists.intro [.ref 0, .ref 4] (Exists.intro (nv 0 N ++ nv 4 (P 7)) (Exists.intro 0 (Exists.intro 0 (And.intro ⟨rfl, rfl, Nat.le_of_ble_eq_true rfl, rfl, rfl, rfl, ⟨0, _, rfl, rfl⟩⟩ (And.intro (Nat.le_refl _) (And.intro (Nat.le_refl _) ?_)))))))
      refine t_become ?_
      rw [q_take8_7 (P 7)]
      exact And.intro (Or.inr rfl) (fin0 (hq))
    | j + 8, h => omega
  · refine br_t ((show nI S < (1 : Int32) from nI_lt (b := 1) (by omega) (by omega))) ?_
    exact And.intro (Or.inl rfl) (fin0 (hF c))
end PI8
/-- pile, row and nurseries, then what else is there -/
abbrev pw2 (g : Nat → Option Nat) (sz : Int32) (P : Nat → NV) (X : List aC) : List aC := [ao 4 [.ref 1, .int sz], aq 2 g] ++ (nv 2 (P 0) ++ (nv 6 (P 1) ++ (X)))
theorem pw2_at {g : Nat → Option Nat} {sz : Int32} {P : Nat → NV} {X : List aC} {j : Nat} (h : j < 2) : ∃ fs, (pw2 g sz P X)[2 + 4 * j]? = some (ao 2 fs) := by
  match j, h with
  | 0, _ => exact ⟨_, rfl⟩
  | 1, _ => exact ⟨_, rfl⟩
  | j + 2, h => omega
theorem pw2_s0 (g : Nat → Option Nat) (sz : Int32) (P : Nat → NV) (X : List aC) : pw2 g sz P X = ([ao 4 [.ref 1, .int sz], aq 2 g]) ++ (nv 2 (P 0) ++ (nv 6 (P 1) ++ (X))) := by simp only [List.append_assoc]
theorem pw2_p0 (g : Nat → Option Nat) (sz : Int32) (P : Nat → NV) (X : List aC) (N' : NV) : put (pw2 g sz P X) [2, 3, 4, 5] (nv 2 N') = pw2 g sz (updN P 0 N') X := by
  rw [pw2_s0 g sz P X]
  refine (put_seg (a := 2) (n := 4) rfl rfl rfl).trans ?_
  rw [pw2_s0 g sz (updN P 0 N') X, updN_s, updN_n P N' (show 1 ≠ 0 by decide)]
theorem pw2_s1 (g : Nat → Option Nat) (sz : Int32) (P : Nat → NV) (X : List aC) : pw2 g sz P X = (([ao 4 [.ref 1, .int sz], aq 2 g]) ++ (nv 2 (P 0))) ++ (nv 6 (P 1) ++ (X)) := by simp only [List.append_assoc]
theorem pw2_p1 (g : Nat → Option Nat) (sz : Int32) (P : Nat → NV) (X : List aC) (N' : NV) : put (pw2 g sz P X) [6, 7, 8, 9] (nv 6 N') = pw2 g sz (updN P 1 N') X := by
  rw [pw2_s1 g sz P X]
  refine (put_seg (a := 6) (n := 4) rfl rfl rfl).trans ?_
  rw [pw2_s1 g sz (updN P 1 N') X, updN_s, updN_n P N' (show 0 ≠ 1 by decide)]
theorem pw2_x (g : Nat → Option Nat) (sz : Int32) (P : Nat → NV) (N N' : NV) : put (pw2 g sz P (nv 10 N)) [10, 11, 12, 13] (nv 10 N') = pw2 g sz P (nv 10 N') := by
  have e : ∀ X : List aC, pw2 g sz P X = ((([ao 4 [.ref 1, .int sz], aq 2 g]) ++ (nv 2 (P 0))) ++ (nv 6 (P 1))) ++ (X ++ []) := fun X => by simp only [List.append_assoc, List.append_nil]
  rw [e (nv 10 N)]
  refine (put_seg (a := 10) (n := 4) rfl rfl rfl).trans ?_
  rw [e (nv 10 N')]
section PI2
variable {d : Nat} {g : Nat → Option Nat} {sz : Int32} {P : Nat → NV} {N : NV} {X : List aC} {p : Nat → Nat} {S : Nat} {Q : Option Value → List aC → Prop}
theorem t_pclear2 (hQ : Q none (pw2 g 0 P X)) : callok (d + 1) 66 0 0 [.ref 0] (pw2 g sz P X) Q := by
  refine beg rfl (gs [] ?_)
  exact fin0 (hQ)
theorem t_psize2 (hQ : Q (some (.int sz)) (pw2 g sz P X)) : callok (d + 1) 67 0 0 [.ref 0] (pw2 g sz P X) Q := by
  refine beg rfl (gs [] ?_)
  exact fin0 (hQ)
theorem t_isFull2 (hT : ¬ S < 2 → Q (some (.int 1)) (pw2 g (nI S) P X)) (hF : S < 2 → Q (some (.int 0)) (pw2 g (nI S) P X)) (hS : S ≤ 2) : callok (d + 1) 68 0 0 [.ref 0] (pw2 g (nI S) P X) Q := by
  refine beg rfl (gs [] ?_)
  by_cases c : S < 2
  · refine br_t ((show nI S < nI 2 from nI_lt c (by omega))) ?_
    exact And.intro (Or.inl rfl) (fin0 (hF c))
  · refine br_f ((show ¬ nI S < nI 2 from nI_nlt (by omega) (by omega))) ?_
    exact And.intro (Or.inr rfl) (fin0 (hT c))
theorem t_dropOldest2 (hp : ∀ i, i < 2 → p i < 2) (hQ : Q none (pw2 (gP 2 2 (rot 2 p)) (nI 1) P X)) : callok (d + 1) 71 0 0 [.ref 0] (pw2 (gP 2 2 p) sz P X) Q := by
  refine beg rfl (gs [9] ?_)
  refine Exists.intro (0) (And.intro (rfl) (And.intro ⟨by omega, by omega⟩ ?_))
  refine Exists.intro (2 + 4 * p 0) (And.intro (gP_at (by omega)) ?_)
  have key := up (W := fun k => wp (0, 0, callok d) (mcode 71) (qE 0 0 Q) 9 [some (.ref 0), some (.ref (2 + 4 * p 0)), some (.int (nI (k + 1)))] [] (pw2 (gP 2 2 (rP p k)) sz P X) 0 0) 1 ?_ ?_
  · rw [rP_0] at key
    exact key
  · refine gs [9] ?_
    refine br_f ((show ¬ nI 2 < nI 2 by decide)) ?_
    refine Exists.intro (1) (And.intro (rfl) (And.intro ⟨by omega, by omega⟩ ?_))
    refine And.intro (pw2_at (hp 0 (by omega))) ?_
    have e := rP_end (b := 2) (n := 2) (p := p) (by omega)
    rw [← e] at hQ
    exact fin0 (hQ)
  · intro k hk ih
    refine gs [9] ?_
    refine br_t ((show nI (k + 1) < nI 2 from nI_lt (by omega) (by omega))) ?_
    refine Exists.intro (k + 1) (And.intro (rfl) (And.intro ⟨by omega, by omega⟩ ?_))
    refine Exists.intro (2 + 4 * p (k + 1)) (And.intro (by rw [gP_at (by omega)]; unfold rP; rw [if_neg (by omega)]) ?_)
    refine Exists.intro (k) (And.intro (nI_pred k) (And.intro ⟨by omega, by omega⟩ ?_))
    refine And.intro (pw2_at (hp (k + 1) (by omega))) ?_
    rw [nI_succ (k + 1), ← rP_step (by omega)] at ih
    exact ih
theorem q_put2_0 (N' N2 : NV) : put (pw2 g sz P (nv 10 N)) [2, 3, 4, 5, 10, 11, 12, 13] ((nv 0 N' ++ nv 4 N2).map (rc (rho [2, 3, 4, 5, 10, 11, 12, 13] (pw2 g sz P (nv 10 N)).length))) = pw2 g sz (updN P 0 N') (nv 10 N2) := by
  refine (put_app [2, 3, 4, 5] [10, 11, 12, 13] _ (nv 2 N') (nv 10 N2) rfl).trans ?_
  rw [pw2_p0, pw2_x]
theorem q_take2_0 (N' : NV) : put (pw2 g sz P (nv 10 N)) [10, 11, 12, 13, 2, 3, 4, 5] ((nv 0 N' ++ nv 4 (P 0)).map (rc (rho [10, 11, 12, 13, 2, 3, 4, 5] (pw2 g sz P (nv 10 N)).length))) = pw2 g sz P (nv 10 N') := by
  refine (put_app [10, 11, 12, 13] [2, 3, 4, 5] _ (nv 10 N') (nv 2 (P 0)) rfl).trans ?_
  rw [pw2_x, pw2_p0]
  congr 1
  have e : updN P 0 (P 0) = P := by
    funext i
    unfold updN
    split
    · rename_i h; rw [h]
    · rfl
  rw [e]
theorem q_put2_1 (N' N2 : NV) : put (pw2 g sz P (nv 10 N)) [6, 7, 8, 9, 10, 11, 12, 13] ((nv 0 N' ++ nv 4 N2).map (rc (rho [6, 7, 8, 9, 10, 11, 12, 13] (pw2 g sz P (nv 10 N)).length))) = pw2 g sz (updN P 1 N') (nv 10 N2) := by
  refine (put_app [6, 7, 8, 9] [10, 11, 12, 13] _ (nv 6 N') (nv 10 N2) rfl).trans ?_
  rw [pw2_p1, pw2_x]
theorem q_take2_1 (N' : NV) : put (pw2 g sz P (nv 10 N)) [10, 11, 12, 13, 6, 7, 8, 9] ((nv 0 N' ++ nv 4 (P 1)).map (rc (rho [10, 11, 12, 13, 6, 7, 8, 9] (pw2 g sz P (nv 10 N)).length))) = pw2 g sz P (nv 10 N') := by
  refine (put_app [10, 11, 12, 13] [6, 7, 8, 9] _ (nv 10 N') (nv 6 (P 1)) rfl).trans ?_
  rw [pw2_x, pw2_p1]
  congr 1
  have e : updN P 1 (P 1) = P := by
    funext i
    unfold updN
    split
    · rename_i h; rw [h]
    · rfl
  rw [e]
theorem c_put2 {p' : Nat → Nat} {S' : Nat} (h1 : S' < 2) (h2 : p' S' < 2) (hq : Q none (pw2 (gP 2 2 p') (nI (S' + 1)) (updN P (p' S') N) (nv 10 N))) : wp (0, 0, callok (d + 1)) (mcode 69) (qE 0 0 Q) 11 [some (.ref 0), some (.ref 10)] [] (pw2 (gP 2 2 p') (nI S') P (nv 10 N)) 0 0 := by
  refine gs [] ?_
  refine Exists.intro (S') (And.intro (rfl) (And.intro ⟨by omega, by omega⟩ ?_))
  refine Exists.intro (2 + 4 * p' S') (And.intro (gP_at h1) ?_)
  rw [nI_succ] at hq
  generalize p' S' = j at h2 hq ⊢
  match j, h2 with
  | 0, _ =>
    refine Exists.intro [2, 3, 4, 5, 10, 11, 12, 13] (Exists.intro [.ref 0, .ref 4] (Exists.intro (nv 0 (P 0) ++ nv 4 N) (Exists.intro 0 (Exists.intro 0 (And.intro ⟨rfl, rfl, Nat.le_of_ble_eq_true rfl, rfl, rfl, rfl, ⟨0, _, rfl, rfl⟩⟩ (And.intro (Nat.le_refl _) (And.intro (Nat.le_refl _) ?_)))))))
    refine t_become ?_
    rw [q_put2_0 N N]
    exact fin0 (hq)
  | 1, _ =>
    refine Exists.intro [6, 7, 8, 9, 10, 11, 12, 13] (Exists.intro [.ref 0, .ref 4] (Exists.intro (nv 0 (P 1) ++ nv 4 N) (Exists.intro 0 (Exists.intro 0 (And.intro ⟨rfl, rfl, Nat.le_of_ble_eq_true rfl, rfl, rfl, rfl, ⟨0, _, rfl, rfl⟩⟩ (And.intro (Nat.le_refl _) (And.intro (Nat.le_refl _) ?_)))))))
    refine t_become ?_
    rw [q_put2_1 N N]
    exact fin0 (hq)
  | j + 2, h => omega
theorem q_all2 (g' : Nat → Option Nat) (sz' : Int32) : put (pw2 g sz P (nv 10 N)) [0, 1, 2, 3, 4, 5, 6, 7, 8, 9, 10, 11, 12, 13] ((pw2 g' sz' P (nv 10 N)).map (rc (rho [0, 1, 2, 3, 4, 5, 6, 7, 8, 9, 10, 11, 12, 13] (pw2 g sz P (nv 10 N)).length))) = pw2 (gM [0, 1, 2, 3, 4, 5, 6, 7, 8, 9, 10, 11, 12, 13] 14 g') sz' P (nv 10 N) := by
  have e := put_seg (A := []) (S := pw2 g sz P (nv 10 N)) (B := []) (S' := pw2 (gM [0, 1, 2, 3, 4, 5, 6, 7, 8, 9, 10, 11, 12, 13] 14 g') sz' P (nv 10 N)) (a := 0) (n := 14) rfl rfl rfl
  rw [List.append_nil, List.append_nil, List.nil_append, List.nil_append] at e
  exact e
theorem t_put2 (hp : ∀ i, i < 2 → p i < 2) (hS : S ≤ 2) (hA : S < 2 → Q none (pw2 (gP 2 2 p) (nI (S + 1)) (updN P (p S) N) (nv 10 N))) (hB : ¬ S < 2 → Q none (pw2 (gP 2 2 (rot 2 p)) (nI 2) (updN P (p 0) N) (nv 10 N))) : callok (d + 2) 69 0 0 [.ref 0, .ref 10] (pw2 (gP 2 2 p) (nI S) P (nv 10 N)) Q := by
  have hid : ∀ j, j < 2 → rho [0, 1, 2, 3, 4, 5, 6, 7, 8, 9, 10, 11, 12, 13] 14 (2 + 4 * j) = 2 + 4 * j := by decide +kernel
  have e8 := gP_map (p := p) hid hp
  have e9 := gP_map (p := rot 2 p) hid (rot_lt hp)
  refine beg rfl (gs [11] ?_)
  rw [← e8]
  refine Exists.intro [0, 1, 2, 3, 4, 5, 6, 7, 8, 9, 10, 11, 12, 13] (Exists.intro [.ref 0] (Exists.intro (pw2 (gP 2 2 p) (nI S) P (nv 10 N)) (Exists.intro 0 (Exists.intro 0 (And.intro ⟨rfl, rfl, Nat.le_of_ble_eq_true rfl, rfl, rfl, rfl, ⟨0, _, rfl, rfl⟩⟩ (And.intro (Nat.le_refl _) (And.intro (Nat.le_refl _) ?_)))))))
  refine t_isFull2 (fun c => ?_) (fun c => ?_) hS
  · rw [q_all2]
    refine br_f ((by decide)) ?_
    refine Exists.intro [0, 1, 2, 3, 4, 5, 6, 7, 8, 9, 10, 11, 12, 13] (Exists.intro [.ref 0] (Exists.intro (pw2 (gP 2 2 p) (nI S) P (nv 10 N)) (Exists.intro 0 (Exists.intro 0 (And.intro ⟨rfl, rfl, Nat.le_of_ble_eq_true rfl, rfl, rfl, rfl, ⟨0, _, rfl, rfl⟩⟩ (And.intro (Nat.le_refl _) (And.intro (Nat.le_refl _) ?_)))))))
    refine t_dropOldest2 hp ?_
    rw [q_all2, e9]
    exact c_put2 (by omega) (rot_lt hp 1 (by omega)) (hB c)
  · rw [q_all2, e8]
    refine br_t ((rfl)) ?_
    exact c_put2 c (hp S c) (hA c)
theorem t_takeInto2 (hp : ∀ i, i < 2 → p i < 2) (hS : S ≤ 2) (hT : 0 < S → Q (some (.int 1)) (pw2 (gP 2 2 p) (nI (S - 1)) P (nv 10 (P (p (S - 1)))))) (hF : ¬ 0 < S → Q (some (.int 0)) (pw2 (gP 2 2 p) (nI S) P (nv 10 N))) : callok (d + 2) 70 0 0 [.ref 0, .ref 10] (pw2 (gP 2 2 p) (nI S) P (nv 10 N)) Q := by
  refine beg rfl (gs [] ?_)
  by_cases c : 0 < S
  · refine br_f ((show ¬ nI S < (1 : Int32) from nI_nlt (b := 1) (by omega) (by omega))) ?_
    have es : nI S - 1 = nI (S - 1) := by rw [← nI_pred (S - 1), show S - 1 + 1 = S by omega]
    refine Exists.intro (S - 1) (And.intro (es) (And.intro ⟨by omega, by omega⟩ ?_))
    refine Exists.intro (2 + 4 * p (S - 1)) (And.intro (gP_at (by omega)) ?_)
    have hq := hT c
    have h2 := hp (S - 1) (by omega)
    rw [← es] at hq
    generalize p (S - 1) = j at h2 hq ⊢
    show runS _ _ _ _ _ _ [some (.ref 0), some (.ref 10)] [.ref (2 + 4 * j), .ref 10] (pw2 (gP 2 2 p) (nI S - 1) P (nv 10 N)) _ _
    match j, h2 with
    | 0, _ =>
      refine Exists.intro [10, 11, 12, 13, 2, 3, 4, 5] (Exists.intro [.ref 0, .ref 4] (Exists.intro (nv 0 N ++ nv 4 (P 0)) (Exists.intro 0 (Exists.intro 0 (And.intro ⟨rfl, rfl, Nat.le_of_ble_eq_true rfl, rfl, rfl, rfl, ⟨0, _, rfl, rfl⟩⟩ (And.intro (Nat.le_refl _) (And.intro (Nat.le_refl _) ?_)))))))
      refine t_become ?_
      rw [q_take2_0 (P 0)]
      exact And.intro (Or.inr rfl) (fin0 (hq))
    | 1, _ =>
      refine Exists.intro [10, 11, 12, 13, 6, 7, 8, 9] (Exists.intro [.ref 0, .ref 4] (Exists.intro (nv 0 N ++ nv 4 (P 1)) (Exists.intro 0 (Exists.intro 0 (And.intro ⟨rfl, rfl, Nat.le_of_ble_eq_true rfl, rfl, rfl, rfl, ⟨0, _, rfl, rfl⟩⟩ (And.intro (Nat.le_refl _) (And.intro (Nat.le_refl _) ?_)))))))
      refine t_become ?_
      rw [q_take2_1 (P 1)]
      exact And.intro (Or.inr rfl) (fin0 (hq))
    | j + 2, h => omega
  · refine br_t ((show nI S < (1 : Int32) from nI_lt (b := 1) (by omega) (by omega))) ?_
    exact And.intro (Or.inl rfl) (fin0 (hF c))
end PI2

