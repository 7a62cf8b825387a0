/-! PILES of n nurseries: entry i of the row is the nursery p i -/
def gP (b n : Nat) (p : Nat → Nat) : Nat → Option Nat := fun i => if i < n then some (b + 4 * p i) else none
def updN (P : Nat → NV) (j : Nat) (N : NV) : Nat → NV := fun i => if i = j then N else P i
def rot (n : Nat) (p : Nat → Nat) : Nat → Nat := fun i => if i + 1 < n then p (i + 1) else p 0
def rP (p : Nat → Nat) (k : Nat) : Nat → Nat := fun i => if i < k then p (i + 1) else p i
theorem gP_at {b n : Nat} {p : Nat → Nat} {i : Nat} (h : i < n) : gP b n p i = some (b + 4 * p i) := if_pos h
theorem rP_0 {p : Nat → Nat} : rP p 0 = p := by
  funext i
  unfold rP
  rw [if_neg (by omega)]
theorem rP_step {b n k : Nat} {p : Nat → Nat} (h : k < n) : va_up (gP b n (rP p k)) k (some (b + 4 * p (k + 1))) = gP b n (rP p (k + 1)) := by
  funext i
  unfold va_up gP rP
  by_cases e : i = k
  · subst e
    rw [if_pos rfl, if_pos h, if_pos (by omega)]
  · rw [if_neg e]
    by_cases c : i < n
    · rw [if_pos c, if_pos c]
      by_cases q : i < k
      · rw [if_pos q, if_pos (by omega)]
      · rw [if_neg q, if_neg (by omega)]
    · rw [if_neg c, if_neg c]
theorem rP_end {b n : Nat} {p : Nat → Nat} (h : 0 < n) : va_up (gP b n (rP p (n - 1))) (n - 1) (some (b + 4 * p 0)) = gP b n (rot n p) := by
  funext i
  unfold va_up gP rP rot
  by_cases e : i = n - 1
  · subst e
    rw [if_pos rfl, if_pos (by omega), if_neg (by omega)]
  · rw [if_neg e]
    by_cases c : i < n
    · rw [if_pos c, if_pos c, if_pos (by omega), if_pos (by omega)]
    · rw [if_neg c, if_neg c]
abbrev gM (is : List Nat) (n : Nat) (g : Nat → Option Nat) : Nat → Option Nat := fun i => (g i).map (rho is n)
theorem gP_map {is : List Nat} {n b b' m : Nat} {p : Nat → Nat} (h : ∀ j, j < m → rho is n (b + 4 * j) = b' + 4 * j) (hp : ∀ i, i < m → p i < m) : gM is n (gP b m p) = gP b' m p := by
  funext i
  unfold gM gP
  by_cases c : i < m
  · rw [if_pos c, if_pos c, Option.map_some, h (p i) (hp i c)]
  · rw [if_neg c, if_neg c]
    rfl
theorem rot_lt {n : Nat} {p : Nat → Nat} (hp : ∀ i, i < n → p i < n) : ∀ i, i < n → rot n p i < n := by
  intro i hi
  unfold rot
  split
  · exact hp _ (by omega)
  · exact hp _ (by omega)
abbrev pw2 (g : Nat → Option Nat) (sz : Int32) (P : Nat → NV) : List aC := ao 4 [.ref 1, .int sz] :: aq 2 g :: (nv 2 (P 0) ++ nv 6 (P 1))
theorem pw2_at {g : Nat → Option Nat} {sz : Int32} {P : Nat → NV} {N : List aC} {j : Nat} (h : j < 2) : ∃ fs, (pw2 g sz P ++ N)[2 + 4 * j]? = some (ao 2 fs) := by
  match j, h with
  | 0, _ => exact ⟨_, rfl⟩
  | 1, _ => exact ⟨_, rfl⟩
  | j + 2, h => omega
section PI2
variable {d : Nat} {g : Nat → Option Nat} {sz : Int32} {P : Nat → NV} {N : NV} {p : Nat → Nat} {S : Nat} {Q : Option Value → List aC → Prop}
theorem t_pclear2 (hQ : Q none (pw2 g 0 P)) : callok (d + 1) 66 0 0 [.ref 0] (pw2 g sz P) Q := by
  refine beg rfl (gs [] ?_)
  exact fin0 (hQ)
theorem t_psize2 (hQ : Q (some (.int sz)) (pw2 g sz P)) : callok (d + 1) 67 0 0 [.ref 0] (pw2 g sz P) Q := by
  refine beg rfl (gs [] ?_)
  exact fin0 (hQ)
theorem t_isFull2 (hT : ¬ S < 2 → Q (some (.int 1)) (pw2 g (nI S) P)) (hF : S < 2 → Q (some (.int 0)) (pw2 g (nI S) P)) (hS : S ≤ 2) : callok (d + 1) 68 0 0 [.ref 0] (pw2 g (nI S) P) Q := by
  refine beg rfl (gs [] ?_)
  by_cases c : S < 2
  · refine br_t ((show nI S < nI 2 from nI_lt c (by omega))) ?_
    exact And.intro (Or.inl rfl) (fin0 (hF c))
  · refine br_f ((show ¬ nI S < nI 2 from nI_nlt (by omega) (by omega))) ?_
    exact And.intro (Or.inr rfl) (fin0 (hT c))
theorem t_dropOldest2 (hp : ∀ i, i < 2 → p i < 2) (hQ : Q none (pw2 (gP 2 2 (rot 2 p)) (nI 1) P)) : callok (d + 1) 71 0 0 [.ref 0] (pw2 (gP 2 2 p) sz P) Q := by
  refine beg rfl (gs [9] ?_)
  refine Exists.intro (0) (And.intro (rfl) (And.intro ⟨by omega, by omega⟩ ?_))
  refine Exists.intro (2 + 4 * p 0) (And.intro (gP_at (by omega)) ?_)
  have key := up (W := fun k => wp (0, 0, callok d) (mcode 71) (qE 0 0 Q) 9 [some (.ref 0), some (.ref (2 + 4 * p 0)), some (.int (nI (k + 1)))] [] (pw2 (gP 2 2 (rP p k)) sz P) 0 0) 1 ?_ ?_
  · rw [rP_0] at key
    exact key
  · refine gs [9] ?_
    refine br_f ((show ¬ nI 2 < nI 2 by decide)) ?_
    refine Exists.intro (1) (And.intro (rfl) (And.intro ⟨by omega, by omega⟩ ?_))
    refine And.intro (by have := pw2_at (g := gP 2 2 (rP p 1)) (sz := sz) (P := P) (N := []) (hp 0 (by omega)); rw [List.append_nil] at this; exact this) ?_
    have e := rP_end (b := 2) (n := 2) (p := p) (by omega)
    rw [← e] at hQ
    exact fin0 (hQ)
  · intro k hk ih
    refine gs [9] ?_
    refine br_t ((show nI (k + 1) < nI 2 from nI_lt (by omega) (by omega))) ?_
    refine Exists.intro (k + 1) (And.intro (rfl) (And.intro ⟨by omega, by omega⟩ ?_))
    refine Exists.intro (2 + 4 * p (k + 1)) (And.intro (by rw [gP_at (by omega)]; unfold rP; rw [if_neg (by omega)]) ?_)
    refine Exists.intro (k) (And.intro (nI_pred k) (And.intro ⟨by omega, by omega⟩ ?_))
    refine And.intro (by have := pw2_at (g := gP 2 2 (rP p k)) (sz := sz) (P := P) (N := []) (hp (k + 1) (by omega)); rw [List.append_nil] at this; exact this) ?_
    rw [nI_succ (k + 1), ← rP_step (by omega)] at ih
    exact ih
set_option maxHeartbeats 3000000 in
theorem c_put2 {p' : Nat → Nat} {S' : Nat} (h1 : S' < 2) (h2 : p' S' < 2) (hq : Q none (pw2 (gP 2 2 p') (nI (S' + 1)) (updN P (p' S') N) ++ nv 10 N)) : wp (0, 0, callok (d + 1)) (mcode 69) (qE 0 0 Q) 11 [some (.ref 0), some (.ref 10)] [] (pw2 (gP 2 2 p') (nI S') P ++ nv 10 N) 0 0 := by
  refine gs [] ?_
  refine Exists.intro (S') (And.intro (rfl) (And.intro ⟨by omega, by omega⟩ ?_))
  refine Exists.intro (2 + 4 * p' S') (And.intro (gP_at h1) ?_)
  rw [nI_succ] at hq
  generalize p' S' = j at h2 hq ⊢
  match j, h2 with
  | 0, _ =>
    refine Exists.intro [2, 3, 4, 5, 10, 11, 12, 13] (Exists.intro [.ref 0, .ref 4] (Exists.intro (nv 0 (P 0) ++ nv 4 N) (Exists.intro 0 (Exists.intro 0 (And.intro ⟨rfl, rfl, Nat.le_of_ble_eq_true rfl, rfl, rfl, rfl, ⟨0, _, rfl, rfl⟩⟩ (And.intro (Nat.le_refl _) (And.intro (Nat.le_refl _) ?_)))))))
    refine t_become ?_
    show runS _ _ _ _ _ _ [some (.ref 0), some (.ref 10)] [] (pw2 (gP 2 2 p') (nI S') (updN P 0 N) ++ nv 10 N) _ _
    exact fin0 (hq)
  | 1, _ =>
    refine Exists.intro [6, 7, 8, 9, 10, 11, 12, 13] (Exists.intro [.ref 0, .ref 4] (Exists.intro (nv 0 (P 1) ++ nv 4 N) (Exists.intro 0 (Exists.intro 0 (And.intro ⟨rfl, rfl, Nat.le_of_ble_eq_true rfl, rfl, rfl, rfl, ⟨0, _, rfl, rfl⟩⟩ (And.intro (Nat.le_refl _) (And.intro (Nat.le_refl _) ?_)))))))
    refine t_become ?_
    show runS _ _ _ _ _ _ [some (.ref 0), some (.ref 10)] [] (pw2 (gP 2 2 p') (nI S') (updN P 1 N) ++ nv 10 N) _ _
    exact fin0 (hq)
  | j + 2, h => omega
theorem t_put2 (hp : ∀ i, i < 2 → p i < 2) (hS : S ≤ 2) (hA : S < 2 → Q none (pw2 (gP 2 2 p) (nI (S + 1)) (updN P (p S) N) ++ nv 10 N)) (hB : ¬ S < 2 → Q none (pw2 (gP 2 2 (rot 2 p)) (nI 2) (updN P (p 0) N) ++ nv 10 N)) : callok (d + 2) 69 0 0 [.ref 0, .ref 10] (pw2 (gP 2 2 p) (nI S) P ++ nv 10 N) Q := by
  have hid : ∀ j, j < 2 → rho [0, 1, 2, 3, 4, 5, 6, 7, 8, 9] 14 (2 + 4 * j) = 2 + 4 * j := by decide +kernel
  have e8 := gP_map (p := p) hid hp
  have e9 := gP_map (p := rot 2 p) hid (rot_lt hp)
  refine beg rfl (gs [11] ?_)
  rw [← e8]
  refine Exists.intro [0, 1, 2, 3, 4, 5, 6, 7, 8, 9] (Exists.intro [.ref 0] (Exists.intro (pw2 (gP 2 2 p) (nI S) P) (Exists.intro 0 (Exists.intro 0 (And.intro ⟨rfl, rfl, Nat.le_of_ble_eq_true rfl, rfl, rfl, rfl, ⟨0, _, rfl, rfl⟩⟩ (And.intro (Nat.le_refl _) (And.intro (Nat.le_refl _) ?_)))))))
  refine t_isFull2 (fun c => ?_) (fun c => ?_) hS
  · show runS _ _ _ _ _ _ [some (.ref 0), some (.ref 10)] [.int 1] (pw2 (gM [0, 1, 2, 3, 4, 5, 6, 7, 8, 9] 14 (gP 2 2 p)) (nI S) P ++ nv 10 N) _ _
    refine br_f ((by decide)) ?_
    refine Exists.intro [0, 1, 2, 3, 4, 5, 6, 7, 8, 9] (Exists.intro [.ref 0] (Exists.intro (pw2 (gP 2 2 p) (nI S) P) (Exists.intro 0 (Exists.intro 0 (And.intro ⟨rfl, rfl, Nat.le_of_ble_eq_true rfl, rfl, rfl, rfl, ⟨0, _, rfl, rfl⟩⟩ (And.intro (Nat.le_refl _) (And.intro (Nat.le_refl _) ?_)))))))
    refine t_dropOldest2 hp ?_
    show wp _ _ _ _ [some (.ref 0), some (.ref 10)] [] (pw2 (gM [0, 1, 2, 3, 4, 5, 6, 7, 8, 9] 14 (gP 2 2 (rot 2 p))) (nI 1) P ++ nv 10 N) _ _
    rw [e9]
    refine c_put2 (by omega) (rot_lt hp 1 (by omega)) ?_
    exact hB c
  · show runS _ _ _ _ _ _ [some (.ref 0), some (.ref 10)] [.int 0] (pw2 (gM [0, 1, 2, 3, 4, 5, 6, 7, 8, 9] 14 (gP 2 2 p)) (nI S) P ++ nv 10 N) _ _
    refine br_t ((rfl)) ?_
    show wp _ _ _ _ [some (.ref 0), some (.ref 10)] [] (pw2 (gM [0, 1, 2, 3, 4, 5, 6, 7, 8, 9] 14 (gP 2 2 p)) (nI S) P ++ nv 10 N) _ _
    rw [e8]
    exact c_put2 c (hp S c) (hA c)
set_option maxHeartbeats 3000000 in
theorem t_takeInto2 (hp : ∀ i, i < 2 → p i < 2) (hS : S ≤ 2) (hT : 0 < S → Q (some (.int 1)) (pw2 (gP 2 2 p) (nI (S - 1)) P ++ nv 10 (P (p (S - 1))))) (hF : ¬ 0 < S → Q (some (.int 0)) (pw2 (gP 2 2 p) (nI S) P ++ nv 10 N)) : callok (d + 2) 70 0 0 [.ref 0, .ref 10] (pw2 (gP 2 2 p) (nI S) P ++ nv 10 N) Q := by
  refine beg rfl (gs [] ?_)
  by_cases c : 0 < S
  · refine br_f ((show ¬ nI S < (1 : Int32) from nI_nlt (b := 1) (by omega) (by omega))) ?_
    have es : nI S - 1 = nI (S - 1) := by rw [← nI_pred (S - 1), show S - 1 + 1 = S by omega]
    refine Exists.intro (S - 1) (And.intro (es) (And.intro ⟨by omega, by omega⟩ ?_))
    refine Exists.intro (2 + 4 * p (S - 1)) (And.intro (gP_at (by omega)) ?_)
    have hq := hT c
    have h2 := hp (S - 1) (by omega)
    rw [← es] at hq
    generalize p (S - 1) = j at h2 hq ⊢
    match j, h2 with
    | 0, _ =>
      refine Exists.intro [10, 11, 12, 13, 2, 3, 4, 5] (Exists.intro [.ref 0, .ref 4] (Exists.intro (nv 0 N ++ nv 4 (P 0)) (Exists.intro 0 (Exists.intro 0 (And.intro ⟨rfl, rfl, Nat.le_of_ble_eq_true rfl, rfl, rfl, rfl, ⟨0, _, rfl, rfl⟩⟩ (And.intro (Nat.le_refl _) (And.intro (Nat.le_refl _) ?_)))))))
      refine t_become ?_
      show runS _ _ _ _ _ _ [some (.ref 0), some (.ref 10)] [] (pw2 (gP 2 2 p) (nI S - 1) P ++ nv 10 (P 0)) _ _
      exact And.intro (Or.inr rfl) (fin0 (hq))
    | 1, _ =>
      refine Exists.intro [10, 11, 12, 13, 6, 7, 8, 9] (Exists.intro [.ref 0, .ref 4] (Exists.intro (nv 0 N ++ nv 4 (P 1)) (Exists.intro 0 (Exists.intro 0 (And.intro ⟨rfl, rfl, Nat.le_of_ble_eq_true rfl, rfl, rfl, rfl, ⟨0, _, rfl, rfl⟩⟩ (And.intro (Nat.le_refl _) (And.intro (Nat.le_refl _) ?_)))))))
      refine t_become ?_
      show runS _ _ _ _ _ _ [some (.ref 0), some (.ref 10)] [] (pw2 (gP 2 2 p) (nI S - 1) P ++ nv 10 (P 1)) _ _
      exact And.intro (Or.inr rfl) (fin0 (hq))
    | j + 2, h => omega
  · refine br_t ((show nI S < (1 : Int32) from nI_lt (b := 1) (by omega) (by omega))) ?_
    exact And.intro (Or.inl rfl) (fin0 (hF c))
end PI2

