/-! THE CLASS'S CONSTRUCTOR -/
theorem p_new {h : List aC} {c0 : aC} {ws : List aC} (hw : ws ≠ []) : put (h ++ [c0]) [h.length] (ws.map (rc (rho [h.length] (h ++ [c0]).length))) = h ++ ws.map (rc (fun j => h.length + j)) := by
  have er : rho [h.length] (h ++ [c0]).length = fun j => h.length + j := by
    funext j
    cases j with
    | zero => rfl
    | succ j =>
      show (h ++ [c0]).length + (j + 1 - 1) = h.length + (j + 1)
      rw [List.length_append]
      simp
      omega
  rw [er]
  cases ws with
  | nil => exact absurd rfl hw
  | cons c cs =>
    rw [List.map_cons, put, put, List.set_append_right _ _ (Nat.le_refl _), Nat.sub_self]
    show (h ++ [rc (fun j => h.length + j) c]) ++ cs.map (rc (fun j => h.length + j)) = _
    rw [List.append_assoc]
    rfl
abbrev shW (n : Nat) (ws : List aC) : List aC := ws.map (rc (fun j => n + j))
theorem gs79 {mc ms d : Nat} {Q : aR} (S : List Nat) {pc : Nat} {lo : List (Option Value)} {st : List Value} {h : List aC} {c s : Nat} (w : runS (mc, ms, callok d) k_79 Q S 400 pc lo st h c s) : wp (mc, ms, callok d) k_79 Q pc lo st h c s := runS_wp m_79 (monoC d) 400 pc lo st h c s w
section I79
variable {d c s n : Nat} {Q : aR} {r : List aC} {f0 f1 f2 f3 f4 f5 f6 f7 : Value} {lo : List (Option Value)}
theorem i79_0 (hn : r.length + 1 = n) (hc : c + 1 + 1 ≤ 71) (hs : s + 2 + 200 ≤ 936) (w : wp (71, 936, callok (d + 2)) k_79 Q 15 (some (.ref 0) :: lo) [] (ao 6 [.ref n, f1, f2, f3, f4, f5, f6, f7] :: (r ++ shW n (lw (fun _ => 0) 0))) (c + 1 + 1) (s + 2 + 200)) : wp (71, 936, callok (d + 2)) k_79 Q 4 (some (.ref 0) :: lo) [] (ao 6 [f0, f1, f2, f3, f4, f5, f6, f7] :: r) c s := by
  subst hn
  refine gs79 [15] ?_
  refine And.intro (by show c + 1 ≤ 71; omega) (And.intro (by show s + 2 ≤ 936; omega) ?_)
  refine Exists.intro [(ao 6 [f0, f1, f2, f3, f4, f5, f6, f7] :: r).length] (Exists.intro [.ref 0] (Exists.intro [ao 1 [.null, .int 0]] (Exists.intro 1 (Exists.intro 200 (And.intro ⟨rfl, rfl, (Nat.le_of_ble_eq_true rfl), rfl, by simp, by simp [rc, rv], ⟨0, rfl⟩⟩ (And.intro (by show c + 1 + 1 ≤ 71; omega) (And.intro (by show s + 2 + 200 ≤ 936; omega) ?_)))))))
  refine n_letters ?_
  rw [p_new (h := (ao 6 [f0, f1, f2, f3, f4, f5, f6, f7] :: r)) (ws := (lw (fun _ => 0) 0)) (by simp)]
  exact w
theorem i79_1 (hn : r.length + 1 = n) (hc : c + 1 + 3 ≤ 71) (hs : s + 7 + 41 ≤ 936) (w : wp (71, 936, callok (d + 2)) k_79 Q 26 (some (.ref 0) :: lo) [] (ao 6 [f0, .ref n, f2, f3, f4, f5, f6, f7] :: (r ++ shW n (nv 0 ZN))) (c + 1 + 3) (s + 7 + 41)) : wp (71, 936, callok (d + 2)) k_79 Q 15 (some (.ref 0) :: lo) [] (ao 6 [f0, f1, f2, f3, f4, f5, f6, f7] :: r) c s := by
  subst hn
  refine gs79 [26] ?_
  refine And.intro (by show c + 1 ≤ 71; omega) (And.intro (by show s + 7 ≤ 936; omega) ?_)
  refine Exists.intro [(ao 6 [f0, f1, f2, f3, f4, f5, f6, f7] :: r).length] (Exists.intro [.ref 0] (Exists.intro [ao 2 [.null, .null, .null, .int 0, .int 0, .int 0, .int 0]] (Exists.intro 3 (Exists.intro 41 (And.intro ⟨rfl, rfl, (Nat.le_of_ble_eq_true rfl), rfl, by simp, by simp [rc, rv], ⟨0, rfl⟩⟩ (And.intro (by show c + 1 + 3 ≤ 71; omega) (And.intro (by show s + 7 + 41 ≤ 936; omega) ?_)))))))
  refine n_nursery ?_
  rw [p_new (h := (ao 6 [f0, f1, f2, f3, f4, f5, f6, f7] :: r)) (ws := (nv 0 ZN)) (by simp)]
  exact w
theorem i79_2 (hn : r.length + 1 = n) (hc : c + 1 + 3 ≤ 71) (hs : s + 7 + 41 ≤ 936) (w : wp (71, 936, callok (d + 2)) k_79 Q 37 (some (.ref 0) :: lo) [] (ao 6 [f0, f1, .ref n, f3, f4, f5, f6, f7] :: (r ++ shW n (nv 0 ZN))) (c + 1 + 3) (s + 7 + 41)) : wp (71, 936, callok (d + 2)) k_79 Q 26 (some (.ref 0) :: lo) [] (ao 6 [f0, f1, f2, f3, f4, f5, f6, f7] :: r) c s := by
  subst hn
  refine gs79 [37] ?_
  refine And.intro (by show c + 1 ≤ 71; omega) (And.intro (by show s + 7 ≤ 936; omega) ?_)
  refine Exists.intro [(ao 6 [f0, f1, f2, f3, f4, f5, f6, f7] :: r).length] (Exists.intro [.ref 0] (Exists.intro [ao 2 [.null, .null, .null, .int 0, .int 0, .int 0, .int 0]] (Exists.intro 3 (Exists.intro 41 (And.intro ⟨rfl, rfl, (Nat.le_of_ble_eq_true rfl), rfl, by simp, by simp [rc, rv], ⟨0, rfl⟩⟩ (And.intro (by show c + 1 + 3 ≤ 71; omega) (And.intro (by show s + 7 + 41 ≤ 936; omega) ?_)))))))
  refine n_nursery ?_
  rw [p_new (h := (ao 6 [f0, f1, f2, f3, f4, f5, f6, f7] :: r)) (ws := (nv 0 ZN)) (by simp)]
  exact w
theorem i79_3 (hn : r.length + 1 = n) (hc : c + 1 + 33 ≤ 71) (hs : s + 2 + 392 ≤ 936) (w : wp (71, 936, callok (d + 2)) k_79 Q 50 (some (.ref 0) :: lo) [] (ao 6 [f0, f1, f2, .ref n, f4, f5, f6, f7] :: (r ++ shW n (pw8 (gP 2 8 (fun i => i)) 0 (fun _ => ZN) []))) (c + 1 + 33) (s + 2 + 392)) : wp (71, 936, callok (d + 2)) k_79 Q 37 (some (.ref 0) :: lo) [] (ao 6 [f0, f1, f2, f3, f4, f5, f6, f7] :: r) c s := by
  subst hn
  refine gs79 [50] ?_
  refine And.intro (by show c + 1 ≤ 71; omega) (And.intro (by show s + 2 ≤ 936; omega) ?_)
  refine Exists.intro [(ao 6 [f0, f1, f2, f3, f4, f5, f6, f7] :: r).length] (Exists.intro [.ref 0, .int 8] (Exists.intro [ao 4 [.null, .int 0]] (Exists.intro 33 (Exists.intro 392 (And.intro ⟨rfl, rfl, (Nat.le_of_ble_eq_true rfl), rfl, by simp, by simp [rc, rv], ⟨0, rfl⟩⟩ (And.intro (by show c + 1 + 33 ≤ 71; omega) (And.intro (by show s + 2 + 392 ≤ 936; omega) ?_)))))))
  refine n_pile8 ?_
  rw [p_new (h := (ao 6 [f0, f1, f2, f3, f4, f5, f6, f7] :: r)) (ws := (pw8 (gP 2 8 (fun i => i)) 0 (fun _ => ZN) [])) (by simp)]
  exact w
theorem i79_4 (hn : r.length + 1 = n) (hc : c + 1 + 9 ≤ 71) (hs : s + 2 + 98 ≤ 936) (w : wp (71, 936, callok (d + 2)) k_79 Q 62 (some (.ref 0) :: lo) [] (ao 6 [f0, f1, f2, f3, .ref n, f5, f6, f7] :: (r ++ shW n (pw2 (gP 2 2 (fun i => i)) 0 (fun _ => ZN) []))) (c + 1 + 9) (s + 2 + 98)) : wp (71, 936, callok (d + 2)) k_79 Q 50 (some (.ref 0) :: lo) [] (ao 6 [f0, f1, f2, f3, f4, f5, f6, f7] :: r) c s := by
  subst hn
  refine gs79 [62] ?_
  refine And.intro (by show c + 1 ≤ 71; omega) (And.intro (by show s + 2 ≤ 936; omega) ?_)
  refine Exists.intro [(ao 6 [f0, f1, f2, f3, f4, f5, f6, f7] :: r).length] (Exists.intro [.ref 0, .int 2] (Exists.intro [ao 4 [.null, .int 0]] (Exists.intro 9 (Exists.intro 98 (And.intro ⟨rfl, rfl, (Nat.le_of_ble_eq_true rfl), rfl, by simp, by simp [rc, rv], ⟨0, rfl⟩⟩ (And.intro (by show c + 1 + 9 ≤ 71; omega) (And.intro (by show s + 2 + 98 ≤ 936; omega) ?_)))))))
  refine n_pile2 ?_
  rw [p_new (h := (ao 6 [f0, f1, f2, f3, f4, f5, f6, f7] :: r)) (ws := (pw2 (gP 2 2 (fun i => i)) 0 (fun _ => ZN) [])) (by simp)]
  exact w
theorem i79_5 (hn : r.length + 1 = n) (hc : c + 1 + 4 ≤ 71) (hs : s + 5 + 24 ≤ 936) (w : wp (71, 936, callok (d + 2)) k_79 Q 73 (some (.ref 0) :: lo) [] (ao 6 [f0, f1, f2, f3, f4, .ref n, f6, f7] :: (r ++ shW n (sw (fun _ => 0) (fun _ => 0) (fun _ => 0) (fun _ => 0) 0))) (c + 1 + 4) (s + 5 + 24)) : wp (71, 936, callok (d + 2)) k_79 Q 62 (some (.ref 0) :: lo) [] (ao 6 [f0, f1, f2, f3, f4, f5, f6, f7] :: r) c s := by
  subst hn
  refine gs79 [73] ?_
  refine And.intro (by show c + 1 ≤ 71; omega) (And.intro (by show s + 5 ≤ 936; omega) ?_)
  refine Exists.intro [(ao 6 [f0, f1, f2, f3, f4, f5, f6, f7] :: r).length] (Exists.intro [.ref 0] (Exists.intro [ao 5 [.null, .null, .null, .null, .int 0]] (Exists.intro 4 (Exists.intro 24 (And.intro ⟨rfl, rfl, (Nat.le_of_ble_eq_true rfl), rfl, by simp, by simp [rc, rv], ⟨0, rfl⟩⟩ (And.intro (by show c + 1 + 4 ≤ 71; omega) (And.intro (by show s + 5 + 24 ≤ 936; omega) ?_)))))))
  refine n_sight ?_
  rw [p_new (h := (ao 6 [f0, f1, f2, f3, f4, f5, f6, f7] :: r)) (ws := (sw (fun _ => 0) (fun _ => 0) (fun _ => 0) (fun _ => 0) 0)) (by simp)]
  exact w
theorem i79_6 (hn : r.length + 1 = n) (hc : c + 1 + 6 ≤ 71) (hs : s + 3 + 63 ≤ 936) (w : wp (71, 936, callok (d + 2)) k_79 Q 84 (some (.ref 0) :: lo) [] (ao 6 [f0, f1, f2, f3, f4, f5, .ref n, f7] :: (r ++ shW n (ao 3 [.ref 1, .ref 5, .ref 6] :: (nv 1 ZN ++ [ai 10 (fun _ => 0), ai 5 (fun _ => 0)])))) (c + 1 + 6) (s + 3 + 63)) : wp (71, 936, callok (d + 2)) k_79 Q 73 (some (.ref 0) :: lo) [] (ao 6 [f0, f1, f2, f3, f4, f5, f6, f7] :: r) c s := by
  subst hn
  refine gs79 [84] ?_
  refine And.intro (by show c + 1 ≤ 71; omega) (And.intro (by show s + 3 ≤ 936; omega) ?_)
  refine Exists.intro [(ao 6 [f0, f1, f2, f3, f4, f5, f6, f7] :: r).length] (Exists.intro [.ref 0] (Exists.intro [ao 3 [.null, .null, .null]] (Exists.intro 6 (Exists.intro 63 (And.intro ⟨rfl, rfl, (Nat.le_of_ble_eq_true rfl), rfl, by simp, by simp [rc, rv], ⟨0, rfl⟩⟩ (And.intro (by show c + 1 + 6 ≤ 71; omega) (And.intro (by show s + 3 + 63 ≤ 936; omega) ?_)))))))
  refine n_outlook ?_
  rw [p_new (h := (ao 6 [f0, f1, f2, f3, f4, f5, f6, f7] :: r)) (ws := (ao 3 [.ref 1, .ref 5, .ref 6] :: (nv 1 ZN ++ [ai 10 (fun _ => 0), ai 5 (fun _ => 0)]))) (by simp)]
  exact w
theorem i79_7 (hn : r.length + 1 = n) (hc : c + 1 + 4 ≤ 71) (hs : s + 1 + 48 ≤ 936) (w : wp (71, 936, callok (d + 2)) k_79 Q 95 (some (.ref 0) :: lo) [] (ao 6 [f0, f1, f2, f3, f4, f5, f6, .ref n] :: (r ++ shW n (ao 0 [.ref 1] :: nv 1 ZN))) (c + 1 + 4) (s + 1 + 48)) : wp (71, 936, callok (d + 2)) k_79 Q 84 (some (.ref 0) :: lo) [] (ao 6 [f0, f1, f2, f3, f4, f5, f6, f7] :: r) c s := by
  subst hn
  refine gs79 [95] ?_
  refine And.intro (by show c + 1 ≤ 71; omega) (And.intro (by show s + 1 ≤ 936; omega) ?_)
  refine Exists.intro [(ao 6 [f0, f1, f2, f3, f4, f5, f6, f7] :: r).length] (Exists.intro [.ref 0] (Exists.intro [ao 0 [.null]] (Exists.intro 4 (Exists.intro 48 (And.intro ⟨rfl, rfl, (Nat.le_of_ble_eq_true rfl), rfl, by simp, by simp [rc, rv], ⟨0, rfl⟩⟩ (And.intro (by show c + 1 + 4 ≤ 71; omega) (And.intro (by show s + 1 + 48 ≤ 936; omega) ?_)))))))
  refine n_chances ?_
  rw [p_new (h := (ao 6 [f0, f1, f2, f3, f4, f5, f6, f7] :: r)) (ws := (ao 0 [.ref 1] :: nv 1 ZN)) (by simp)]
  exact w
end I79
theorem as79 (a : aC) (s1 s2 s3 s4 s5 s6 s7 s8 : List aC) : a :: (((((((([] ++ s1) ++ s2) ++ s3) ++ s4) ++ s5) ++ s6) ++ s7) ++ s8) = [a] ++ (s1 ++ (s2 ++ (s3 ++ (s4 ++ (s5 ++ (s6 ++ (s7 ++ s8))))))) := by simp only [List.nil_append, List.append_assoc, List.singleton_append]
theorem sh_g {b m n : Nat} : (fun i => (gP b m (fun i => i) i).map (fun j => n + j)) = gP (n + b) m (fun i => i) := by
  funext i
  unfold gP
  by_cases h : i < m
  · rw [if_pos h, if_pos h]
    show some (n + (b + 4 * i)) = some (n + b + 4 * i)
    rw [Nat.add_assoc]
  · rw [if_neg h, if_neg h]
    rfl
theorem sh_p8 : shW 11 (pw8 (gP 2 8 (fun i => i)) 0 (fun _ => ZN) []) = pB8 11 (gP 13 8 (fun i => i)) 0 (fun _ => ZN) := by
  have e := sh_g (b := 2) (m := 8) (n := 11)
  show [ao 4 [.ref 12, .int 0], aq 8 (fun i => (gP 2 8 (fun i => i) i).map (fun j => 11 + j))] ++ _ = _
  rw [e]
  rfl
theorem sh_p2 : shW 45 (pw2 (gP 2 2 (fun i => i)) 0 (fun _ => ZN) []) = pB2 45 (gP 47 2 (fun i => i)) 0 (fun _ => ZN) := by
  have e := sh_g (b := 2) (m := 2) (n := 45)
  show [ao 4 [.ref 46, .int 0], aq 2 (fun i => (gP 2 2 (fun i => i) i).map (fun j => 45 + j))] ++ _ = _
  rw [e]
  rfl
abbrev x0W (tx : Nat → Int32) (len : Int32) (N : NV) : List aC := xw tx len N ZN (gP 13 8 (fun i => i)) 0 (fun _ => ZN) (gP 47 2 (fun i => i)) 0 (fun _ => ZN) (fun _ => 0) (fun _ => 0) (fun _ => 0) (fun _ => 0) 0 ZN (fun _ => 0) (fun _ => 0) ZN
theorem w79 : ao 6 [.ref 1, .ref 3, .ref 7, .ref 11, .ref 45, .ref 55, .ref 60, .ref 67] :: (((((((([] ++ shW 1 (lw (fun _ => 0) 0)) ++ shW 3 (nv 0 ZN)) ++ shW 7 (nv 0 ZN)) ++ shW 11 (pw8 (gP 2 8 (fun i => i)) 0 (fun _ => ZN) [])) ++ shW 45 (pw2 (gP 2 2 (fun i => i)) 0 (fun _ => ZN) [])) ++ shW 55 (sw (fun _ => 0) (fun _ => 0) (fun _ => 0) (fun _ => 0) 0)) ++ shW 60 (ao 3 [.ref 1, .ref 5, .ref 6] :: (nv 1 ZN ++ [ai 10 (fun _ => 0), ai 5 (fun _ => 0)]))) ++ shW 67 (ao 0 [.ref 1] :: nv 1 ZN)) = x0W (fun _ => 0) 0 ZN := by
  refine (as79 _ _ _ _ _ _ _ _ _).trans ?_
  rw [sh_p8, sh_p2]
  rfl
/-- the text's letters so far -/
def txF : Nat → Nat → Int32
  | 0 => (fun _ => 0)
  | k + 1 => upd (txF k) k (fbC k)
abbrev G0 : Int32 × PS := rdG (txF 53) 53 200 0 ((fun _ => 0), (fun _ => 0), fun _ => 10, 0, 0, 0)
abbrev N0 : NV := (G0.2.1, G0.2.2.1, G0.2.2.2.1, nI G0.2.2.2.2.1, nI G0.2.2.2.2.2.1, nI G0.2.2.2.2.2.2, 0)
section J79
variable {d : Nat} {Q : Option Value → List aC → Prop}
theorem t79 (hQ : Q none (x0W (txF 53) 0 N0)) : wp (71, 936, callok (d + 6)) k_79 (qE 71 936 Q) 95 [some (.ref 0), none] [] (x0W (fun _ => 0) 0 ZN) 71 936 := by
  refine gs79 [97] ?_
  refine up (W := fun k => wp (71, 936, callok (d + 6)) k_79 (qE 71 936 Q) 97 [some (.ref 0), some (.int (nI k))] [] (x0W (txF k) (nI k) ZN) 71 936) 53 ?_ ?_
  · refine gs79 [97] ?_
    refine And.intro ⟨rfl, (Nat.le_of_ble_eq_true rfl), (Nat.le_of_ble_eq_true rfl), (Nat.le_of_ble_eq_true rfl)⟩ ?_
    refine br_f (by decide) ?_
    refine Exists.intro [1, 2, 3, 4, 5, 6] (Exists.intro [.ref 0, .ref 2] (Exists.intro (lw (txF 53) (nI 53) ++ nv 2 ZN) (Exists.intro 0 (Exists.intro 0 (And.intro ⟨rfl, rfl, (Nat.le_of_ble_eq_true rfl), rfl, rfl, rfl, ⟨0, _, rfl, rfl⟩⟩ (And.intro (Nat.le_of_ble_eq_true rfl) (And.intro (Nat.le_of_ble_eq_true rfl) ?_)))))))
    refine t_readInto (by omega) ?_
    rw [p_txnw (txF 53) (nI 53) N0]
    refine Exists.intro [1, 2] (Exists.intro [.ref 0] (Exists.intro (lw (txF 53) (nI 53)) (Exists.intro 0 (Exists.intro 0 (And.intro ⟨rfl, rfl, (Nat.le_of_ble_eq_true rfl), rfl, rfl, rfl, ⟨0, _, rfl, rfl⟩⟩ (And.intro (Nat.le_of_ble_eq_true rfl) (And.intro (Nat.le_of_ble_eq_true rfl) ?_)))))))
    refine t_lclear ?_
    rw [p_tx (txF 53) 0]
    exact ⟨rfl, (Nat.le_of_ble_eq_true rfl), _, hE_rf _, hQ⟩
  · intro k hk ih
    refine gs79 [97] ?_
    refine And.intro ⟨rfl, (Nat.le_of_ble_eq_true rfl), (Nat.le_of_ble_eq_true rfl), (Nat.le_of_ble_eq_true rfl)⟩ ?_
    refine br_t (show nI k < 53 from nI_lt (b := 53) hk (by omega)) ?_
    refine Exists.intro k (And.intro rfl (And.intro ⟨rfl, hk, (Nat.le_of_ble_eq_true rfl), (Nat.le_of_ble_eq_true rfl), (Nat.le_of_ble_eq_true rfl)⟩ ?_))
    refine Exists.intro [1, 2] (Exists.intro [.ref 0, .int (fbC k)] (Exists.intro (lw (txF k) (nI k)) (Exists.intro 0 (Exists.intro 0 (And.intro ⟨rfl, rfl, (Nat.le_of_ble_eq_true rfl), rfl, rfl, rfl, ⟨0, _, rfl, rfl⟩⟩ (And.intro (Nat.le_of_ble_eq_true rfl) (And.intro (Nat.le_of_ble_eq_true rfl) ?_)))))))
    refine t_append (by omega) (fun _ => ?_) (fun z => absurd (by omega) z)
    rw [p_tx (upd (txF k) k (fbC k)) (nI (k + 1))]
    rw [txF, nI_succ k] at ih
    rw [nI_succ k]
    exact ih
end J79
theorem x_init {Q : Option Value → List aC → Prop} (hQ : Q none (x0W (txF 53) 0 N0)) : step79 (callok 7) 71 936 [.ref 0] [ao 6 [.null, .null, .null, .null, .null, .null, .null, .null]] Q := by
  refine ⟨by decide, ?_⟩
  show wp (71, 936, callok 7) k_79 (qE 71 936 Q) 0 [some (.ref 0), none] [] [ao 6 [.null, .null, .null, .null, .null, .null, .null, .null]] 0 0
  refine gs79 [4] ?_
  refine And.intro (Nat.le_of_ble_eq_true rfl) ?_
  refine i79_0 (d := 5) (n := 1) (c := 0) (s := 0) rfl (by omega) (by omega) ?_
  refine i79_1 (d := 5) (n := 3) (c := 2) (s := 202) rfl (by omega) (by omega) ?_
  refine i79_2 (d := 5) (n := 7) (c := 6) (s := 250) rfl (by omega) (by omega) ?_
  refine i79_3 (d := 5) (n := 11) (c := 10) (s := 298) rfl (by omega) (by omega) ?_
  refine i79_4 (d := 5) (n := 45) (c := 44) (s := 692) rfl (by omega) (by omega) ?_
  refine i79_5 (d := 5) (n := 55) (c := 54) (s := 792) rfl (by omega) (by omega) ?_
  refine i79_6 (d := 5) (n := 60) (c := 59) (s := 821) rfl (by omega) (by omega) ?_
  refine i79_7 (d := 5) (n := 67) (c := 66) (s := 887) rfl (by omega) (by omega) ?_
  have h9 := t79 (d := 1) (Q := Q) hQ
  rw [← w79] at h9
  exact h9
