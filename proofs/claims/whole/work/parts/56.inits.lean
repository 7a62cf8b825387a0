/-! CONSTRUCTORS: the small ones -/
abbrev ZN : NV := ((fun _ => 0), (fun _ => 0), (fun _ => 0), 0, 0, 0, 0)
section IN
variable {d : Nat} {Q : Option Value → List aC → Prop}
theorem n_nursery (hQ : Q none (nv 0 ZN)) : callok (d + 1) 20 3 41 [.ref 0] [ao 2 [.null, .null, .null, .int 0, .int 0, .int 0, .int 0]] Q := by
  refine beg rfl (gs [] ?_)
  refine And.intro (Nat.le_of_ble_eq_true rfl) ?_
  refine Exists.intro 6 (And.intro rfl (And.intro (Nat.le_of_ble_eq_true rfl) (And.intro (Nat.le_of_ble_eq_true rfl) (And.intro (Nat.le_of_ble_eq_true rfl) ?_))))
  refine Exists.intro 30 (And.intro rfl (And.intro (Nat.le_of_ble_eq_true rfl) (And.intro (Nat.le_of_ble_eq_true rfl) (And.intro (Nat.le_of_ble_eq_true rfl) ?_))))
  refine Exists.intro 5 (And.intro rfl (And.intro (Nat.le_of_ble_eq_true rfl) (And.intro (Nat.le_of_ble_eq_true rfl) (And.intro (Nat.le_of_ble_eq_true rfl) ?_))))
  exact ⟨rfl, Nat.le_of_ble_eq_true rfl, _, hE_rf _, hQ⟩
theorem n_letters (hQ : Q none (lw (fun _ => 0) 0)) : callok (d + 1) 8 1 200 [.ref 0] [ao 1 [.null, .int 0]] Q := by
  refine beg rfl (gs [] ?_)
  refine And.intro (Nat.le_of_ble_eq_true rfl) ?_
  refine Exists.intro 200 (And.intro rfl (And.intro (Nat.le_of_ble_eq_true rfl) (And.intro (Nat.le_of_ble_eq_true rfl) (And.intro (Nat.le_of_ble_eq_true rfl) ?_))))
  exact ⟨rfl, Nat.le_of_ble_eq_true rfl, _, hE_rf _, hQ⟩
theorem n_sight (hQ : Q none (sw (fun _ => 0) (fun _ => 0) (fun _ => 0) (fun _ => 0) 0)) : callok (d + 1) 72 4 24 [.ref 0] [ao 5 [.null, .null, .null, .null, .int 0]] Q := by
  refine beg rfl (gs [] ?_)
  refine And.intro (Nat.le_of_ble_eq_true rfl) ?_
  refine Exists.intro 6 (And.intro rfl (And.intro (Nat.le_of_ble_eq_true rfl) (And.intro (Nat.le_of_ble_eq_true rfl) (And.intro (Nat.le_of_ble_eq_true rfl) ?_))))
  refine Exists.intro 6 (And.intro rfl (And.intro (Nat.le_of_ble_eq_true rfl) (And.intro (Nat.le_of_ble_eq_true rfl) (And.intro (Nat.le_of_ble_eq_true rfl) ?_))))
  refine Exists.intro 6 (And.intro rfl (And.intro (Nat.le_of_ble_eq_true rfl) (And.intro (Nat.le_of_ble_eq_true rfl) (And.intro (Nat.le_of_ble_eq_true rfl) ?_))))
  refine Exists.intro 6 (And.intro rfl (And.intro (Nat.le_of_ble_eq_true rfl) (And.intro (Nat.le_of_ble_eq_true rfl) (And.intro (Nat.le_of_ble_eq_true rfl) ?_))))
  exact ⟨rfl, Nat.le_of_ble_eq_true rfl, _, hE_rf _, hQ⟩
theorem n_chances (hQ : Q none (ao 0 [.ref 1] :: nv 1 ZN)) : callok (d + 2) 0 4 48 [.ref 0] [ao 0 [.null]] Q := by
  refine beg rfl (gs [] ?_)
  refine And.intro (Nat.le_of_ble_eq_true rfl) ?_
  refine And.intro (Nat.le_of_ble_eq_true rfl) (And.intro (Nat.le_of_ble_eq_true rfl) ?_)
  refine Exists.intro [1] (Exists.intro [.ref 0] (Exists.intro ([ao 2 [.null, .null, .null, .int 0, .int 0, .int 0, .int 0]]) (Exists.intro 3 (Exists.intro 41 (And.intro ⟨rfl, rfl, (Nat.le_of_ble_eq_true rfl), rfl, rfl, rfl, ⟨0, rfl⟩⟩ (And.intro (Nat.le_of_ble_eq_true rfl) (And.intro (Nat.le_of_ble_eq_true rfl) ?_)))))))
  refine n_nursery ?_
  exact ⟨rfl, Nat.le_of_ble_eq_true rfl, _, hE_rf _, hQ⟩
theorem n_outlook (hQ : Q none (ao 3 [.ref 1, .ref 5, .ref 6] :: (nv 1 ZN ++ [ai 10 (fun _ => 0), ai 5 (fun _ => 0)]))) : callok (d + 2) 52 6 63 [.ref 0] [ao 3 [.null, .null, .null]] Q := by
  refine beg rfl (gs [] ?_)
  refine And.intro (Nat.le_of_ble_eq_true rfl) ?_
  refine And.intro (Nat.le_of_ble_eq_true rfl) (And.intro (Nat.le_of_ble_eq_true rfl) ?_)
  refine Exists.intro [1] (Exists.intro [.ref 0] (Exists.intro ([ao 2 [.null, .null, .null, .int 0, .int 0, .int 0, .int 0]]) (Exists.intro 3 (Exists.intro 41 (And.intro ⟨rfl, rfl, (Nat.le_of_ble_eq_true rfl), rfl, rfl, rfl, ⟨0, rfl⟩⟩ (And.intro (Nat.le_of_ble_eq_true rfl) (And.intro (Nat.le_of_ble_eq_true rfl) ?_)))))))
  refine n_nursery ?_
  refine Exists.intro 10 (And.intro rfl (And.intro (Nat.le_of_ble_eq_true rfl) (And.intro (Nat.le_of_ble_eq_true rfl) (And.intro (Nat.le_of_ble_eq_true rfl) ?_))))
  refine Exists.intro 5 (And.intro rfl (And.intro (Nat.le_of_ble_eq_true rfl) (And.intro (Nat.le_of_ble_eq_true rfl) (And.intro (Nat.le_of_ble_eq_true rfl) ?_))))
  exact ⟨rfl, Nat.le_of_ble_eq_true rfl, _, hE_rf _, hQ⟩
theorem gq_8 : (va_up (va_up (va_up (va_up (va_up (va_up (va_up (va_up (fun _ => none) 0 (some 2)) 1 (some 6)) 2 (some 10)) 3 (some 14)) 4 (some 18)) 5 (some 22)) 6 (some 26)) 7 (some 30)) = gP 2 8 (fun i => i) := by
  funext i
  match i with
  | 0 => rfl
  | 1 => rfl
  | 2 => rfl
  | 3 => rfl
  | 4 => rfl
  | 5 => rfl
  | 6 => rfl
  | 7 => rfl
  | i + 8 =>
    unfold gP
    rw [if_neg (by omega)]
    simp [va_up]
theorem n_pile8 (hQ : Q none (pw8 (gP 2 8 (fun i => i)) 0 (fun _ => ZN) [])) : callok (d + 2) 65 33 392 [.ref 0, .int 8] [ao 4 [.null, .int 0]] Q := by
  refine beg rfl (gs [18] ?_)
  refine And.intro (Nat.le_of_ble_eq_true rfl) ?_
  refine And.intro ⟨(Nat.le_of_ble_eq_true rfl), (Nat.le_of_ble_eq_true rfl), (Nat.le_of_ble_eq_true rfl)⟩ ?_
  refine Exists.intro 8 (And.intro rfl (And.intro (Nat.le_of_ble_eq_true rfl) (And.intro (Nat.le_of_ble_eq_true rfl) (And.intro (Nat.le_of_ble_eq_true rfl) ?_))))
  show wp (33, 392, callok (d + 1)) (mcode 65) (qE 33 392 Q) 18 [some (.ref 0), some (.int 8), some (.int 0)] [] [ao 4 [.ref 1, .int 0], aq 8 (fun _ => none)] 1 8
  refine gs [18] ?_
  refine br_t (by decide) ?_
  refine And.intro (Nat.le_of_ble_eq_true rfl) (And.intro (Nat.le_of_ble_eq_true rfl) ?_)
  refine Exists.intro [2] (Exists.intro [.ref 0] (Exists.intro ([ao 2 [.null, .null, .null, .int 0, .int 0, .int 0, .int 0]]) (Exists.intro 3 (Exists.intro 41 (And.intro ⟨rfl, rfl, (Nat.le_of_ble_eq_true rfl), rfl, rfl, rfl, ⟨0, rfl⟩⟩ (And.intro (Nat.le_of_ble_eq_true rfl) (And.intro (Nat.le_of_ble_eq_true rfl) ?_)))))))
  refine n_nursery ?_
  refine Exists.intro 0 (And.intro rfl (And.intro ⟨by omega, by omega⟩ (And.intro ⟨_, rfl⟩ ?_)))
  show wp (33, 392, callok (d + 1)) (mcode 65) (qE 33 392 Q) 18 [some (.ref 0), some (.int 8), some (.int 1)] [] ([ao 4 [.ref 1, .int 0], aq 8 (va_up (fun _ => none) 0 (some 2))] ++ nv 2 ZN) 5 56
  refine gs [18] ?_
  refine br_t (by decide) ?_
  refine And.intro (Nat.le_of_ble_eq_true rfl) (And.intro (Nat.le_of_ble_eq_true rfl) ?_)
  refine Exists.intro [6] (Exists.intro [.ref 0] (Exists.intro ([ao 2 [.null, .null, .null, .int 0, .int 0, .int 0, .int 0]]) (Exists.intro 3 (Exists.intro 41 (And.intro ⟨rfl, rfl, (Nat.le_of_ble_eq_true rfl), rfl, rfl, rfl, ⟨0, rfl⟩⟩ (And.intro (Nat.le_of_ble_eq_true rfl) (And.intro (Nat.le_of_ble_eq_true rfl) ?_)))))))
  refine n_nursery ?_
  refine Exists.intro 1 (And.intro rfl (And.intro ⟨by omega, by omega⟩ (And.intro ⟨_, rfl⟩ ?_)))
  show wp (33, 392, callok (d + 1)) (mcode 65) (qE 33 392 Q) 18 [some (.ref 0), some (.int 8), some (.int 2)] [] ([ao 4 [.ref 1, .int 0], aq 8 (va_up (va_up (fun _ => none) 0 (some 2)) 1 (some 6))] ++ (nv 2 ZN ++ nv 6 ZN)) 9 104
  refine gs [18] ?_
  refine br_t (by decide) ?_
  refine And.intro (Nat.le_of_ble_eq_true rfl) (And.intro (Nat.le_of_ble_eq_true rfl) ?_)
  refine Exists.intro [10] (Exists.intro [.ref 0] (Exists.intro ([ao 2 [.null, .null, .null, .int 0, .int 0, .int 0, .int 0]]) (Exists.intro 3 (Exists.intro 41 (And.intro ⟨rfl, rfl, (Nat.le_of_ble_eq_true rfl), rfl, rfl, rfl, ⟨0, rfl⟩⟩ (And.intro (Nat.le_of_ble_eq_true rfl) (And.intro (Nat.le_of_ble_eq_true rfl) ?_)))))))
  refine n_nursery ?_
  refine Exists.intro 2 (And.intro rfl (And.intro ⟨by omega, by omega⟩ (And.intro ⟨_, rfl⟩ ?_)))
  show wp (33, 392, callok (d + 1)) (mcode 65) (qE 33 392 Q) 18 [some (.ref 0), some (.int 8), some (.int 3)] [] ([ao 4 [.ref 1, .int 0], aq 8 (va_up (va_up (va_up (fun _ => none) 0 (some 2)) 1 (some 6)) 2 (some 10))] ++ (nv 2 ZN ++ (nv 6 ZN ++ nv 10 ZN))) 13 152
  refine gs [18] ?_
  refine br_t (by decide) ?_
  refine And.intro (Nat.le_of_ble_eq_true rfl) (And.intro (Nat.le_of_ble_eq_true rfl) ?_)
  refine Exists.intro [14] (Exists.intro [.ref 0] (Exists.intro ([ao 2 [.null, .null, .null, .int 0, .int 0, .int 0, .int 0]]) (Exists.intro 3 (Exists.intro 41 (And.intro ⟨rfl, rfl, (Nat.le_of_ble_eq_true rfl), rfl, rfl, rfl, ⟨0, rfl⟩⟩ (And.intro (Nat.le_of_ble_eq_true rfl) (And.intro (Nat.le_of_ble_eq_true rfl) ?_)))))))
  refine n_nursery ?_
  refine Exists.intro 3 (And.intro rfl (And.intro ⟨by omega, by omega⟩ (And.intro ⟨_, rfl⟩ ?_)))
  show wp (33, 392, callok (d + 1)) (mcode 65) (qE 33 392 Q) 18 [some (.ref 0), some (.int 8), some (.int 4)] [] ([ao 4 [.ref 1, .int 0], aq 8 (va_up (va_up (va_up (va_up (fun _ => none) 0 (some 2)) 1 (some 6)) 2 (some 10)) 3 (some 14))] ++ (nv 2 ZN ++ (nv 6 ZN ++ (nv 10 ZN ++ nv 14 ZN)))) 17 200
  refine gs [18] ?_
  refine br_t (by decide) ?_
  refine And.intro (Nat.le_of_ble_eq_true rfl) (And.intro (Nat.le_of_ble_eq_true rfl) ?_)
  refine Exists.intro [18] (Exists.intro [.ref 0] (Exists.intro ([ao 2 [.null, .null, .null, .int 0, .int 0, .int 0, .int 0]]) (Exists.intro 3 (Exists.intro 41 (And.intro ⟨rfl, rfl, (Nat.le_of_ble_eq_true rfl), rfl, rfl, rfl, ⟨0, rfl⟩⟩ (And.intro (Nat.le_of_ble_eq_true rfl) (And.intro (Nat.le_of_ble_eq_true rfl) ?_)))))))
  refine n_nursery ?_
  refine Exists.intro 4 (And.intro rfl (And.intro ⟨by omega, by omega⟩ (And.intro ⟨_, rfl⟩ ?_)))
  show wp (33, 392, callok (d + 1)) (mcode 65) (qE 33 392 Q) 18 [some (.ref 0), some (.int 8), some (.int 5)] [] ([ao 4 [.ref 1, .int 0], aq 8 (va_up (va_up (va_up (va_up (va_up (fun _ => none) 0 (some 2)) 1 (some 6)) 2 (some 10)) 3 (some 14)) 4 (some 18))] ++ (nv 2 ZN ++ (nv 6 ZN ++ (nv 10 ZN ++ (nv 14 ZN ++ nv 18 ZN))))) 21 248
  refine gs [18] ?_
  refine br_t (by decide) ?_
  refine And.intro (Nat.le_of_ble_eq_true rfl) (And.intro (Nat.le_of_ble_eq_true rfl) ?_)
  refine Exists.intro [22] (Exists.intro [.ref 0] (Exists.intro ([ao 2 [.null, .null, .null, .int 0, .int 0, .int 0, .int 0]]) (Exists.intro 3 (Exists.intro 41 (And.intro ⟨rfl, rfl, (Nat.le_of_ble_eq_true rfl), rfl, rfl, rfl, ⟨0, rfl⟩⟩ (And.intro (Nat.le_of_ble_eq_true rfl) (And.intro (Nat.le_of_ble_eq_true rfl) ?_)))))))
  refine n_nursery ?_
  refine Exists.intro 5 (And.intro rfl (And.intro ⟨by omega, by omega⟩ (And.intro ⟨_, rfl⟩ ?_)))
  show wp (33, 392, callok (d + 1)) (mcode 65) (qE 33 392 Q) 18 [some (.ref 0), some (.int 8), some (.int 6)] [] ([ao 4 [.ref 1, .int 0], aq 8 (va_up (va_up (va_up (va_up (va_up (va_up (fun _ => none) 0 (some 2)) 1 (some 6)) 2 (some 10)) 3 (some 14)) 4 (some 18)) 5 (some 22))] ++ (nv 2 ZN ++ (nv 6 ZN ++ (nv 10 ZN ++ (nv 14 ZN ++ (nv 18 ZN ++ nv 22 ZN)))))) 25 296
  refine gs [18] ?_
  refine br_t (by decide) ?_
  refine And.intro (Nat.le_of_ble_eq_true rfl) (And.intro (Nat.le_of_ble_eq_true rfl) ?_)
  refine Exists.intro [26] (Exists.intro [.ref 0] (Exists.intro ([ao 2 [.null, .null, .null, .int 0, .int 0, .int 0, .int 0]]) (Exists.intro 3 (Exists.intro 41 (And.intro ⟨rfl, rfl, (Nat.le_of_ble_eq_true rfl), rfl, rfl, rfl, ⟨0, rfl⟩⟩ (And.intro (Nat.le_of_ble_eq_true rfl) (And.intro (Nat.le_of_ble_eq_true rfl) ?_)))))))
  refine n_nursery ?_
  refine Exists.intro 6 (And.intro rfl (And.intro ⟨by omega, by omega⟩ (And.intro ⟨_, rfl⟩ ?_)))
  show wp (33, 392, callok (d + 1)) (mcode 65) (qE 33 392 Q) 18 [some (.ref 0), some (.int 8), some (.int 7)] [] ([ao 4 [.ref 1, .int 0], aq 8 (va_up (va_up (va_up (va_up (va_up (va_up (va_up (fun _ => none) 0 (some 2)) 1 (some 6)) 2 (some 10)) 3 (some 14)) 4 (some 18)) 5 (some 22)) 6 (some 26))] ++ (nv 2 ZN ++ (nv 6 ZN ++ (nv 10 ZN ++ (nv 14 ZN ++ (nv 18 ZN ++ (nv 22 ZN ++ nv 26 ZN))))))) 29 344
  refine gs [18] ?_
  refine br_t (by decide) ?_
  refine And.intro (Nat.le_of_ble_eq_true rfl) (And.intro (Nat.le_of_ble_eq_true rfl) ?_)
  refine Exists.intro [30] (Exists.intro [.ref 0] (Exists.intro ([ao 2 [.null, .null, .null, .int 0, .int 0, .int 0, .int 0]]) (Exists.intro 3 (Exists.intro 41 (And.intro ⟨rfl, rfl, (Nat.le_of_ble_eq_true rfl), rfl, rfl, rfl, ⟨0, rfl⟩⟩ (And.intro (Nat.le_of_ble_eq_true rfl) (And.intro (Nat.le_of_ble_eq_true rfl) ?_)))))))
  refine n_nursery ?_
  refine Exists.intro 7 (And.intro rfl (And.intro ⟨by omega, by omega⟩ (And.intro ⟨_, rfl⟩ ?_)))
  show wp (33, 392, callok (d + 1)) (mcode 65) (qE 33 392 Q) 18 [some (.ref 0), some (.int 8), some (.int 8)] [] ([ao 4 [.ref 1, .int 0], aq 8 (va_up (va_up (va_up (va_up (va_up (va_up (va_up (va_up (fun _ => none) 0 (some 2)) 1 (some 6)) 2 (some 10)) 3 (some 14)) 4 (some 18)) 5 (some 22)) 6 (some 26)) 7 (some 30))] ++ (nv 2 ZN ++ (nv 6 ZN ++ (nv 10 ZN ++ (nv 14 ZN ++ (nv 18 ZN ++ (nv 22 ZN ++ (nv 26 ZN ++ nv 30 ZN)))))))) 33 392
  refine gs [18] ?_
  refine br_f (by decide) ?_
  rw [← gq_8] at hQ
  exact ⟨rfl, Nat.le_of_ble_eq_true rfl, _, hE_rf _, hQ⟩
theorem gq_2 : (va_up (va_up (fun _ => none) 0 (some 2)) 1 (some 6)) = gP 2 2 (fun i => i) := by
  funext i
  match i with
  | 0 => rfl
  | 1 => rfl
  | i + 2 =>
    unfold gP
    rw [if_neg (by omega)]
    simp [va_up]
theorem n_pile2 (hQ : Q none (pw2 (gP 2 2 (fun i => i)) 0 (fun _ => ZN) [])) : callok (d + 2) 65 9 98 [.ref 0, .int 2] [ao 4 [.null, .int 0]] Q := by
  refine beg rfl (gs [18] ?_)
  refine And.intro (Nat.le_of_ble_eq_true rfl) ?_
  refine And.intro ⟨(Nat.le_of_ble_eq_true rfl), (Nat.le_of_ble_eq_true rfl), (Nat.le_of_ble_eq_true rfl)⟩ ?_
  refine Exists.intro 2 (And.intro rfl (And.intro (Nat.le_of_ble_eq_true rfl) (And.intro (Nat.le_of_ble_eq_true rfl) (And.intro (Nat.le_of_ble_eq_true rfl) ?_))))
  show wp (9, 98, callok (d + 1)) (mcode 65) (qE 9 98 Q) 18 [some (.ref 0), some (.int 2), some (.int 0)] [] [ao 4 [.ref 1, .int 0], aq 2 (fun _ => none)] 1 2
  refine gs [18] ?_
  refine br_t (by decide) ?_
  refine And.intro (Nat.le_of_ble_eq_true rfl) (And.intro (Nat.le_of_ble_eq_true rfl) ?_)
  refine Exists.intro [2] (Exists.intro [.ref 0] (Exists.intro ([ao 2 [.null, .null, .null, .int 0, .int 0, .int 0, .int 0]]) (Exists.intro 3 (Exists.intro 41 (And.intro ⟨rfl, rfl, (Nat.le_of_ble_eq_true rfl), rfl, rfl, rfl, ⟨0, rfl⟩⟩ (And.intro (Nat.le_of_ble_eq_true rfl) (And.intro (Nat.le_of_ble_eq_true rfl) ?_)))))))
  refine n_nursery ?_
  refine Exists.intro 0 (And.intro rfl (And.intro ⟨by omega, by omega⟩ (And.intro ⟨_, rfl⟩ ?_)))
  show wp (9, 98, callok (d + 1)) (mcode 65) (qE 9 98 Q) 18 [some (.ref 0), some (.int 2), some (.int 1)] [] ([ao 4 [.ref 1, .int 0], aq 2 (va_up (fun _ => none) 0 (some 2))] ++ nv 2 ZN) 5 50
  refine gs [18] ?_
  refine br_t (by decide) ?_
  refine And.intro (Nat.le_of_ble_eq_true rfl) (And.intro (Nat.le_of_ble_eq_true rfl) ?_)
  refine Exists.intro [6] (Exists.intro [.ref 0] (Exists.intro ([ao 2 [.null, .null, .null, .int 0, .int 0, .int 0, .int 0]]) (Exists.intro 3 (Exists.intro 41 (And.intro ⟨rfl, rfl, (Nat.le_of_ble_eq_true rfl), rfl, rfl, rfl, ⟨0, rfl⟩⟩ (And.intro (Nat.le_of_ble_eq_true rfl) (And.intro (Nat.le_of_ble_eq_true rfl) ?_)))))))
  refine n_nursery ?_
  refine Exists.intro 1 (And.intro rfl (And.intro ⟨by omega, by omega⟩ (And.intro ⟨_, rfl⟩ ?_)))
  show wp (9, 98, callok (d + 1)) (mcode 65) (qE 9 98 Q) 18 [some (.ref 0), some (.int 2), some (.int 2)] [] ([ao 4 [.ref 1, .int 0], aq 2 (va_up (va_up (fun _ => none) 0 (some 2)) 1 (some 6))] ++ (nv 2 ZN ++ nv 6 ZN)) 9 98
  refine gs [18] ?_
  refine br_f (by decide) ?_
  rw [← gq_2] at hQ
  exact ⟨rfl, Nat.le_of_ble_eq_true rfl, _, hE_rf _, hQ⟩
end IN
