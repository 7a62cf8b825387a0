/-! DOLLSVOTE: more of its methods -/
theorem put_all {S S' : List aC} {n : Nat} (hn : S.length = n) (h : S'.length = n) : put S (List.range' 0 n) S' = S' := by
  have h := put_seg (A := []) (S := S) (B := []) (a := 0) (n := n) (S' := S') rfl hn h
  simpa using h
theorem p_all {tx : Nat → Int32} {len : Int32} {N : NV} {T1 : NV} {g8 : Nat → Option Nat} {z8 : Int32} {P8 : Nat → NV} {g2 : Nat → Option Nat} {z2 : Int32} {P2 : Nat → NV} {dys : Nat → Int32} {hos : Nat → Int32} {rms : Nat → Int32} {ths : Nat → Int32} {sz : Int32} {T3 : NV} {mby : Nat → Int32} {vby : Nat → Int32} {T0 : NV} (tx' : Nat → Int32) (len' : Int32) (N' : NV) (T1' : NV) (g8' : Nat → Option Nat) (z8' : Int32) (P8' : Nat → NV) (g2' : Nat → Option Nat) (z2' : Int32) (P2' : Nat → NV) (dys' : Nat → Int32) (hos' : Nat → Int32) (rms' : Nat → Int32) (ths' : Nat → Int32) (sz' : Int32) (T3' : NV) (mby' : Nat → Int32) (vby' : Nat → Int32) (T0' : NV) : put (xw tx len N T1 g8 z8 P8 g2 z2 P2 dys hos rms ths sz T3 mby vby T0) [0, 1, 2, 3, 4, 5, 6, 7, 8, 9, 10, 11, 12, 13, 14, 15, 16, 17, 18, 19, 20, 21, 22, 23, 24, 25, 26, 27, 28, 29, 30, 31, 32, 33, 34, 35, 36, 37, 38, 39, 40, 41, 42, 43, 44, 45, 46, 47, 48, 49, 50, 51, 52, 53, 54, 55, 56, 57, 58, 59, 60, 61, 62, 63, 64, 65, 66, 67, 68, 69, 70, 71] ((xw tx' len' N' T1' g8' z8' P8' g2' z2' P2' dys' hos' rms' ths' sz' T3' mby' vby' T0').map (rc (rho [0, 1, 2, 3, 4, 5, 6, 7, 8, 9, 10, 11, 12, 13, 14, 15, 16, 17, 18, 19, 20, 21, 22, 23, 24, 25, 26, 27, 28, 29, 30, 31, 32, 33, 34, 35, 36, 37, 38, 39, 40, 41, 42, 43, 44, 45, 46, 47, 48, 49, 50, 51, 52, 53, 54, 55, 56, 57, 58, 59, 60, 61, 62, 63, 64, 65, 66, 67, 68, 69, 70, 71] (xw tx len N T1 g8 z8 P8 g2 z2 P2 dys hos rms ths sz T3 mby vby T0).length))) = (xw tx' len' N' T1' (gM [0, 1, 2, 3, 4, 5, 6, 7, 8, 9, 10, 11, 12, 13, 14, 15, 16, 17, 18, 19, 20, 21, 22, 23, 24, 25, 26, 27, 28, 29, 30, 31, 32, 33, 34, 35, 36, 37, 38, 39, 40, 41, 42, 43, 44, 45, 46, 47, 48, 49, 50, 51, 52, 53, 54, 55, 56, 57, 58, 59, 60, 61, 62, 63, 64, 65, 66, 67, 68, 69, 70, 71] 72 g8') z8' P8' (gM [0, 1, 2, 3, 4, 5, 6, 7, 8, 9, 10, 11, 12, 13, 14, 15, 16, 17, 18, 19, 20, 21, 22, 23, 24, 25, 26, 27, 28, 29, 30, 31, 32, 33, 34, 35, 36, 37, 38, 39, 40, 41, 42, 43, 44, 45, 46, 47, 48, 49, 50, 51, 52, 53, 54, 55, 56, 57, 58, 59, 60, 61, 62, 63, 64, 65, 66, 67, 68, 69, 70, 71] 72 g2') z2' P2' dys' hos' rms' ths' sz' T3' mby' vby' T0') := by
  refine (put_all (n := 72) rfl rfl).trans ?_
  rfl
section DY
variable {d : Nat} {kd th wi tx : Nat → Int32} {dy : Int32} {H R M L S8 S2 S a b n : Nat} {x y v w u : Int32} {T1 T3 T0 N : NV} {p8 p2 p : Nat → Nat} {P8 P2 P : Nat → NV} {dys hos rms ths mby vby : Nat → Int32} {Q : Option Value → List aC → Prop}
theorem x_mouse (hp : ∀ i, i < 8 → p8 i < 8) (hS8 : S8 ≤ 8) (hk : ∀ i, i < 2 → p2 i < 2) (hS2 : S2 ≤ 2) (hH : H ≤ 6) (hM : M < 64) (hF : ¬ inR x H → Q (some (.int (-1))) (xw tx (nI L) (kd, th, wi, nI H, nI R, nI M, dy) T1 (gP 13 8 p8) (nI S8) P8 (gP 47 2 p2) (nI S2) P2 dys hos rms ths (nI S) T3 mby vby T0)) (hN : ∀ a, a < H → x = nI a → (M.testBit a = true ↔ (1 : Int32) = 1) → Q (some (.int (-2))) (xw tx (nI L) (kd, th, wi, nI H, nI R, nI M, dy) T1 (gP 13 8 p8) (nI S8) P8 (gP 47 2 p2) (nI S2) P2 dys hos rms ths (nI S) T3 mby vby T0)) (hT : ∀ a, a < H → x = nI a → ¬ (M.testBit a = true ↔ (1 : Int32) = 1) → Q (some (.int (nI (pop 10 (M ^^^ 2 ^ a))))) (xw tx (nI L) (kd, th, wi, nI H, nI R, nI (M ^^^ 2 ^ a), dy) T1 (gP 13 8 (pm 8 S8 p8)) (nI (ps 8 S8)) (updN P8 (pj 8 S8 p8) (kd, th, wi, nI H, nI R, nI M, dy)) (gP 47 2 p2) (nI S2) P2 dys hos rms ths (nI S) T3 mby vby T0)) : callok (d + 4) 90 0 0 [.ref 0, .int x] (xw tx (nI L) (kd, th, wi, nI H, nI R, nI M, dy) T1 (gP 13 8 p8) (nI S8) P8 (gP 47 2 p2) (nI S2) P2 dys hos rms ths (nI S) T3 mby vby T0) Q := by
  refine beg rfl (gs [] ?_)
  rw [← e8a hp, ← e2a hk]
  refine Exists.intro [0, 1, 2, 3, 4, 5, 6, 7, 8, 9, 10, 11, 12, 13, 14, 15, 16, 17, 18, 19, 20, 21, 22, 23, 24, 25, 26, 27, 28, 29, 30, 31, 32, 33, 34, 35, 36, 37, 38, 39, 40, 41, 42, 43, 44, 45, 46, 47, 48, 49, 50, 51, 52, 53, 54, 55, 56, 57, 58, 59, 60, 61, 62, 63, 64, 65, 66, 67, 68, 69, 70, 71] (Exists.intro [.ref 0, .int x, .int 1] (Exists.intro ((xw tx (nI L) (kd, th, wi, nI H, nI R, nI M, dy) T1 (gP 13 8 p8) (nI S8) P8 (gP 47 2 p2) (nI S2) P2 dys hos rms ths (nI S) T3 mby vby T0)) (Exists.intro 0 (Exists.intro 0 (And.intro ⟨rfl, rfl, Nat.le_of_ble_eq_true rfl, rfl, rfl, rfl, ⟨0, _, rfl, rfl⟩⟩ (And.intro (Nat.le_refl _) (And.intro (Nat.le_refl _) ?_)))))))
  refine x_setMouse hp hS8 hH hM (Or.inr rfl) (fun c => ?_) (fun a ha ea c => ?_) (fun a ha ea c => ?_)
  · rw [p_all tx (nI L) (kd, th, wi, nI H, nI R, nI M, dy) T1 (gP 13 8 p8) (nI S8) P8 (gP 47 2 p2) (nI S2) P2 dys hos rms ths (nI S) T3 mby vby T0, e8a hp, e2a hk]
    exact fin0 (hF c)
  · rw [p_all tx (nI L) (kd, th, wi, nI H, nI R, nI M, dy) T1 (gP 13 8 p8) (nI S8) P8 (gP 47 2 p2) (nI S2) P2 dys hos rms ths (nI S) T3 mby vby T0, e8a hp, e2a hk]
    exact fin0 (hN a ha ea c)
  · rw [p_all tx (nI L) (kd, th, wi, nI H, nI R, nI (M ^^^ 2 ^ a), dy) T1 (gP 13 8 (pm 8 S8 p8)) (nI (ps 8 S8)) (updN P8 (pj 8 S8 p8) (kd, th, wi, nI H, nI R, nI M, dy)) (gP 47 2 p2) (nI S2) P2 dys hos rms ths (nI S) T3 mby vby T0, e8a (pm_lt hp), e2a hk]
    exact fin0 (hT a ha ea c)
theorem x_chase (hp : ∀ i, i < 8 → p8 i < 8) (hS8 : S8 ≤ 8) (hk : ∀ i, i < 2 → p2 i < 2) (hS2 : S2 ≤ 2) (hH : H ≤ 6) (hM : M < 64) (hF : ¬ inR x H → Q (some (.int (-1))) (xw tx (nI L) (kd, th, wi, nI H, nI R, nI M, dy) T1 (gP 13 8 p8) (nI S8) P8 (gP 47 2 p2) (nI S2) P2 dys hos rms ths (nI S) T3 mby vby T0)) (hN : ∀ a, a < H → x = nI a → (M.testBit a = true ↔ (0 : Int32) = 1) → Q (some (.int (-2))) (xw tx (nI L) (kd, th, wi, nI H, nI R, nI M, dy) T1 (gP 13 8 p8) (nI S8) P8 (gP 47 2 p2) (nI S2) P2 dys hos rms ths (nI S) T3 mby vby T0)) (hT : ∀ a, a < H → x = nI a → ¬ (M.testBit a = true ↔ (0 : Int32) = 1) → Q (some (.int (nI (pop 10 (M ^^^ 2 ^ a))))) (xw tx (nI L) (kd, th, wi, nI H, nI R, nI (M ^^^ 2 ^ a), dy) T1 (gP 13 8 (pm 8 S8 p8)) (nI (ps 8 S8)) (updN P8 (pj 8 S8 p8) (kd, th, wi, nI H, nI R, nI M, dy)) (gP 47 2 p2) (nI S2) P2 dys hos rms ths (nI S) T3 mby vby T0)) : callok (d + 4) 91 0 0 [.ref 0, .int x] (xw tx (nI L) (kd, th, wi, nI H, nI R, nI M, dy) T1 (gP 13 8 p8) (nI S8) P8 (gP 47 2 p2) (nI S2) P2 dys hos rms ths (nI S) T3 mby vby T0) Q := by
  refine beg rfl (gs [] ?_)
  rw [← e8a hp, ← e2a hk]
  refine Exists.intro [0, 1, 2, 3, 4, 5, 6, 7, 8, 9, 10, 11, 12, 13, 14, 15, 16, 17, 18, 19, 20, 21, 22, 23, 24, 25, 26, 27, 28, 29, 30, 31, 32, 33, 34, 35, 36, 37, 38, 39, 40, 41, 42, 43, 44, 45, 46, 47, 48, 49, 50, 51, 52, 53, 54, 55, 56, 57, 58, 59, 60, 61, 62, 63, 64, 65, 66, 67, 68, 69, 70, 71] (Exists.intro [.ref 0, .int x, .int 0] (Exists.intro ((xw tx (nI L) (kd, th, wi, nI H, nI R, nI M, dy) T1 (gP 13 8 p8) (nI S8) P8 (gP 47 2 p2) (nI S2) P2 dys hos rms ths (nI S) T3 mby vby T0)) (Exists.intro 0 (Exists.intro 0 (And.intro ⟨rfl, rfl, Nat.le_of_ble_eq_true rfl, rfl, rfl, rfl, ⟨0, _, rfl, rfl⟩⟩ (And.intro (Nat.le_refl _) (And.intro (Nat.le_refl _) ?_)))))))
  refine x_setMouse hp hS8 hH hM (Or.inl rfl) (fun c => ?_) (fun a ha ea c => ?_) (fun a ha ea c => ?_)
  · rw [p_all tx (nI L) (kd, th, wi, nI H, nI R, nI M, dy) T1 (gP 13 8 p8) (nI S8) P8 (gP 47 2 p2) (nI S2) P2 dys hos rms ths (nI S) T3 mby vby T0, e8a hp, e2a hk]
    exact fin0 (hF c)
  · rw [p_all tx (nI L) (kd, th, wi, nI H, nI R, nI M, dy) T1 (gP 13 8 p8) (nI S8) P8 (gP 47 2 p2) (nI S2) P2 dys hos rms ths (nI S) T3 mby vby T0, e8a hp, e2a hk]
    exact fin0 (hN a ha ea c)
  · rw [p_all tx (nI L) (kd, th, wi, nI H, nI R, nI (M ^^^ 2 ^ a), dy) T1 (gP 13 8 (pm 8 S8 p8)) (nI (ps 8 S8)) (updN P8 (pj 8 S8 p8) (kd, th, wi, nI H, nI R, nI M, dy)) (gP 47 2 p2) (nI S2) P2 dys hos rms ths (nI S) T3 mby vby T0, e8a (pm_lt hp), e2a hk]
    exact fin0 (hT a ha ea c)
theorem x_lay (hp : ∀ i, i < 8 → p8 i < 8) (hS8 : S8 ≤ 8) (hk : ∀ i, i < 2 → p2 i < 2) (hS2 : S2 ≤ 2) (hL : L ≤ 200) (hF : ¬ ((rdG tx L 200 0 (T1.1, T1.2.1, fun _ => 10, 0, 0, 0)).1 = -4 ∧ ¬ nI (rdG tx L 200 0 (T1.1, T1.2.1, fun _ => 10, 0, 0, 0)).2.2.2.2.1 < 2) → Q (some (.int (-2))) (xw tx (nI L) (kd, th, wi, nI H, nI R, nI M, dy) ((rdG tx L 200 0 (T1.1, T1.2.1, fun _ => 10, 0, 0, 0)).2.1, (rdG tx L 200 0 (T1.1, T1.2.1, fun _ => 10, 0, 0, 0)).2.2.1, (rdG tx L 200 0 (T1.1, T1.2.1, fun _ => 10, 0, 0, 0)).2.2.2.1, nI (rdG tx L 200 0 (T1.1, T1.2.1, fun _ => 10, 0, 0, 0)).2.2.2.2.1, nI (rdG tx L 200 0 (T1.1, T1.2.1, fun _ => 10, 0, 0, 0)).2.2.2.2.2.1, nI (rdG tx L 200 0 (T1.1, T1.2.1, fun _ => 10, 0, 0, 0)).2.2.2.2.2.2, 0) (gP 13 8 p8) (nI S8) P8 (gP 47 2 p2) (nI S2) P2 dys hos rms ths (nI S) T3 mby vby T0)) (hT : (rdG tx L 200 0 (T1.1, T1.2.1, fun _ => 10, 0, 0, 0)).1 = -4 → ¬ nI (rdG tx L 200 0 (T1.1, T1.2.1, fun _ => 10, 0, 0, 0)).2.2.2.2.1 < 2 → Q (some (.int (nI (rdG tx L 200 0 (T1.1, T1.2.1, fun _ => 10, 0, 0, 0)).2.2.2.2.1))) (xw tx (nI L) ((rdG tx L 200 0 (T1.1, T1.2.1, fun _ => 10, 0, 0, 0)).2.1, (rdG tx L 200 0 (T1.1, T1.2.1, fun _ => 10, 0, 0, 0)).2.2.1, (rdG tx L 200 0 (T1.1, T1.2.1, fun _ => 10, 0, 0, 0)).2.2.2.1, nI (rdG tx L 200 0 (T1.1, T1.2.1, fun _ => 10, 0, 0, 0)).2.2.2.2.1, nI (rdG tx L 200 0 (T1.1, T1.2.1, fun _ => 10, 0, 0, 0)).2.2.2.2.2.1, nI (rdG tx L 200 0 (T1.1, T1.2.1, fun _ => 10, 0, 0, 0)).2.2.2.2.2.2, 0) ((rdG tx L 200 0 (T1.1, T1.2.1, fun _ => 10, 0, 0, 0)).2.1, (rdG tx L 200 0 (T1.1, T1.2.1, fun _ => 10, 0, 0, 0)).2.2.1, (rdG tx L 200 0 (T1.1, T1.2.1, fun _ => 10, 0, 0, 0)).2.2.2.1, nI (rdG tx L 200 0 (T1.1, T1.2.1, fun _ => 10, 0, 0, 0)).2.2.2.2.1, nI (rdG tx L 200 0 (T1.1, T1.2.1, fun _ => 10, 0, 0, 0)).2.2.2.2.2.1, nI (rdG tx L 200 0 (T1.1, T1.2.1, fun _ => 10, 0, 0, 0)).2.2.2.2.2.2, 0) (gP 13 8 p8) 0 P8 (gP 47 2 p2) 0 P2 dys hos rms ths 0 T3 mby vby T0)) : callok (d + 7) 83 0 0 [.ref 0] (xw tx (nI L) (kd, th, wi, nI H, nI R, nI M, dy) T1 (gP 13 8 p8) (nI S8) P8 (gP 47 2 p2) (nI S2) P2 dys hos rms ths (nI S) T3 mby vby T0) Q := by
  refine beg rfl (gs [] ?_)
  refine Exists.intro [1, 2, 7, 8, 9, 10] (Exists.intro [.ref 0, .ref 2] (Exists.intro (lw tx (nI L) ++ nv 2 T1) (Exists.intro 0 (Exists.intro 0 (And.intro ⟨rfl, rfl, Nat.le_of_ble_eq_true rfl, rfl, rfl, rfl, ⟨0, _, rfl, rfl⟩⟩ (And.intro (Nat.le_refl _) (And.intro (Nat.le_refl _) ?_)))))))
  refine t_readInto hL ?_
  generalize (rdG tx L 200 0 (T1.1, T1.2.1, fun _ => 10, 0, 0, 0)) = rd at hT hF ⊢
  obtain ⟨rc0, kd', th', wi', H', R', M'⟩ := rd
  rw [p_txtr tx (nI L) (kd', th', wi', nI H', nI R', nI M', 0)]
  refine br_c (fun c => ?_) (fun c => ?_)
  · refine Exists.intro [7, 8, 9, 10] (Exists.intro [.ref 0] (Exists.intro (nv 0 (kd', th', wi', nI H', nI R', nI M', 0)) (Exists.intro 0 (Exists.intro 0 (And.intro ⟨rfl, rfl, Nat.le_of_ble_eq_true rfl, rfl, rfl, rfl, ⟨0, _, rfl, rfl⟩⟩ (And.intro (Nat.le_refl _) (And.intro (Nat.le_refl _) ?_)))))))
    refine t_houses ?_
    rw [p_tr (kd', th', wi', nI H', nI R', nI M', 0)]
    refine br_c (fun c2 => ?_) (fun c2 => ?_)
    · exact fin0 (hF (fun z => z.2 c2))
    · refine Exists.intro [3, 4, 5, 6, 7, 8, 9, 10] (Exists.intro [.ref 0, .ref 4] (Exists.intro (nv 0 (kd, th, wi, nI H, nI R, nI M, dy) ++ nv 4 (kd', th', wi', nI H', nI R', nI M', 0)) (Exists.intro 0 (Exists.intro 0 (And.intro ⟨rfl, rfl, Nat.le_of_ble_eq_true rfl, rfl, rfl, rfl, ⟨0, _, rfl, rfl⟩⟩ (And.intro (Nat.le_refl _) (And.intro (Nat.le_refl _) ?_)))))))
      refine t_become ?_
      rw [p_nwtr (kd', th', wi', nI H', nI R', nI M', 0) (kd', th', wi', nI H', nI R', nI M', 0), ← e8b hp]
      refine Exists.intro [11, 12, 13, 14, 15, 16, 17, 18, 19, 20, 21, 22, 23, 24, 25, 26, 27, 28, 29, 30, 31, 32, 33, 34, 35, 36, 37, 38, 39, 40, 41, 42, 43, 44] (Exists.intro [.ref 0] (Exists.intro (pw8 (gP 2 8 p8) (nI S8) P8 []) (Exists.intro 0 (Exists.intro 0 (And.intro ⟨rfl, rfl, Nat.le_of_ble_eq_true rfl, rfl, rfl, rfl, ⟨0, _, rfl, rfl⟩⟩ (And.intro (Nat.le_refl _) (And.intro (Nat.le_refl _) ?_)))))))
      refine t_pclear8 ?_
      rw [p_pa (gP 2 8 p8) 0 P8, e8b hp, ← e2b hk]
      refine Exists.intro [45, 46, 47, 48, 49, 50, 51, 52, 53, 54] (Exists.intro [.ref 0] (Exists.intro (pw2 (gP 2 2 p2) (nI S2) P2 []) (Exists.intro 0 (Exists.intro 0 (And.intro ⟨rfl, rfl, Nat.le_of_ble_eq_true rfl, rfl, rfl, rfl, ⟨0, _, rfl, rfl⟩⟩ (And.intro (Nat.le_refl _) (And.intro (Nat.le_refl _) ?_)))))))
      refine t_pclear2 ?_
      rw [p_ke (gP 2 2 p2) 0 P2, e2b hk]
      refine Exists.intro [55, 56, 57, 58, 59] (Exists.intro [.ref 0] (Exists.intro (sw dys hos rms ths (nI S)) (Exists.intro 0 (Exists.intro 0 (And.intro ⟨rfl, rfl, Nat.le_of_ble_eq_true rfl, rfl, rfl, rfl, ⟨0, _, rfl, rfl⟩⟩ (And.intro (Nat.le_refl _) (And.intro (Nat.le_refl _) ?_)))))))
      refine t_sclear ?_
      rw [p_si dys hos rms ths 0]
      refine Exists.intro [3, 4, 5, 6] (Exists.intro [.ref 0] (Exists.intro (nv 0 (kd', th', wi', nI H', nI R', nI M', 0)) (Exists.intro 0 (Exists.intro 0 (And.intro ⟨rfl, rfl, Nat.le_of_ble_eq_true rfl, rfl, rfl, rfl, ⟨0, _, rfl, rfl⟩⟩ (And.intro (Nat.le_refl _) (And.intro (Nat.le_refl _) ?_)))))))
      refine t_houses ?_
      rw [p_nw (kd', th', wi', nI H', nI R', nI M', 0)]
      exact fin0 (hT c c2)
  · exact fin0 (hF (fun z => c z.1))
theorem x_count (hp : ∀ i, i < 8 → p8 i < 8) (hS8 : S8 ≤ 8) (hk : ∀ i, i < 2 → p2 i < 2) (hS2 : S2 ≤ 2) (hR : R ≤ 5) (hM : M < 64) (hF : ¬ (¬ x < 0 ∧ ¬ 9 < x) → Q (some (.int (-1))) (xw tx (nI L) (kd, th, wi, nI H, nI R, nI M, dy) T1 (gP 13 8 p8) (nI S8) P8 (gP 47 2 p2) (nI S2) P2 dys hos rms ths (nI S) T3 mby vby T0)) (h0 : x = 0 → Q (some (.int (nI H))) (xw tx (nI L) (kd, th, wi, nI H, nI R, nI M, dy) T1 (gP 13 8 p8) (nI S8) P8 (gP 47 2 p2) (nI S2) P2 dys hos rms ths (nI S) T3 mby vby T0)) (h1 : x = 1 → Q (some (.int (nI R))) (xw tx (nI L) (kd, th, wi, nI H, nI R, nI M, dy) T1 (gP 13 8 p8) (nI S8) P8 (gP 47 2 p2) (nI S2) P2 dys hos rms ths (nI S) T3 mby vby T0)) (h2 : x = 2 → Q (some (.int (dy))) (xw tx (nI L) (kd, th, wi, nI H, nI R, nI M, dy) T1 (gP 13 8 p8) (nI S8) P8 (gP 47 2 p2) (nI S2) P2 dys hos rms ths (nI S) T3 mby vby T0)) (h3 : x = 3 → Q (some (.int (nI (pop 10 M)))) (xw tx (nI L) (kd, th, wi, nI H, nI R, nI M, dy) T1 (gP 13 8 p8) (nI S8) P8 (gP 47 2 p2) (nI S2) P2 dys hos rms ths (nI S) T3 mby vby T0)) (h4 : x = 4 → Q (some (.int (nI (wsN wi R)))) (xw tx (nI L) (kd, th, wi, nI H, nI R, nI M, dy) T1 (gP 13 8 p8) (nI S8) P8 (gP 47 2 p2) (nI S2) P2 dys hos rms ths (nI S) T3 mby vby T0)) (h5 : x = 5 → Q (some (.int (nI (pop 10 (metN wi th R))))) (xw tx (nI L) (kd, th, wi, nI H, nI R, nI M, dy) T1 (gP 13 8 p8) (nI S8) P8 (gP 47 2 p2) (nI S2) P2 dys hos rms ths (nI S) T3 mby vby T0)) (h6 : x = 6 → Q (some (.int (nI S))) (xw tx (nI L) (kd, th, wi, nI H, nI R, nI M, dy) T1 (gP 13 8 p8) (nI S8) P8 (gP 47 2 p2) (nI S2) P2 dys hos rms ths (nI S) T3 mby vby T0)) (h7 : x = 7 → Q (some (.int (nI S8))) (xw tx (nI L) (kd, th, wi, nI H, nI R, nI M, dy) T1 (gP 13 8 p8) (nI S8) P8 (gP 47 2 p2) (nI S2) P2 dys hos rms ths (nI S) T3 mby vby T0)) (h8 : x = 8 → Q (some (.int (nI S2))) (xw tx (nI L) (kd, th, wi, nI H, nI R, nI M, dy) T1 (gP 13 8 p8) (nI S8) P8 (gP 47 2 p2) (nI S2) P2 dys hos rms ths (nI S) T3 mby vby T0)) (h9 : x = 9 → Q (some (.int (nI L))) (xw tx (nI L) (kd, th, wi, nI H, nI R, nI M, dy) T1 (gP 13 8 p8) (nI S8) P8 (gP 47 2 p2) (nI S2) P2 dys hos rms ths (nI S) T3 mby vby T0)) : callok (d + 4) 110 0 0 [.ref 0, .int x] (xw tx (nI L) (kd, th, wi, nI H, nI R, nI M, dy) T1 (gP 13 8 p8) (nI S8) P8 (gP 47 2 p2) (nI S2) P2 dys hos rms ths (nI S) T3 mby vby T0) Q := by
  refine beg rfl (gs [] ?_)
  refine And.intro (fun c => ?_) (fun j a hj hx => ?_)
  · exact fin0 (hF (fun z => c.elim (fun q => z.1 (Int32.lt_iff_toInt_lt.mpr q)) (fun q => z.2 (Int32.lt_iff_toInt_lt.mpr q))))
  · match j, hj, hx with
    | 0, hj, hx =>
      obtain rfl : 56 = a := Option.some.inj hj
      have ex : x = 0 := Int32.toInt_inj.mp (by rw [hx]; decide)
      refine Exists.intro [3, 4, 5, 6] (Exists.intro [.ref 0] (Exists.intro (nc 0 kd th wi (nI H) (nI R) (nI M) dy) (Exists.intro 0 (Exists.intro 0 (And.intro ⟨rfl, rfl, Nat.le_of_ble_eq_true rfl, rfl, rfl, rfl, ⟨0, _, rfl, rfl⟩⟩ (And.intro (Nat.le_refl _) (And.intro (Nat.le_refl _) ?_)))))))
      refine t_houses ?_
      rw [p_nw (kd, th, wi, nI H, nI R, nI M, dy)]
      exact fin0 (h0 ex)
    | 1, hj, hx =>
      obtain rfl : 64 = a := Option.some.inj hj
      have ex : x = 1 := Int32.toInt_inj.mp (by rw [hx]; decide)
      refine Exists.intro [3, 4, 5, 6] (Exists.intro [.ref 0] (Exists.intro (nc 0 kd th wi (nI H) (nI R) (nI M) dy) (Exists.intro 0 (Exists.intro 0 (And.intro ⟨rfl, rfl, Nat.le_of_ble_eq_true rfl, rfl, rfl, rfl, ⟨0, _, rfl, rfl⟩⟩ (And.intro (Nat.le_refl _) (And.intro (Nat.le_refl _) ?_)))))))
      refine t_rooms ?_
      rw [p_nw (kd, th, wi, nI H, nI R, nI M, dy)]
      exact fin0 (h1 ex)
    | 2, hj, hx =>
      obtain rfl : 72 = a := Option.some.inj hj
      have ex : x = 2 := Int32.toInt_inj.mp (by rw [hx]; decide)
      refine Exists.intro [3, 4, 5, 6] (Exists.intro [.ref 0] (Exists.intro (nc 0 kd th wi (nI H) (nI R) (nI M) dy) (Exists.intro 0 (Exists.intro 0 (And.intro ⟨rfl, rfl, Nat.le_of_ble_eq_true rfl, rfl, rfl, rfl, ⟨0, _, rfl, rfl⟩⟩ (And.intro (Nat.le_refl _) (And.intro (Nat.le_refl _) ?_)))))))
      refine t_day ?_
      rw [p_nw (kd, th, wi, nI H, nI R, nI M, dy)]
      exact fin0 (h2 ex)
    | 3, hj, hx =>
      obtain rfl : 80 = a := Option.some.inj hj
      have ex : x = 3 := Int32.toInt_inj.mp (by rw [hx]; decide)
      refine Exists.intro [3, 4, 5, 6] (Exists.intro [.ref 0] (Exists.intro (nc 0 kd th wi (nI H) (nI R) (nI M) dy) (Exists.intro 0 (Exists.intro 0 (And.intro ⟨rfl, rfl, Nat.le_of_ble_eq_true rfl, rfl, rfl, rfl, ⟨0, _, rfl, rfl⟩⟩ (And.intro (Nat.le_refl _) (And.intro (Nat.le_refl _) ?_)))))))
      refine t_mice hM ?_
      rw [p_nw (kd, th, wi, nI H, nI R, nI M, dy)]
      exact fin0 (h3 ex)
    | 4, hj, hx =>
      obtain rfl : 88 = a := Option.some.inj hj
      have ex : x = 4 := Int32.toInt_inj.mp (by rw [hx]; decide)
      refine Exists.intro [3, 4, 5, 6] (Exists.intro [.ref 0] (Exists.intro (nc 0 kd th wi (nI H) (nI R) (nI M) dy) (Exists.intro 0 (Exists.intro 0 (And.intro ⟨rfl, rfl, Nat.le_of_ble_eq_true rfl, rfl, rfl, rfl, ⟨0, _, rfl, rfl⟩⟩ (And.intro (Nat.le_refl _) (And.intro (Nat.le_refl _) ?_)))))))
      refine t_wishes hR ?_
      rw [p_nw (kd, th, wi, nI H, nI R, nI M, dy)]
      exact fin0 (h4 ex)
    | 5, hj, hx =>
      obtain rfl : 96 = a := Option.some.inj hj
      have ex : x = 5 := Int32.toInt_inj.mp (by rw [hx]; decide)
      refine Exists.intro [3, 4, 5, 6] (Exists.intro [.ref 0] (Exists.intro (nc 0 kd th wi (nI H) (nI R) (nI M) dy) (Exists.intro 0 (Exists.intro 0 (And.intro ⟨rfl, rfl, Nat.le_of_ble_eq_true rfl, rfl, rfl, rfl, ⟨0, _, rfl, rfl⟩⟩ (And.intro (Nat.le_refl _) (And.intro (Nat.le_refl _) ?_)))))))
      refine t_metRooms hR ?_
      rw [p_nw (kd, th, wi, nI H, nI R, nI M, dy)]
      refine Exists.intro [] (Exists.intro [.int (nI (metN wi th R))] (Exists.intro ([]) (Exists.intro 0 (Exists.intro 0 (And.intro ⟨rfl, rfl, Nat.le_of_ble_eq_true rfl, rfl, rfl, rfl, trivial⟩ (And.intro (Nat.le_refl _) (And.intro (Nat.le_refl _) ?_)))))))
      refine t_bitCount (h := []) rfl (Nat.lt_of_lt_of_le (metN_32 hR) (by decide)) ?_
      rw [p_nil]
      exact fin0 (h5 ex)
    | 6, hj, hx =>
      obtain rfl : 107 = a := Option.some.inj hj
      have ex : x = 6 := Int32.toInt_inj.mp (by rw [hx]; decide)
      refine Exists.intro [55, 56, 57, 58, 59] (Exists.intro [.ref 0] (Exists.intro (sw dys hos rms ths (nI S)) (Exists.intro 0 (Exists.intro 0 (And.intro ⟨rfl, rfl, Nat.le_of_ble_eq_true rfl, rfl, rfl, rfl, ⟨0, _, rfl, rfl⟩⟩ (And.intro (Nat.le_refl _) (And.intro (Nat.le_refl _) ?_)))))))
      refine t_ssize ?_
      rw [p_si dys hos rms ths (nI S)]
      exact fin0 (h6 ex)
    | 7, hj, hx =>
      obtain rfl : 115 = a := Option.some.inj hj
      have ex : x = 7 := Int32.toInt_inj.mp (by rw [hx]; decide)
      rw [← e8b hp]
      refine Exists.intro [11, 12, 13, 14, 15, 16, 17, 18, 19, 20, 21, 22, 23, 24, 25, 26, 27, 28, 29, 30, 31, 32, 33, 34, 35, 36, 37, 38, 39, 40, 41, 42, 43, 44] (Exists.intro [.ref 0] (Exists.intro (pw8 (gP 2 8 p8) (nI S8) P8 []) (Exists.intro 0 (Exists.intro 0 (And.intro ⟨rfl, rfl, Nat.le_of_ble_eq_true rfl, rfl, rfl, rfl, ⟨0, _, rfl, rfl⟩⟩ (And.intro (Nat.le_refl _) (And.intro (Nat.le_refl _) ?_)))))))
      refine t_psize8 ?_
      rw [p_pa (gP 2 8 p8) (nI S8) P8, e8b hp]
      exact fin0 (h7 ex)
    | 8, hj, hx =>
      obtain rfl : 123 = a := Option.some.inj hj
      have ex : x = 8 := Int32.toInt_inj.mp (by rw [hx]; decide)
      rw [← e2b hk]
      refine Exists.intro [45, 46, 47, 48, 49, 50, 51, 52, 53, 54] (Exists.intro [.ref 0] (Exists.intro (pw2 (gP 2 2 p2) (nI S2) P2 []) (Exists.intro 0 (Exists.intro 0 (And.intro ⟨rfl, rfl, Nat.le_of_ble_eq_true rfl, rfl, rfl, rfl, ⟨0, _, rfl, rfl⟩⟩ (And.intro (Nat.le_refl _) (And.intro (Nat.le_refl _) ?_)))))))
      refine t_psize2 ?_
      rw [p_ke (gP 2 2 p2) (nI S2) P2, e2b hk]
      exact fin0 (h8 ex)
    | 9, hj, hx =>
      obtain rfl : 131 = a := Option.some.inj hj
      have ex : x = 9 := Int32.toInt_inj.mp (by rw [hx]; decide)
      refine Exists.intro [1, 2] (Exists.intro [.ref 0] (Exists.intro (lw tx (nI L)) (Exists.intro 0 (Exists.intro 0 (And.intro ⟨rfl, rfl, Nat.le_of_ble_eq_true rfl, rfl, rfl, rfl, ⟨0, _, rfl, rfl⟩⟩ (And.intro (Nat.le_refl _) (And.intro (Nat.le_refl _) ?_)))))))
      refine t_llen ?_
      rw [p_tx tx (nI L)]
      exact fin0 (h9 ex)
    | j + 10, hj, hx => exact absurd hj (by simp)
theorem x_pins (hM : M < 64) (h0 : 0 < H) (hH : H ≤ 6) (hR : R ≤ 5) (hT : ∀ n, 1 ≤ n → n ≤ 40 → x = nI n → (y = -1 ∨ inR y R) → ∀ T3 mby, Q (some (.int (fpR kd wi R H (metN wi (itT kd M H R n th) R) (tyM kd th wi M H R n (H - 1)) y R 0 0 (if y < 0 then -4 else th (5 * (H - 1) + y.toNatClampNeg))))) (xw tx (nI L) (kd, th, wi, nI H, nI R, nI M, dy) T1 (gP 13 8 p8) (nI S8) P8 (gP 47 2 p2) (nI S2) P2 dys hos rms ths (nI S) T3 mby vby T0)) (hF : ¬ ((¬ x < 1 ∧ ¬ 40 < x) ∧ (y = -1 ∨ inR y R)) → Q (some (.int (-1))) (xw tx (nI L) (kd, th, wi, nI H, nI R, nI M, dy) T1 (gP 13 8 p8) (nI S8) P8 (gP 47 2 p2) (nI S2) P2 dys hos rms ths (nI S) T3 mby vby T0)) : callok (d + 8) 98 0 0 [.ref 0, .int x, .int y] (xw tx (nI L) (kd, th, wi, nI H, nI R, nI M, dy) T1 (gP 13 8 p8) (nI S8) P8 (gP 47 2 p2) (nI S2) P2 dys hos rms ths (nI S) T3 mby vby T0) Q := by
  refine beg rfl (gs [] ?_)
  refine Exists.intro [] (Exists.intro [.int x, .int 1, .int 40] (Exists.intro ([]) (Exists.intro 0 (Exists.intro 0 (And.intro ⟨rfl, rfl, Nat.le_of_ble_eq_true rfl, rfl, rfl, rfl, trivial⟩ (And.intro (Nat.le_refl _) (And.intro (Nat.le_refl _) ?_)))))))
  refine t_within (fun c c2 => ?_) (fun c => ?_)
  · rw [p_nil]
    refine br_f ((by decide)) ?_
    obtain ⟨n, hn1, hn, rfl⟩ := in1 (m := 40) (n := 40) rfl c c2
    refine br_c (fun c3 => ?_) (fun c3 => ?_)
    · refine Exists.intro [60, 61, 62, 63, 64, 65, 66, 3, 4, 5, 6] (Exists.intro [.ref 0, .ref 7, .int (nI n), .int y] (Exists.intro (ow T3 mby vby (kd, th, wi, nI H, nI R, nI M, dy)) (Exists.intro 0 (Exists.intro 0 (And.intro ⟨rfl, rfl, Nat.le_of_ble_eq_true rfl, rfl, rfl, rfl, ⟨0, _, rfl, rfl⟩⟩ (And.intro (Nat.le_refl _) (And.intro (Nat.le_refl _) ?_)))))))
      refine t_fewestPins rfl (by omega) (Or.inl (by rw [c3]; decide)) hM h0 hH hR (fun T3 mby => ?_)
      rw [p_ounw T3 mby vby (kd, th, wi, nI H, nI R, nI M, dy)]
      exact fin0 (hT n hn1 hn rfl (Or.inl c3) T3 mby)
    · refine Exists.intro [3, 4, 5, 6] (Exists.intro [.ref 0, .int y] (Exists.intro (nc 0 kd th wi (nI H) (nI R) (nI M) dy) (Exists.intro 0 (Exists.intro 0 (And.intro ⟨rfl, rfl, Nat.le_of_ble_eq_true rfl, rfl, rfl, rfl, ⟨0, _, rfl, rfl⟩⟩ (And.intro (Nat.le_refl _) (And.intro (Nat.le_refl _) ?_)))))))
      refine t_hasRoom (fun c4 => ?_) (fun c4 => ?_)
      · rw [p_nw (kd, th, wi, nI H, nI R, nI M, dy)]
        refine br_f ((by decide)) ?_
        refine Exists.intro [60, 61, 62, 63, 64, 65, 66, 3, 4, 5, 6] (Exists.intro [.ref 0, .ref 7, .int (nI n), .int y] (Exists.intro (ow T3 mby vby (kd, th, wi, nI H, nI R, nI M, dy)) (Exists.intro 0 (Exists.intro 0 (And.intro ⟨rfl, rfl, Nat.le_of_ble_eq_true rfl, rfl, rfl, rfl, ⟨0, _, rfl, rfl⟩⟩ (And.intro (Nat.le_refl _) (And.intro (Nat.le_refl _) ?_)))))))
        refine t_fewestPins rfl (by omega) (Or.inr (inR_of c4 (by omega))) hM h0 hH hR (fun T3 mby => ?_)
        rw [p_ounw T3 mby vby (kd, th, wi, nI H, nI R, nI M, dy)]
        exact fin0 (hT n hn1 hn rfl (Or.inr c4) T3 mby)
      · rw [p_nw (kd, th, wi, nI H, nI R, nI M, dy)]
        refine br_t ((rfl)) ?_
        exact fin0 (hF (fun z => z.2.elim c3 c4))
  · rw [p_nil]
    refine br_t ((rfl)) ?_
    exact fin0 (hF (fun z => c z.1))
theorem x_one (hM : M < 64) (h0 : 0 < H) (hH : H ≤ 6) (hR : R ≤ 5) (hT : ∀ n, n ≤ 40 → x = nI n → (¬ y < 0 ∧ ¬ 1 < y) → ∀ T3 mby, Q (some (.int (if y = 0 then (bpH kd th wi M H R n H 0 (-1, 0)).2 else ((bpH kd th wi M H R n H 0 (-1, 0)).1)))) (xw tx (nI L) (kd, th, wi, nI H, nI R, nI M, dy) T1 (gP 13 8 p8) (nI S8) P8 (gP 47 2 p2) (nI S2) P2 dys hos rms ths (nI S) T3 mby vby T0)) (hF : ¬ ((¬ x < 0 ∧ ¬ 40 < x) ∧ ¬ y < 0 ∧ ¬ 1 < y) → Q (some (.int (-1))) (xw tx (nI L) (kd, th, wi, nI H, nI R, nI M, dy) T1 (gP 13 8 p8) (nI S8) P8 (gP 47 2 p2) (nI S2) P2 dys hos rms ths (nI S) T3 mby vby T0)) : callok (d + 8) 99 0 0 [.ref 0, .int x, .int y] (xw tx (nI L) (kd, th, wi, nI H, nI R, nI M, dy) T1 (gP 13 8 p8) (nI S8) P8 (gP 47 2 p2) (nI S2) P2 dys hos rms ths (nI S) T3 mby vby T0) Q := by
  refine beg rfl (gs [] ?_)
  refine Exists.intro [] (Exists.intro [.int x, .int 0, .int 40] (Exists.intro ([]) (Exists.intro 0 (Exists.intro 0 (And.intro ⟨rfl, rfl, Nat.le_of_ble_eq_true rfl, rfl, rfl, rfl, trivial⟩ (And.intro (Nat.le_refl _) (And.intro (Nat.le_refl _) ?_)))))))
  refine t_within (fun c c2 => ?_) (fun c => ?_)
  · rw [p_nil]
    refine br_f ((by decide)) ?_
    refine Exists.intro [] (Exists.intro [.int y, .int 0, .int 1] (Exists.intro ([]) (Exists.intro 0 (Exists.intro 0 (And.intro ⟨rfl, rfl, Nat.le_of_ble_eq_true rfl, rfl, rfl, rfl, trivial⟩ (And.intro (Nat.le_refl _) (And.intro (Nat.le_refl _) ?_)))))))
    refine t_within (fun c3 c4 => ?_) (fun c3 => ?_)
    · rw [p_nil]
      refine br_f ((by decide)) ?_
      obtain ⟨n, hn, rfl⟩ := nI_of2 (M := 40) (n := 40) rfl c (Int32.not_lt.mp c2)
      have hq := hT n hn rfl ⟨c3, c4⟩
      refine br_c (fun c5 => ?_) (fun c5 => ?_)
      · simp only [if_pos c5] at hq
        refine Exists.intro [60, 61, 62, 63, 64, 65, 66, 3, 4, 5, 6] (Exists.intro [.ref 0, .ref 7, .int (nI n), .int 1] (Exists.intro (ow T3 mby vby (kd, th, wi, nI H, nI R, nI M, dy)) (Exists.intro 0 (Exists.intro 0 (And.intro ⟨rfl, rfl, Nat.le_of_ble_eq_true rfl, rfl, rfl, rfl, ⟨0, _, rfl, rfl⟩⟩ (And.intro (Nat.le_refl _) (And.intro (Nat.le_refl _) ?_)))))))
        refine t_bestPin rfl (by omega) hM h0 hH hR (fun T3 mby => ?_)
        rw [p_ounw T3 mby vby (kd, th, wi, nI H, nI R, nI M, dy), if_neg (show ¬ (1 : Int32) = 0 by decide)]
        exact fin0 (hq T3 mby)
      · simp only [if_neg c5] at hq
        refine Exists.intro [60, 61, 62, 63, 64, 65, 66, 3, 4, 5, 6] (Exists.intro [.ref 0, .ref 7, .int (nI n), .int 0] (Exists.intro (ow T3 mby vby (kd, th, wi, nI H, nI R, nI M, dy)) (Exists.intro 0 (Exists.intro 0 (And.intro ⟨rfl, rfl, Nat.le_of_ble_eq_true rfl, rfl, rfl, rfl, ⟨0, _, rfl, rfl⟩⟩ (And.intro (Nat.le_refl _) (And.intro (Nat.le_refl _) ?_)))))))
        refine t_bestPin rfl (by omega) hM h0 hH hR (fun T3 mby => ?_)
        rw [p_ounw T3 mby vby (kd, th, wi, nI H, nI R, nI M, dy), if_pos (show (0 : Int32) = 0 from rfl)]
        exact fin0 (hq T3 mby)
    · rw [p_nil]
      refine br_t ((rfl)) ?_
      exact fin0 (hF (fun z => c3 z.2))
  · rw [p_nil]
    refine br_t ((rfl)) ?_
    exact fin0 (hF (fun z => c z.1))
theorem x_harm (hM : M < 64) (h0 : 0 < H) (hH : H ≤ 6) (hR : R ≤ 5) (hT : ∀ n, n ≤ 40 → x = nI n → (¬ y < 0 ∧ ¬ 1 < y) → ∀ T3, Q (some (.int (if y = 0 then (wmR kd th wi M H R n H 0 (6, -4)).2 else (if (wmR kd th wi M H R n H 0 (6, -4)).2 = -4 then (wmR kd th wi M H R n H 0 (6, -4)).2 else (wmR kd th wi M H R n H 0 (6, -4)).1)))) (xw tx (nI L) (kd, th, wi, nI H, nI R, nI M, dy) T1 (gP 13 8 p8) (nI S8) P8 (gP 47 2 p2) (nI S2) P2 dys hos rms ths (nI S) T3 mby vby T0)) (hF : ¬ ((¬ x < 0 ∧ ¬ 40 < x) ∧ ¬ y < 0 ∧ ¬ 1 < y) → Q (some (.int (-1))) (xw tx (nI L) (kd, th, wi, nI H, nI R, nI M, dy) T1 (gP 13 8 p8) (nI S8) P8 (gP 47 2 p2) (nI S2) P2 dys hos rms ths (nI S) T3 mby vby T0)) : callok (d + 7) 100 0 0 [.ref 0, .int x, .int y] (xw tx (nI L) (kd, th, wi, nI H, nI R, nI M, dy) T1 (gP 13 8 p8) (nI S8) P8 (gP 47 2 p2) (nI S2) P2 dys hos rms ths (nI S) T3 mby vby T0) Q := by
  refine beg rfl (gs [] ?_)
  refine Exists.intro [] (Exists.intro [.int x, .int 0, .int 40] (Exists.intro ([]) (Exists.intro 0 (Exists.intro 0 (And.intro ⟨rfl, rfl, Nat.le_of_ble_eq_true rfl, rfl, rfl, rfl, trivial⟩ (And.intro (Nat.le_refl _) (And.intro (Nat.le_refl _) ?_)))))))
  refine t_within (fun c c2 => ?_) (fun c => ?_)
  · rw [p_nil]
    refine br_f ((by decide)) ?_
    refine Exists.intro [] (Exists.intro [.int y, .int 0, .int 1] (Exists.intro ([]) (Exists.intro 0 (Exists.intro 0 (And.intro ⟨rfl, rfl, Nat.le_of_ble_eq_true rfl, rfl, rfl, rfl, trivial⟩ (And.intro (Nat.le_refl _) (And.intro (Nat.le_refl _) ?_)))))))
    refine t_within (fun c3 c4 => ?_) (fun c3 => ?_)
    · rw [p_nil]
      refine br_f ((by decide)) ?_
      obtain ⟨n, hn, rfl⟩ := nI_of2 (M := 40) (n := 40) rfl c (Int32.not_lt.mp c2)
      have hq := hT n hn rfl ⟨c3, c4⟩
      refine br_c (fun c5 => ?_) (fun c5 => ?_)
      · simp only [if_pos c5] at hq
        refine Exists.intro [60, 61, 62, 63, 64, 65, 66, 3, 4, 5, 6] (Exists.intro [.ref 0, .ref 7, .int (nI n), .int 1] (Exists.intro (ow T3 mby vby (kd, th, wi, nI H, nI R, nI M, dy)) (Exists.intro 0 (Exists.intro 0 (And.intro ⟨rfl, rfl, Nat.le_of_ble_eq_true rfl, rfl, rfl, rfl, ⟨0, _, rfl, rfl⟩⟩ (And.intro (Nat.le_refl _) (And.intro (Nat.le_refl _) ?_)))))))
        refine t_worstMouse rfl (by omega) hM h0 hH hR (fun T3 => ?_)
        rw [p_ounw T3 mby vby (kd, th, wi, nI H, nI R, nI M, dy), if_neg (show ¬ (1 : Int32) = 0 by decide)]
        exact fin0 (hq T3)
      · simp only [if_neg c5] at hq
        refine Exists.intro [60, 61, 62, 63, 64, 65, 66, 3, 4, 5, 6] (Exists.intro [.ref 0, .ref 7, .int (nI n), .int 0] (Exists.intro (ow T3 mby vby (kd, th, wi, nI H, nI R, nI M, dy)) (Exists.intro 0 (Exists.intro 0 (And.intro ⟨rfl, rfl, Nat.le_of_ble_eq_true rfl, rfl, rfl, rfl, ⟨0, _, rfl, rfl⟩⟩ (And.intro (Nat.le_refl _) (And.intro (Nat.le_refl _) ?_)))))))
        refine t_worstMouse rfl (by omega) hM h0 hH hR (fun T3 => ?_)
        rw [p_ounw T3 mby vby (kd, th, wi, nI H, nI R, nI M, dy), if_pos (show (0 : Int32) = 0 from rfl)]
        exact fin0 (hq T3)
    · rw [p_nil]
      refine br_t ((rfl)) ?_
      exact fin0 (hF (fun z => c3 z.2))
  · rw [p_nil]
    refine br_t ((rfl)) ?_
    exact fin0 (hF (fun z => c z.1))
theorem x_tells (hM : M < 64) (h0 : 0 < H) (hH : H ≤ 6) (hR : R ≤ 5) {vl : Nat → Nat → Nat} (hv : ∀ n a, n ≤ 20 → a < H → x = nI n → y = nI a → ∀ k, k < 10 → ∀ b, b < R → vl k b < 10 ∧ (itT kd M H R n (plA (nI k) th (H - 1) R)) (5 * a + upA kd R a (H - 1 - a) b) = nI (vl k b)) (hT : ∀ n a, n ≤ 20 → a < H → x = nI n → y = nI a → (¬ v < 0 ∧ ¬ 1 < v) → ∀ T3 vby, Q (some (.int (if v = 0 then (mtR vl R 0 (0, 0)).2 else (mtR vl R 0 (0, 0)).1))) (xw tx (nI L) (kd, th, wi, nI H, nI R, nI M, dy) T1 (gP 13 8 p8) (nI S8) P8 (gP 47 2 p2) (nI S2) P2 dys hos rms ths (nI S) T3 mby vby T0)) (hF : ¬ ((¬ x < 0 ∧ ¬ 20 < x) ∧ inR y H ∧ ¬ v < 0 ∧ ¬ 1 < v) → Q (some (.int (-1))) (xw tx (nI L) (kd, th, wi, nI H, nI R, nI M, dy) T1 (gP 13 8 p8) (nI S8) P8 (gP 47 2 p2) (nI S2) P2 dys hos rms ths (nI S) T3 mby vby T0)) : callok (d + 8) 105 0 0 [.ref 0, .int x, .int y, .int v] (xw tx (nI L) (kd, th, wi, nI H, nI R, nI M, dy) T1 (gP 13 8 p8) (nI S8) P8 (gP 47 2 p2) (nI S2) P2 dys hos rms ths (nI S) T3 mby vby T0) Q := by
  refine beg rfl (gs [] ?_)
  refine Exists.intro [] (Exists.intro [.int x, .int 0, .int 20] (Exists.intro ([]) (Exists.intro 0 (Exists.intro 0 (And.intro ⟨rfl, rfl, Nat.le_of_ble_eq_true rfl, rfl, rfl, rfl, trivial⟩ (And.intro (Nat.le_refl _) (And.intro (Nat.le_refl _) ?_)))))))
  refine t_within (fun c c2 => ?_) (fun c => ?_)
  · rw [p_nil]
    refine br_f ((by decide)) ?_
    refine Exists.intro [3, 4, 5, 6] (Exists.intro [.ref 0, .int y] (Exists.intro (nc 0 kd th wi (nI H) (nI R) (nI M) dy) (Exists.intro 0 (Exists.intro 0 (And.intro ⟨rfl, rfl, Nat.le_of_ble_eq_true rfl, rfl, rfl, rfl, ⟨0, _, rfl, rfl⟩⟩ (And.intro (Nat.le_refl _) (And.intro (Nat.le_refl _) ?_)))))))
    refine t_hasHouse (fun c6 => ?_) (fun c6 => ?_)
    · rw [p_nw (kd, th, wi, nI H, nI R, nI M, dy)]
      refine br_f ((by decide)) ?_
      refine Exists.intro [] (Exists.intro [.int v, .int 0, .int 1] (Exists.intro ([]) (Exists.intro 0 (Exists.intro 0 (And.intro ⟨rfl, rfl, Nat.le_of_ble_eq_true rfl, rfl, rfl, rfl, trivial⟩ (And.intro (Nat.le_refl _) (And.intro (Nat.le_refl _) ?_)))))))
      refine t_within (fun c3 c4 => ?_) (fun c3 => ?_)
      · rw [p_nil]
        refine br_f ((by decide)) ?_
        obtain ⟨n, hn, rfl⟩ := nI_of2 (M := 20) (n := 20) rfl c (Int32.not_lt.mp c2)
        obtain ⟨a, ha, rfl⟩ := inR_of c6 (by omega)
        have hq := hT n a hn ha rfl rfl ⟨c3, c4⟩
        have hw := hv n a hn ha rfl rfl
        refine br_c (fun c5 => ?_) (fun c5 => ?_)
        · simp only [if_pos c5] at hq
          refine Exists.intro [60, 61, 62, 63, 64, 65, 66, 3, 4, 5, 6] (Exists.intro [.ref 0, .ref 7, .int (nI n), .int (nI a), .int 1] (Exists.intro (ow T3 mby vby (kd, th, wi, nI H, nI R, nI M, dy)) (Exists.intro 0 (Exists.intro 0 (And.intro ⟨rfl, rfl, Nat.le_of_ble_eq_true rfl, rfl, rfl, rfl, ⟨0, _, rfl, rfl⟩⟩ (And.intro (Nat.le_refl _) (And.intro (Nat.le_refl _) ?_)))))))
          refine t_mostTelling rfl rfl ha (by omega) hM hH hR hw (fun T3 vby => ?_)
          rw [p_ounw T3 mby vby (kd, th, wi, nI H, nI R, nI M, dy), if_neg (show ¬ (1 : Int32) = 0 by decide)]
          exact fin0 (hq T3 vby)
        · simp only [if_neg c5] at hq
          refine Exists.intro [60, 61, 62, 63, 64, 65, 66, 3, 4, 5, 6] (Exists.intro [.ref 0, .ref 7, .int (nI n), .int (nI a), .int 0] (Exists.intro (ow T3 mby vby (kd, th, wi, nI H, nI R, nI M, dy)) (Exists.intro 0 (Exists.intro 0 (And.intro ⟨rfl, rfl, Nat.le_of_ble_eq_true rfl, rfl, rfl, rfl, ⟨0, _, rfl, rfl⟩⟩ (And.intro (Nat.le_refl _) (And.intro (Nat.le_refl _) ?_)))))))
          refine t_mostTelling rfl rfl ha (by omega) hM hH hR hw (fun T3 vby => ?_)
          rw [p_ounw T3 mby vby (kd, th, wi, nI H, nI R, nI M, dy), if_pos (show (0 : Int32) = 0 from rfl)]
          exact fin0 (hq T3 vby)
      · rw [p_nil]
        refine br_t ((rfl)) ?_
        exact fin0 (hF (fun z => c3 z.2.2))
    · rw [p_nw (kd, th, wi, nI H, nI R, nI M, dy)]
      refine br_t ((rfl)) ?_
      exact fin0 (hF (fun z => c6 z.2.1))
  · rw [p_nil]
    refine br_t ((rfl)) ?_
    exact fin0 (hF (fun z => c z.1))
theorem x_seen (hS : S ≤ 6) (hT : (¬ x < 0 ∧ ¬ 20 < x) → inR y H → inR v R → (¬ w < 0 ∧ ¬ 9 < w) → S < 6 → Q (some (.int (nI (S + 1)))) (xw tx (nI L) (kd, th, wi, nI H, nI R, nI M, dy) T1 (gP 13 8 p8) (nI S8) P8 (gP 47 2 p2) (nI S2) P2 (upd dys S x) (upd hos S y) (upd rms S v) (upd ths S w) (nI (S + 1)) T3 mby vby T0)) (hU : (¬ x < 0 ∧ ¬ 20 < x) → inR y H → inR v R → (¬ w < 0 ∧ ¬ 9 < w) → ¬ S < 6 → Q (some (.int (-3))) (xw tx (nI L) (kd, th, wi, nI H, nI R, nI M, dy) T1 (gP 13 8 p8) (nI S8) P8 (gP 47 2 p2) (nI S2) P2 dys hos rms ths (nI S) T3 mby vby T0)) (hF : ¬ ((¬ x < 0 ∧ ¬ 20 < x) ∧ inR y H ∧ inR v R ∧ ¬ w < 0 ∧ ¬ 9 < w) → Q (some (.int (-1))) (xw tx (nI L) (kd, th, wi, nI H, nI R, nI M, dy) T1 (gP 13 8 p8) (nI S8) P8 (gP 47 2 p2) (nI S2) P2 dys hos rms ths (nI S) T3 mby vby T0)) : callok (d + 3) 101 0 0 [.ref 0, .int x, .int y, .int v, .int w] (xw tx (nI L) (kd, th, wi, nI H, nI R, nI M, dy) T1 (gP 13 8 p8) (nI S8) P8 (gP 47 2 p2) (nI S2) P2 dys hos rms ths (nI S) T3 mby vby T0) Q := by
  refine beg rfl (gs [] ?_)
  refine Exists.intro [] (Exists.intro [.int x, .int 0, .int 20] (Exists.intro ([]) (Exists.intro 0 (Exists.intro 0 (And.intro ⟨rfl, rfl, Nat.le_of_ble_eq_true rfl, rfl, rfl, rfl, trivial⟩ (And.intro (Nat.le_refl _) (And.intro (Nat.le_refl _) ?_)))))))
  refine t_within (fun c c2 => ?_) (fun c => ?_)
  · rw [p_nil]
    refine br_f ((by decide)) ?_
    refine Exists.intro [3, 4, 5, 6] (Exists.intro [.ref 0, .int y] (Exists.intro (nc 0 kd th wi (nI H) (nI R) (nI M) dy) (Exists.intro 0 (Exists.intro 0 (And.intro ⟨rfl, rfl, Nat.le_of_ble_eq_true rfl, rfl, rfl, rfl, ⟨0, _, rfl, rfl⟩⟩ (And.intro (Nat.le_refl _) (And.intro (Nat.le_refl _) ?_)))))))
    refine t_hasHouse (fun c3 => ?_) (fun c3 => ?_)
    · rw [p_nw (kd, th, wi, nI H, nI R, nI M, dy)]
      refine br_f ((by decide)) ?_
      refine Exists.intro [3, 4, 5, 6] (Exists.intro [.ref 0, .int v] (Exists.intro (nc 0 kd th wi (nI H) (nI R) (nI M) dy) (Exists.intro 0 (Exists.intro 0 (And.intro ⟨rfl, rfl, Nat.le_of_ble_eq_true rfl, rfl, rfl, rfl, ⟨0, _, rfl, rfl⟩⟩ (And.intro (Nat.le_refl _) (And.intro (Nat.le_refl _) ?_)))))))
      refine t_hasRoom (fun c4 => ?_) (fun c4 => ?_)
      · rw [p_nw (kd, th, wi, nI H, nI R, nI M, dy)]
        refine br_f ((by decide)) ?_
        refine Exists.intro [] (Exists.intro [.int w] (Exists.intro ([]) (Exists.intro 0 (Exists.intro 0 (And.intro ⟨rfl, rfl, Nat.le_of_ble_eq_true rfl, rfl, rfl, rfl, trivial⟩ (And.intro (Nat.le_refl _) (And.intro (Nat.le_refl _) ?_)))))))
        refine t_isThing (fun c5 c6 => ?_) (fun c5 => ?_)
        · rw [p_nil]
          refine br_f ((by decide)) ?_
          refine Exists.intro [55, 56, 57, 58, 59] (Exists.intro [.ref 0, .int x, .int y, .int v, .int w] (Exists.intro (sw dys hos rms ths (nI S)) (Exists.intro 0 (Exists.intro 0 (And.intro ⟨rfl, rfl, Nat.le_of_ble_eq_true rfl, rfl, rfl, rfl, ⟨0, _, rfl, rfl⟩⟩ (And.intro (Nat.le_refl _) (And.intro (Nat.le_refl _) ?_)))))))
          refine t_sadd hS (fun c7 => ?_) (fun c7 => ?_)
          · rw [p_si (upd dys S x) (upd hos S y) (upd rms S v) (upd ths S w) (nI (S + 1))]
            refine br_f ((by decide)) ?_
            refine Exists.intro [55, 56, 57, 58, 59] (Exists.intro [.ref 0] (Exists.intro (sw (upd dys S x) (upd hos S y) (upd rms S v) (upd ths S w) (nI (S + 1))) (Exists.intro 0 (Exists.intro 0 (And.intro ⟨rfl, rfl, Nat.le_of_ble_eq_true rfl, rfl, rfl, rfl, ⟨0, _, rfl, rfl⟩⟩ (And.intro (Nat.le_refl _) (And.intro (Nat.le_refl _) ?_)))))))
            refine t_ssize ?_
            rw [p_si (upd dys S x) (upd hos S y) (upd rms S v) (upd ths S w) (nI (S + 1))]
            exact fin0 (hT ⟨c, c2⟩ c3 c4 ⟨c5, c6⟩ c7)
          · rw [p_si dys hos rms ths (nI S)]
            refine br_t ((rfl)) ?_
            exact fin0 (hU ⟨c, c2⟩ c3 c4 ⟨c5, c6⟩ c7)
        · rw [p_nil]
          refine br_t ((rfl)) ?_
          exact fin0 (hF (fun z => c5 z.2.2.2))
      · rw [p_nw (kd, th, wi, nI H, nI R, nI M, dy)]
        refine br_t ((rfl)) ?_
        exact fin0 (hF (fun z => c4 z.2.2.1))
    · rw [p_nw (kd, th, wi, nI H, nI R, nI M, dy)]
      refine br_t ((rfl)) ?_
      exact fin0 (hF (fun z => c3 z.2.1))
  · rw [p_nil]
    refine br_t ((rfl)) ?_
    exact fin0 (hF (fun z => c z.1))
theorem x_forget (hQ : Q (some (.int (nI S))) (xw tx (nI L) (kd, th, wi, nI H, nI R, nI M, dy) T1 (gP 13 8 p8) (nI S8) P8 (gP 47 2 p2) (nI S2) P2 dys hos rms ths 0 T3 mby vby T0)) : callok (d + 2) 102 0 0 [.ref 0] (xw tx (nI L) (kd, th, wi, nI H, nI R, nI M, dy) T1 (gP 13 8 p8) (nI S8) P8 (gP 47 2 p2) (nI S2) P2 dys hos rms ths (nI S) T3 mby vby T0) Q := by
  refine beg rfl (gs [] ?_)
  refine Exists.intro [55, 56, 57, 58, 59] (Exists.intro [.ref 0] (Exists.intro (sw dys hos rms ths (nI S)) (Exists.intro 0 (Exists.intro 0 (And.intro ⟨rfl, rfl, Nat.le_of_ble_eq_true rfl, rfl, rfl, rfl, ⟨0, _, rfl, rfl⟩⟩ (And.intro (Nat.le_refl _) (And.intro (Nat.le_refl _) ?_)))))))
  refine t_ssize ?_
  rw [p_si dys hos rms ths (nI S)]
  refine Exists.intro [55, 56, 57, 58, 59] (Exists.intro [.ref 0] (Exists.intro (sw dys hos rms ths (nI S)) (Exists.intro 0 (Exists.intro 0 (And.intro ⟨rfl, rfl, Nat.le_of_ble_eq_true rfl, rfl, rfl, rfl, ⟨0, _, rfl, rfl⟩⟩ (And.intro (Nat.le_refl _) (And.intro (Nat.le_refl _) ?_)))))))
  refine t_sclear ?_
  rw [p_si dys hos rms ths 0]
  exact fin0 (hQ)
end DY
