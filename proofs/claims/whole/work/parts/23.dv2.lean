/-! DOLLSVOTE: acts -/
def pm (n S : Nat) (p : Nat → Nat) : Nat → Nat := if S < n then p else rot n p
def pj (n S : Nat) (p : Nat → Nat) : Nat := if S < n then p S else p 0
def ps (n S : Nat) : Nat := if S < n then S + 1 else n
theorem pm_lt {n S : Nat} {p : Nat → Nat} (hp : ∀ i, i < n → p i < n) : ∀ i, i < n → pm n S p i < n := by
  unfold pm
  split
  · exact hp
  · exact rot_lt hp
theorem ps_le {n S : Nat} : ps n S ≤ n := by
  unfold ps
  split <;> omega
theorem rho_pa : ∀ j, j < 8 → rho [11, 12, 13, 14, 15, 16, 17, 18, 19, 20, 21, 22, 23, 24, 25, 26, 27, 28, 29, 30, 31, 32, 33, 34, 35, 36, 37, 38, 39, 40, 41, 42, 43, 44, 3, 4, 5, 6] 72 (2 + 4 * j) = 13 + 4 * j := by decide
theorem rho_pb : ∀ j, j < 8 → rho [11, 12, 13, 14, 15, 16, 17, 18, 19, 20, 21, 22, 23, 24, 25, 26, 27, 28, 29, 30, 31, 32, 33, 34, 35, 36, 37, 38, 39, 40, 41, 42, 43, 44] 72 (2 + 4 * j) = 13 + 4 * j := by decide
theorem rho_ka : ∀ j, j < 2 → rho [45, 46, 47, 48, 49, 50, 51, 52, 53, 54, 3, 4, 5, 6] 72 (2 + 4 * j) = 47 + 4 * j := by decide
theorem rho_kb : ∀ j, j < 2 → rho [45, 46, 47, 48, 49, 50, 51, 52, 53, 54] 72 (2 + 4 * j) = 47 + 4 * j := by decide
theorem rho_a8 : ∀ j, j < 8 → rho [0, 1, 2, 3, 4, 5, 6, 7, 8, 9, 10, 11, 12, 13, 14, 15, 16, 17, 18, 19, 20, 21, 22, 23, 24, 25, 26, 27, 28, 29, 30, 31, 32, 33, 34, 35, 36, 37, 38, 39, 40, 41, 42, 43, 44, 45, 46, 47, 48, 49, 50, 51, 52, 53, 54, 55, 56, 57, 58, 59, 60, 61, 62, 63, 64, 65, 66, 67, 68, 69, 70, 71] 72 (13 + 4 * j) = 13 + 4 * j := by decide
theorem rho_a2 : ∀ j, j < 2 → rho [0, 1, 2, 3, 4, 5, 6, 7, 8, 9, 10, 11, 12, 13, 14, 15, 16, 17, 18, 19, 20, 21, 22, 23, 24, 25, 26, 27, 28, 29, 30, 31, 32, 33, 34, 35, 36, 37, 38, 39, 40, 41, 42, 43, 44, 45, 46, 47, 48, 49, 50, 51, 52, 53, 54, 55, 56, 57, 58, 59, 60, 61, 62, 63, 64, 65, 66, 67, 68, 69, 70, 71] 72 (47 + 4 * j) = 47 + 4 * j := by decide
theorem e8 {p : Nat → Nat} (hp : ∀ i, i < 8 → p i < 8) : gM [11, 12, 13, 14, 15, 16, 17, 18, 19, 20, 21, 22, 23, 24, 25, 26, 27, 28, 29, 30, 31, 32, 33, 34, 35, 36, 37, 38, 39, 40, 41, 42, 43, 44, 3, 4, 5, 6] 72 (gP 2 8 p) = gP 13 8 p := gP_map rho_pa hp
theorem e8b {p : Nat → Nat} (hp : ∀ i, i < 8 → p i < 8) : gM [11, 12, 13, 14, 15, 16, 17, 18, 19, 20, 21, 22, 23, 24, 25, 26, 27, 28, 29, 30, 31, 32, 33, 34, 35, 36, 37, 38, 39, 40, 41, 42, 43, 44] 72 (gP 2 8 p) = gP 13 8 p := gP_map rho_pb hp
theorem e2 {p : Nat → Nat} (hp : ∀ i, i < 2 → p i < 2) : gM [45, 46, 47, 48, 49, 50, 51, 52, 53, 54, 3, 4, 5, 6] 72 (gP 2 2 p) = gP 47 2 p := gP_map rho_ka hp
theorem e2b {p : Nat → Nat} (hp : ∀ i, i < 2 → p i < 2) : gM [45, 46, 47, 48, 49, 50, 51, 52, 53, 54] 72 (gP 2 2 p) = gP 47 2 p := gP_map rho_kb hp
theorem e8a {p : Nat → Nat} (hp : ∀ i, i < 8 → p i < 8) : gM [0, 1, 2, 3, 4, 5, 6, 7, 8, 9, 10, 11, 12, 13, 14, 15, 16, 17, 18, 19, 20, 21, 22, 23, 24, 25, 26, 27, 28, 29, 30, 31, 32, 33, 34, 35, 36, 37, 38, 39, 40, 41, 42, 43, 44, 45, 46, 47, 48, 49, 50, 51, 52, 53, 54, 55, 56, 57, 58, 59, 60, 61, 62, 63, 64, 65, 66, 67, 68, 69, 70, 71] 72 (gP 13 8 p) = gP 13 8 p := gP_map rho_a8 hp
theorem e2a {p : Nat → Nat} (hp : ∀ i, i < 2 → p i < 2) : gM [0, 1, 2, 3, 4, 5, 6, 7, 8, 9, 10, 11, 12, 13, 14, 15, 16, 17, 18, 19, 20, 21, 22, 23, 24, 25, 26, 27, 28, 29, 30, 31, 32, 33, 34, 35, 36, 37, 38, 39, 40, 41, 42, 43, 44, 45, 46, 47, 48, 49, 50, 51, 52, 53, 54, 55, 56, 57, 58, 59, 60, 61, 62, 63, 64, 65, 66, 67, 68, 69, 70, 71] 72 (gP 47 2 p) = gP 47 2 p := gP_map rho_a2 hp
theorem in1 {x m : Int32} {n : Nat} (hm : m.toInt = (n : Int)) (h1 : ¬ x < 1) (h2 : ¬ m < x) : ∃ j, 1 ≤ j ∧ j ≤ n ∧ x = nI j := by
  obtain ⟨j, hj, rfl⟩ := nI_of2 hm (fun z => h1 (Int32.lt_trans z (by decide))) (Int32.not_lt.mp h2)
  refine ⟨j, ?_, hj, rfl⟩
  rcases Nat.eq_zero_or_pos j with rfl | h
  · exact absurd (by decide) h1
  · exact h
section DW
variable {d : Nat} {kd th wi tx : Nat → Int32} {dy : Int32} {H R M L S8 S2 S a b n : Nat} {x y v w u : Int32} {T1 T3 T0 N : NV} {p8 p2 p : Nat → Nat} {P8 P2 P : Nat → NV} {dys hos rms ths mby vby : Nat → Int32} {Q : Option Value → List aC → Prop}
theorem t_push8 (hp : ∀ i, i < 8 → p i < 8) (hS : S ≤ 8) (hQ : Q none (pw8 (gP 2 8 (pm 8 S p)) (nI (ps 8 S)) (updN P (pj 8 S p) N) (nv 34 N))) : callok (d + 2) 69 0 0 [.ref 0, .ref 34] (pw8 (gP 2 8 p) (nI S) P (nv 34 N)) Q := by
  refine t_put8 hp hS (fun c => ?_) (fun c => ?_)
  · unfold pm ps pj at hQ
    rw [if_pos c, if_pos c, if_pos c] at hQ
    exact hQ
  · unfold pm ps pj at hQ
    rw [if_neg c, if_neg c, if_neg c] at hQ
    exact hQ
theorem x_pass (hp : ∀ i, i < 8 → p8 i < 8) (hS8 : S8 ≤ 8) (hH : H ≤ 6) (hR : R ≤ 5) (h0 : 0 < H) (hM : M < 64) (hB : ¬ (¬ x < 1 ∧ ¬ 20 < x) → Q (some (.int (-1))) (xw tx (nI L) (kd, th, wi, nI H, nI R, nI M, dy) T1 (gP 13 8 p8) (nI S8) P8 (gP 47 2 p2) (nI S2) P2 dys hos rms ths (nI S) T3 mby vby T0)) (hN : ∀ n, 1 ≤ n → n ≤ 20 → x = nI n → 999 < dy + nI n → Q (some (.int (-2))) (xw tx (nI L) (kd, th, wi, nI H, nI R, nI M, dy) T1 (gP 13 8 p8) (nI S8) P8 (gP 47 2 p2) (nI S2) P2 dys hos rms ths (nI S) T3 mby vby T0)) (hT : ∀ n, 1 ≤ n → n ≤ 20 → x = nI n → ¬ 999 < dy + nI n → Q (some (.int (dy + nI n))) (xw tx (nI L) (kd, itT kd M H R n th, wi, nI H, nI R, nI M, dy + nI n) T1 (gP 13 8 (pm 8 S8 p8)) (nI (ps 8 S8)) (updN P8 (pj 8 S8 p8) (kd, th, wi, nI H, nI R, nI M, dy)) (gP 47 2 p2) (nI S2) P2 dys hos rms ths (nI S) T3 mby vby T0)) : callok (d + 6) 87 0 0 [.ref 0, .int x] (xw tx (nI L) (kd, th, wi, nI H, nI R, nI M, dy) T1 (gP 13 8 p8) (nI S8) P8 (gP 47 2 p2) (nI S2) P2 dys hos rms ths (nI S) T3 mby vby T0) Q := by
  refine beg rfl (gs [] ?_)
  refine Exists.intro [] (Exists.intro [.int x, .int 1, .int 20] (Exists.intro ([]) (Exists.intro 0 (Exists.intro 0 (And.intro ⟨rfl, rfl, Nat.le_of_ble_eq_true rfl, rfl, rfl, rfl, trivial⟩ (And.intro (Nat.le_refl _) (And.intro (Nat.le_refl _) ?_)))))))
  refine t_within (fun c c2 => ?_) (fun c => ?_)
  · rw [p_nil]
    refine br_f ((by decide)) ?_
    obtain ⟨n, hn1, hn, rfl⟩ := in1 (m := 20) (n := 20) rfl c c2
    refine Exists.intro [3, 4, 5, 6] (Exists.intro [.ref 0] (Exists.intro (nc 0 kd th wi (nI H) (nI R) (nI M) dy) (Exists.intro 0 (Exists.intro 0 (And.intro ⟨rfl, rfl, Nat.le_of_ble_eq_true rfl, rfl, rfl, rfl, ⟨0, _, rfl, rfl⟩⟩ (And.intro (Nat.le_refl _) (And.intro (Nat.le_refl _) ?_)))))))
    refine t_day ?_
    rw [p_nw (kd, th, wi, nI H, nI R, nI M, dy)]
    refine br_c (fun c4 => ?_) (fun c4 => ?_)
    · exact fin0 (hN n hn1 hn rfl c4)
    · rw [← e8 hp]
      refine Exists.intro [11, 12, 13, 14, 15, 16, 17, 18, 19, 20, 21, 22, 23, 24, 25, 26, 27, 28, 29, 30, 31, 32, 33, 34, 35, 36, 37, 38, 39, 40, 41, 42, 43, 44, 3, 4, 5, 6] (Exists.intro [.ref 0, .ref 34] (Exists.intro (pw8 (gP 2 8 p8) (nI S8) P8 (nv 34 (kd, th, wi, nI H, nI R, nI M, dy))) (Exists.intro 0 (Exists.intro 0 (And.intro ⟨rfl, rfl, Nat.le_of_ble_eq_true rfl, rfl, rfl, rfl, ⟨0, _, rfl, rfl⟩⟩ (And.intro (Nat.le_refl _) (And.intro (Nat.le_refl _) ?_)))))))
      refine t_push8 hp hS8 ?_
      rw [p_panw (gP 2 8 (pm 8 S8 p8)) (nI (ps 8 S8)) (updN P8 (pj 8 S8 p8) (kd, th, wi, nI H, nI R, nI M, dy)) (kd, th, wi, nI H, nI R, nI M, dy), e8 (pm_lt hp)]
      refine Exists.intro [3, 4, 5, 6] (Exists.intro [.ref 0, .int (nI n)] (Exists.intro (nc 0 kd th wi (nI H) (nI R) (nI M) dy) (Exists.intro 0 (Exists.intro 0 (And.intro ⟨rfl, rfl, Nat.le_of_ble_eq_true rfl, rfl, rfl, rfl, ⟨0, _, rfl, rfl⟩⟩ (And.intro (Nat.le_refl _) (And.intro (Nat.le_refl _) ?_)))))))
      refine t_live rfl (by omega) hM h0 hH hR ?_
      rw [p_nw (kd, itT kd M H R n th, wi, nI H, nI R, nI M, dy)]
      refine Exists.intro [3, 4, 5, 6] (Exists.intro [.ref 0, .int (nI n)] (Exists.intro (nv 0 (kd, itT kd M H R n th, wi, nI H, nI R, nI M, dy)) (Exists.intro 0 (Exists.intro 0 (And.intro ⟨rfl, rfl, Nat.le_of_ble_eq_true rfl, rfl, rfl, rfl, ⟨0, _, rfl, rfl⟩⟩ (And.intro (Nat.le_refl _) (And.intro (Nat.le_refl _) ?_)))))))
      refine t_addDays ?_
      rw [p_nw (kd, itT kd M H R n th, wi, nI H, nI R, nI M, dy + nI n)]
      refine Exists.intro [3, 4, 5, 6] (Exists.intro [.ref 0] (Exists.intro (nv 0 (kd, itT kd M H R n th, wi, nI H, nI R, nI M, dy + nI n)) (Exists.intro 0 (Exists.intro 0 (And.intro ⟨rfl, rfl, Nat.le_of_ble_eq_true rfl, rfl, rfl, rfl, ⟨0, _, rfl, rfl⟩⟩ (And.intro (Nat.le_refl _) (And.intro (Nat.le_refl _) ?_)))))))
      refine t_day ?_
      rw [p_nw (kd, itT kd M H R n th, wi, nI H, nI R, nI M, dy + nI n)]
      exact fin0 (hT n hn1 hn rfl c4)
  · rw [p_nil]
    refine br_t ((rfl)) ?_
    exact fin0 (hB c)
theorem x_pin (hp : ∀ i, i < 8 → p8 i < 8) (hS8 : S8 ≤ 8) (hH : H ≤ 6) (hR : R ≤ 5) (hF : ¬ (inR x H ∧ inR y R ∧ ¬ v < 0 ∧ ¬ 9 < v) → Q (some (.int (-1))) (xw tx (nI L) (kd, th, wi, nI H, nI R, nI M, dy) T1 (gP 13 8 p8) (nI S8) P8 (gP 47 2 p2) (nI S2) P2 dys hos rms ths (nI S) T3 mby vby T0)) (hN : ∀ a b, a < H → b < R → x = nI a → y = nI b → (¬ v < 0 ∧ ¬ 9 < v) → th (5 * a + b) = v → Q (some (.int (-2))) (xw tx (nI L) (kd, th, wi, nI H, nI R, nI M, dy) T1 (gP 13 8 p8) (nI S8) P8 (gP 47 2 p2) (nI S2) P2 dys hos rms ths (nI S) T3 mby vby T0)) (hT : ∀ a b, a < H → b < R → x = nI a → y = nI b → (¬ v < 0 ∧ ¬ 9 < v) → ¬ th (5 * a + b) = v → Q (some (.int (th (5 * a + b)))) (xw tx (nI L) (kd, upd th (5 * a + b) v, wi, nI H, nI R, nI M, dy) T1 (gP 13 8 (pm 8 S8 p8)) (nI (ps 8 S8)) (updN P8 (pj 8 S8 p8) (kd, th, wi, nI H, nI R, nI M, dy)) (gP 47 2 p2) (nI S2) P2 dys hos rms ths (nI S) T3 mby vby T0)) : callok (d + 3) 88 0 0 [.ref 0, .int x, .int y, .int v] (xw tx (nI L) (kd, th, wi, nI H, nI R, nI M, dy) T1 (gP 13 8 p8) (nI S8) P8 (gP 47 2 p2) (nI S2) P2 dys hos rms ths (nI S) T3 mby vby T0) Q := by
  refine beg rfl (gs [] ?_)
  refine Exists.intro [3, 4, 5, 6] (Exists.intro [.ref 0, .int x] (Exists.intro (nc 0 kd th wi (nI H) (nI R) (nI M) dy) (Exists.intro 0 (Exists.intro 0 (And.intro ⟨rfl, rfl, Nat.le_of_ble_eq_true rfl, rfl, rfl, rfl, ⟨0, _, rfl, rfl⟩⟩ (And.intro (Nat.le_refl _) (And.intro (Nat.le_refl _) ?_)))))))
  refine t_hasHouse (fun c => ?_) (fun c => ?_)
  · rw [p_nw (kd, th, wi, nI H, nI R, nI M, dy)]
    refine br_f ((by decide)) ?_
    refine Exists.intro [3, 4, 5, 6] (Exists.intro [.ref 0, .int y] (Exists.intro (nc 0 kd th wi (nI H) (nI R) (nI M) dy) (Exists.intro 0 (Exists.intro 0 (And.intro ⟨rfl, rfl, Nat.le_of_ble_eq_true rfl, rfl, rfl, rfl, ⟨0, _, rfl, rfl⟩⟩ (And.intro (Nat.le_refl _) (And.intro (Nat.le_refl _) ?_)))))))
    refine t_hasRoom (fun c2 => ?_) (fun c2 => ?_)
    · rw [p_nw (kd, th, wi, nI H, nI R, nI M, dy)]
      refine br_f ((by decide)) ?_
      refine Exists.intro [] (Exists.intro [.int v] (Exists.intro ([]) (Exists.intro 0 (Exists.intro 0 (And.intro ⟨rfl, rfl, Nat.le_of_ble_eq_true rfl, rfl, rfl, rfl, trivial⟩ (And.intro (Nat.le_refl _) (And.intro (Nat.le_refl _) ?_)))))))
      refine t_isThing (fun c3 c4 => ?_) (fun c3 => ?_)
      · rw [p_nil]
        refine br_f ((by decide)) ?_
        obtain ⟨a, ha, rfl⟩ := inR_of c (by omega)
        obtain ⟨b, hb, rfl⟩ := inR_of c2 (by omega)
        refine Exists.intro [3, 4, 5, 6] (Exists.intro [.ref 0, .int (nI a), .int (nI b)] (Exists.intro (nc 0 kd th wi (nI H) (nI R) (nI M) dy) (Exists.intro 0 (Exists.intro 0 (And.intro ⟨rfl, rfl, Nat.le_of_ble_eq_true rfl, rfl, rfl, rfl, ⟨0, _, rfl, rfl⟩⟩ (And.intro (Nat.le_refl _) (And.intro (Nat.le_refl _) ?_)))))))
        refine t_thing rfl rfl (by omega) (by omega) ?_
        rw [p_nw (kd, th, wi, nI H, nI R, nI M, dy)]
        refine br_c (fun c5 => ?_) (fun c5 => ?_)
        · exact fin0 (hN a b ha hb rfl rfl ⟨c3, c4⟩ c5)
        · rw [← e8 hp]
          refine Exists.intro [11, 12, 13, 14, 15, 16, 17, 18, 19, 20, 21, 22, 23, 24, 25, 26, 27, 28, 29, 30, 31, 32, 33, 34, 35, 36, 37, 38, 39, 40, 41, 42, 43, 44, 3, 4, 5, 6] (Exists.intro [.ref 0, .ref 34] (Exists.intro (pw8 (gP 2 8 p8) (nI S8) P8 (nv 34 (kd, th, wi, nI H, nI R, nI M, dy))) (Exists.intro 0 (Exists.intro 0 (And.intro ⟨rfl, rfl, Nat.le_of_ble_eq_true rfl, rfl, rfl, rfl, ⟨0, _, rfl, rfl⟩⟩ (And.intro (Nat.le_refl _) (And.intro (Nat.le_refl _) ?_)))))))
          refine t_push8 hp hS8 ?_
          rw [p_panw (gP 2 8 (pm 8 S8 p8)) (nI (ps 8 S8)) (updN P8 (pj 8 S8 p8) (kd, th, wi, nI H, nI R, nI M, dy)) (kd, th, wi, nI H, nI R, nI M, dy), e8 (pm_lt hp)]
          refine Exists.intro [3, 4, 5, 6] (Exists.intro [.ref 0, .int (nI a), .int (nI b), .int v] (Exists.intro (nc 0 kd th wi (nI H) (nI R) (nI M) dy) (Exists.intro 0 (Exists.intro 0 (And.intro ⟨rfl, rfl, Nat.le_of_ble_eq_true rfl, rfl, rfl, rfl, ⟨0, _, rfl, rfl⟩⟩ (And.intro (Nat.le_refl _) (And.intro (Nat.le_refl _) ?_)))))))
          refine t_place rfl rfl (by omega) (by omega) ?_
          rw [p_nw (kd, upd th (5 * a + b) v, wi, nI H, nI R, nI M, dy)]
          exact fin0 (hT a b ha hb rfl rfl ⟨c3, c4⟩ c5)
      · rw [p_nil]
        refine br_t ((rfl)) ?_
        exact fin0 (hF (fun z => c3 z.2.2))
    · rw [p_nw (kd, th, wi, nI H, nI R, nI M, dy)]
      refine br_t ((rfl)) ?_
      exact fin0 (hF (fun z => c2 z.2.1))
  · rw [p_nw (kd, th, wi, nI H, nI R, nI M, dy)]
    refine br_t ((rfl)) ?_
    exact fin0 (hF (fun z => c z.1))
theorem x_sneeze (hp : ∀ i, i < 8 → p8 i < 8) (hS8 : S8 ≤ 8) (hH : H ≤ 6) (hR : R ≤ 5) (h1 : 0 < R) (hF : ¬ inR x H → Q (some (.int (-1))) (xw tx (nI L) (kd, th, wi, nI H, nI R, nI M, dy) T1 (gP 13 8 p8) (nI S8) P8 (gP 47 2 p2) (nI S2) P2 dys hos rms ths (nI S) T3 mby vby T0)) (hT : ∀ a, a < H → x = nI a → Q (some (.int (shT th R a (5 * a + 0)))) (xw tx (nI L) (kd, shT th R a, wi, nI H, nI R, nI M, dy) T1 (gP 13 8 (pm 8 S8 p8)) (nI (ps 8 S8)) (updN P8 (pj 8 S8 p8) (kd, th, wi, nI H, nI R, nI M, dy)) (gP 47 2 p2) (nI S2) P2 dys hos rms ths (nI S) T3 mby vby T0)) : callok (d + 3) 89 0 0 [.ref 0, .int x] (xw tx (nI L) (kd, th, wi, nI H, nI R, nI M, dy) T1 (gP 13 8 p8) (nI S8) P8 (gP 47 2 p2) (nI S2) P2 dys hos rms ths (nI S) T3 mby vby T0) Q := by
  refine beg rfl (gs [] ?_)
  refine Exists.intro [3, 4, 5, 6] (Exists.intro [.ref 0, .int x] (Exists.intro (nc 0 kd th wi (nI H) (nI R) (nI M) dy) (Exists.intro 0 (Exists.intro 0 (And.intro ⟨rfl, rfl, Nat.le_of_ble_eq_true rfl, rfl, rfl, rfl, ⟨0, _, rfl, rfl⟩⟩ (And.intro (Nat.le_refl _) (And.intro (Nat.le_refl _) ?_)))))))
  refine t_hasHouse (fun c => ?_) (fun c => ?_)
  · rw [p_nw (kd, th, wi, nI H, nI R, nI M, dy)]
    refine br_f ((by decide)) ?_
    obtain ⟨a, ha, rfl⟩ := inR_of c (by omega)
    rw [← e8 hp]
    refine Exists.intro [11, 12, 13, 14, 15, 16, 17, 18, 19, 20, 21, 22, 23, 24, 25, 26, 27, 28, 29, 30, 31, 32, 33, 34, 35, 36, 37, 38, 39, 40, 41, 42, 43, 44, 3, 4, 5, 6] (Exists.intro [.ref 0, .ref 34] (Exists.intro (pw8 (gP 2 8 p8) (nI S8) P8 (nv 34 (kd, th, wi, nI H, nI R, nI M, dy))) (Exists.intro 0 (Exists.intro 0 (And.intro ⟨rfl, rfl, Nat.le_of_ble_eq_true rfl, rfl, rfl, rfl, ⟨0, _, rfl, rfl⟩⟩ (And.intro (Nat.le_refl _) (And.intro (Nat.le_refl _) ?_)))))))
    refine t_push8 hp hS8 ?_
    rw [p_panw (gP 2 8 (pm 8 S8 p8)) (nI (ps 8 S8)) (updN P8 (pj 8 S8 p8) (kd, th, wi, nI H, nI R, nI M, dy)) (kd, th, wi, nI H, nI R, nI M, dy), e8 (pm_lt hp)]
    refine Exists.intro [3, 4, 5, 6] (Exists.intro [.ref 0, .int (nI a)] (Exists.intro (nc 0 kd th wi (nI H) (nI R) (nI M) dy) (Exists.intro 0 (Exists.intro 0 (And.intro ⟨rfl, rfl, Nat.le_of_ble_eq_true rfl, rfl, rfl, rfl, ⟨0, _, rfl, rfl⟩⟩ (And.intro (Nat.le_refl _) (And.intro (Nat.le_refl _) ?_)))))))
    refine t_shift rfl (by omega) h1 hR ?_
    rw [p_nw (kd, shT th R a, wi, nI H, nI R, nI M, dy)]
    refine Exists.intro [3, 4, 5, 6] (Exists.intro [.ref 0, .int (nI a), .int 0] (Exists.intro (nv 0 (kd, shT th R a, wi, nI H, nI R, nI M, dy)) (Exists.intro 0 (Exists.intro 0 (And.intro ⟨rfl, rfl, Nat.le_of_ble_eq_true rfl, rfl, rfl, rfl, ⟨0, _, rfl, rfl⟩⟩ (And.intro (Nat.le_refl _) (And.intro (Nat.le_refl _) ?_)))))))
    refine t_thing (b := 0) rfl rfl (by omega) (by omega) ?_
    rw [p_nw (kd, shT th R a, wi, nI H, nI R, nI M, dy)]
    exact fin0 (hT a ha rfl)
  · rw [p_nw (kd, th, wi, nI H, nI R, nI M, dy)]
    refine br_t ((rfl)) ?_
    exact fin0 (hF c)
theorem x_setMouse (hp : ∀ i, i < 8 → p8 i < 8) (hS8 : S8 ≤ 8) (hH : H ≤ 6) (hM : M < 64) (hw : v = 0 ∨ v = 1) (hF : ¬ inR x H → Q (some (.int (-1))) (xw tx (nI L) (kd, th, wi, nI H, nI R, nI M, dy) T1 (gP 13 8 p8) (nI S8) P8 (gP 47 2 p2) (nI S2) P2 dys hos rms ths (nI S) T3 mby vby T0)) (hN : ∀ a, a < H → x = nI a → (M.testBit a = true ↔ v = 1) → Q (some (.int (-2))) (xw tx (nI L) (kd, th, wi, nI H, nI R, nI M, dy) T1 (gP 13 8 p8) (nI S8) P8 (gP 47 2 p2) (nI S2) P2 dys hos rms ths (nI S) T3 mby vby T0)) (hT : ∀ a, a < H → x = nI a → ¬ (M.testBit a = true ↔ v = 1) → Q (some (.int (nI (pop 10 (M ^^^ 2 ^ a))))) (xw tx (nI L) (kd, th, wi, nI H, nI R, nI (M ^^^ 2 ^ a), dy) T1 (gP 13 8 (pm 8 S8 p8)) (nI (ps 8 S8)) (updN P8 (pj 8 S8 p8) (kd, th, wi, nI H, nI R, nI M, dy)) (gP 47 2 p2) (nI S2) P2 dys hos rms ths (nI S) T3 mby vby T0)) : callok (d + 3) 111 0 0 [.ref 0, .int x, .int v] (xw tx (nI L) (kd, th, wi, nI H, nI R, nI M, dy) T1 (gP 13 8 p8) (nI S8) P8 (gP 47 2 p2) (nI S2) P2 dys hos rms ths (nI S) T3 mby vby T0) Q := by
  refine beg rfl (gs [] ?_)
  refine Exists.intro [3, 4, 5, 6] (Exists.intro [.ref 0, .int x] (Exists.intro (nc 0 kd th wi (nI H) (nI R) (nI M) dy) (Exists.intro 0 (Exists.intro 0 (And.intro ⟨rfl, rfl, Nat.le_of_ble_eq_true rfl, rfl, rfl, rfl, ⟨0, _, rfl, rfl⟩⟩ (And.intro (Nat.le_refl _) (And.intro (Nat.le_refl _) ?_)))))))
  refine t_hasHouse (fun c => ?_) (fun c => ?_)
  · rw [p_nw (kd, th, wi, nI H, nI R, nI M, dy)]
    refine br_f ((by decide)) ?_
    obtain ⟨a, ha, rfl⟩ := inR_of c (by omega)
    refine Exists.intro [3, 4, 5, 6] (Exists.intro [.ref 0, .int (nI a)] (Exists.intro (nc 0 kd th wi (nI H) (nI R) (nI M) dy) (Exists.intro 0 (Exists.intro 0 (And.intro ⟨rfl, rfl, Nat.le_of_ble_eq_true rfl, rfl, rfl, rfl, ⟨0, _, rfl, rfl⟩⟩ (And.intro (Nat.le_refl _) (And.intro (Nat.le_refl _) ?_)))))))
    refine t_hasMouse rfl (by omega) hM (fun c2 => ?_) (fun c2 => ?_)
    · rw [p_nw (kd, th, wi, nI H, nI R, nI M, dy)]
      refine br_c (fun c3 => ?_) (fun c3 => ?_)
      · exact fin0 (hN a ha rfl ⟨fun _ => c3.symm, fun _ => c2⟩)
      · rw [← e8 hp]
        refine Exists.intro [11, 12, 13, 14, 15, 16, 17, 18, 19, 20, 21, 22, 23, 24, 25, 26, 27, 28, 29, 30, 31, 32, 33, 34, 35, 36, 37, 38, 39, 40, 41, 42, 43, 44, 3, 4, 5, 6] (Exists.intro [.ref 0, .ref 34] (Exists.intro (pw8 (gP 2 8 p8) (nI S8) P8 (nv 34 (kd, th, wi, nI H, nI R, nI M, dy))) (Exists.intro 0 (Exists.intro 0 (And.intro ⟨rfl, rfl, Nat.le_of_ble_eq_true rfl, rfl, rfl, rfl, ⟨0, _, rfl, rfl⟩⟩ (And.intro (Nat.le_refl _) (And.intro (Nat.le_refl _) ?_)))))))
        refine t_push8 hp hS8 ?_
        rw [p_panw (gP 2 8 (pm 8 S8 p8)) (nI (ps 8 S8)) (updN P8 (pj 8 S8 p8) (kd, th, wi, nI H, nI R, nI M, dy)) (kd, th, wi, nI H, nI R, nI M, dy), e8 (pm_lt hp)]
        refine Exists.intro [3, 4, 5, 6] (Exists.intro [.ref 0, .int (nI a)] (Exists.intro (nc 0 kd th wi (nI H) (nI R) (nI M) dy) (Exists.intro 0 (Exists.intro 0 (And.intro ⟨rfl, rfl, Nat.le_of_ble_eq_true rfl, rfl, rfl, rfl, ⟨0, _, rfl, rfl⟩⟩ (And.intro (Nat.le_refl _) (And.intro (Nat.le_refl _) ?_)))))))
        refine t_toggleMouse rfl (by omega) hM ?_
        rw [p_nw (kd, th, wi, nI H, nI R, nI (M ^^^ 2 ^ a), dy)]
        refine Exists.intro [3, 4, 5, 6] (Exists.intro [.ref 0] (Exists.intro (nv 0 (kd, th, wi, nI H, nI R, nI (M ^^^ 2 ^ a), dy)) (Exists.intro 0 (Exists.intro 0 (And.intro ⟨rfl, rfl, Nat.le_of_ble_eq_true rfl, rfl, rfl, rfl, ⟨0, _, rfl, rfl⟩⟩ (And.intro (Nat.le_refl _) (And.intro (Nat.le_refl _) ?_)))))))
        refine t_mice (xor_64 M hM a (by omega)) ?_
        rw [p_nw (kd, th, wi, nI H, nI R, nI (M ^^^ 2 ^ a), dy)]
        exact fin0 (hT a ha rfl (fun z => c3 (z.mp c2).symm))
    · rw [p_nw (kd, th, wi, nI H, nI R, nI M, dy)]
      refine br_c (fun c3 => ?_) (fun c3 => ?_)
      · exact fin0 (hN a ha rfl ⟨fun z => absurd z c2, fun z => absurd (c3.trans z) (by decide)⟩)
      · rw [← e8 hp]
        refine Exists.intro [11, 12, 13, 14, 15, 16, 17, 18, 19, 20, 21, 22, 23, 24, 25, 26, 27, 28, 29, 30, 31, 32, 33, 34, 35, 36, 37, 38, 39, 40, 41, 42, 43, 44, 3, 4, 5, 6] (Exists.intro [.ref 0, .ref 34] (Exists.intro (pw8 (gP 2 8 p8) (nI S8) P8 (nv 34 (kd, th, wi, nI H, nI R, nI M, dy))) (Exists.intro 0 (Exists.intro 0 (And.intro ⟨rfl, rfl, Nat.le_of_ble_eq_true rfl, rfl, rfl, rfl, ⟨0, _, rfl, rfl⟩⟩ (And.intro (Nat.le_refl _) (And.intro (Nat.le_refl _) ?_)))))))
        refine t_push8 hp hS8 ?_
        rw [p_panw (gP 2 8 (pm 8 S8 p8)) (nI (ps 8 S8)) (updN P8 (pj 8 S8 p8) (kd, th, wi, nI H, nI R, nI M, dy)) (kd, th, wi, nI H, nI R, nI M, dy), e8 (pm_lt hp)]
        refine Exists.intro [3, 4, 5, 6] (Exists.intro [.ref 0, .int (nI a)] (Exists.intro (nc 0 kd th wi (nI H) (nI R) (nI M) dy) (Exists.intro 0 (Exists.intro 0 (And.intro ⟨rfl, rfl, Nat.le_of_ble_eq_true rfl, rfl, rfl, rfl, ⟨0, _, rfl, rfl⟩⟩ (And.intro (Nat.le_refl _) (And.intro (Nat.le_refl _) ?_)))))))
        refine t_toggleMouse rfl (by omega) hM ?_
        rw [p_nw (kd, th, wi, nI H, nI R, nI (M ^^^ 2 ^ a), dy)]
        refine Exists.intro [3, 4, 5, 6] (Exists.intro [.ref 0] (Exists.intro (nv 0 (kd, th, wi, nI H, nI R, nI (M ^^^ 2 ^ a), dy)) (Exists.intro 0 (Exists.intro 0 (And.intro ⟨rfl, rfl, Nat.le_of_ble_eq_true rfl, rfl, rfl, rfl, ⟨0, _, rfl, rfl⟩⟩ (And.intro (Nat.le_refl _) (And.intro (Nat.le_refl _) ?_)))))))
        refine t_mice (xor_64 M hM a (by omega)) ?_
        rw [p_nw (kd, th, wi, nI H, nI R, nI (M ^^^ 2 ^ a), dy)]
        exact fin0 (hT a ha rfl (fun z => c2 (z.mpr (hw.resolve_left (fun q => c3 q.symm)))))
  · rw [p_nw (kd, th, wi, nI H, nI R, nI M, dy)]
    refine br_t ((rfl)) ?_
    exact fin0 (hF c)
theorem x_want (hp : ∀ i, i < 8 → p8 i < 8) (hS8 : S8 ≤ 8) (hR : R ≤ 5) (hF : ¬ (inR x R ∧ ¬ y < 0 ∧ ¬ 10 < y) → Q (some (.int (-1))) (xw tx (nI L) (kd, th, wi, nI H, nI R, nI M, dy) T1 (gP 13 8 p8) (nI S8) P8 (gP 47 2 p2) (nI S2) P2 dys hos rms ths (nI S) T3 mby vby T0)) (hT : ∀ a, a < R → x = nI a → (¬ y < 0 ∧ ¬ 10 < y) → Q (some (.int (if wi a = 10 then -4 else wi a))) (xw tx (nI L) (kd, th, upd wi a y, nI H, nI R, nI M, dy) T1 (gP 13 8 (pm 8 S8 p8)) (nI (ps 8 S8)) (updN P8 (pj 8 S8 p8) (kd, th, wi, nI H, nI R, nI M, dy)) (gP 47 2 p2) (nI S2) P2 dys hos rms ths (nI S) T3 mby vby T0)) : callok (d + 3) 92 0 0 [.ref 0, .int x, .int y] (xw tx (nI L) (kd, th, wi, nI H, nI R, nI M, dy) T1 (gP 13 8 p8) (nI S8) P8 (gP 47 2 p2) (nI S2) P2 dys hos rms ths (nI S) T3 mby vby T0) Q := by
  refine beg rfl (gs [] ?_)
  refine Exists.intro [3, 4, 5, 6] (Exists.intro [.ref 0, .int x] (Exists.intro (nc 0 kd th wi (nI H) (nI R) (nI M) dy) (Exists.intro 0 (Exists.intro 0 (And.intro ⟨rfl, rfl, Nat.le_of_ble_eq_true rfl, rfl, rfl, rfl, ⟨0, _, rfl, rfl⟩⟩ (And.intro (Nat.le_refl _) (And.intro (Nat.le_refl _) ?_)))))))
  refine t_hasRoom (fun c => ?_) (fun c => ?_)
  · rw [p_nw (kd, th, wi, nI H, nI R, nI M, dy)]
    refine br_f ((by decide)) ?_
    refine Exists.intro [] (Exists.intro [.int y, .int 0, .int 10] (Exists.intro ([]) (Exists.intro 0 (Exists.intro 0 (And.intro ⟨rfl, rfl, Nat.le_of_ble_eq_true rfl, rfl, rfl, rfl, trivial⟩ (And.intro (Nat.le_refl _) (And.intro (Nat.le_refl _) ?_)))))))
    refine t_within (fun c2 c3 => ?_) (fun c2 => ?_)
    · rw [p_nil]
      refine br_f ((by decide)) ?_
      obtain ⟨a, ha, rfl⟩ := inR_of c (by omega)
      rw [← e8 hp]
      refine Exists.intro [11, 12, 13, 14, 15, 16, 17, 18, 19, 20, 21, 22, 23, 24, 25, 26, 27, 28, 29, 30, 31, 32, 33, 34, 35, 36, 37, 38, 39, 40, 41, 42, 43, 44, 3, 4, 5, 6] (Exists.intro [.ref 0, .ref 34] (Exists.intro (pw8 (gP 2 8 p8) (nI S8) P8 (nv 34 (kd, th, wi, nI H, nI R, nI M, dy))) (Exists.intro 0 (Exists.intro 0 (And.intro ⟨rfl, rfl, Nat.le_of_ble_eq_true rfl, rfl, rfl, rfl, ⟨0, _, rfl, rfl⟩⟩ (And.intro (Nat.le_refl _) (And.intro (Nat.le_refl _) ?_)))))))
      refine t_push8 hp hS8 ?_
      rw [p_panw (gP 2 8 (pm 8 S8 p8)) (nI (ps 8 S8)) (updN P8 (pj 8 S8 p8) (kd, th, wi, nI H, nI R, nI M, dy)) (kd, th, wi, nI H, nI R, nI M, dy), e8 (pm_lt hp)]
      refine Exists.intro [3, 4, 5, 6] (Exists.intro [.ref 0, .int (nI a)] (Exists.intro (nc 0 kd th wi (nI H) (nI R) (nI M) dy) (Exists.intro 0 (Exists.intro 0 (And.intro ⟨rfl, rfl, Nat.le_of_ble_eq_true rfl, rfl, rfl, rfl, ⟨0, _, rfl, rfl⟩⟩ (And.intro (Nat.le_refl _) (And.intro (Nat.le_refl _) ?_)))))))
      refine t_wish rfl ha hR ?_
      rw [p_nw (kd, th, wi, nI H, nI R, nI M, dy)]
      refine Exists.intro [3, 4, 5, 6] (Exists.intro [.ref 0, .int (nI a), .int y] (Exists.intro (nc 0 kd th wi (nI H) (nI R) (nI M) dy) (Exists.intro 0 (Exists.intro 0 (And.intro ⟨rfl, rfl, Nat.le_of_ble_eq_true rfl, rfl, rfl, rfl, ⟨0, _, rfl, rfl⟩⟩ (And.intro (Nat.le_refl _) (And.intro (Nat.le_refl _) ?_)))))))
      refine t_setWish rfl ha hR ?_
      rw [p_nw (kd, th, upd wi a y, nI H, nI R, nI M, dy)]
      refine Exists.intro [] (Exists.intro [.int (wi a)] (Exists.intro ([]) (Exists.intro 0 (Exists.intro 0 (And.intro ⟨rfl, rfl, Nat.le_of_ble_eq_true rfl, rfl, rfl, rfl, trivial⟩ (And.intro (Nat.le_refl _) (And.intro (Nat.le_refl _) ?_)))))))
      refine t_orNone ?_
      rw [p_nil]
      exact fin0 (hT a ha rfl ⟨c2, c3⟩)
    · rw [p_nil]
      refine br_t ((rfl)) ?_
      exact fin0 (hF (fun z => c2 z.2))
  · rw [p_nw (kd, th, wi, nI H, nI R, nI M, dy)]
    refine br_t ((rfl)) ?_
    exact fin0 (hF (fun z => c z.1))
theorem x_undo (hp : ∀ i, i < 8 → p8 i < 8) (hS8 : S8 ≤ 8) (hT : 0 < S8 → Q (some (.int (nI (S8 - 1)))) (xw tx (nI L) (P8 (p8 (S8 - 1))) T1 (gP 13 8 p8) (nI (S8 - 1)) P8 (gP 47 2 p2) (nI S2) P2 dys hos rms ths (nI S) T3 mby vby T0)) (hF : ¬ 0 < S8 → Q (some (.int (-2))) (xw tx (nI L) (kd, th, wi, nI H, nI R, nI M, dy) T1 (gP 13 8 p8) (nI S8) P8 (gP 47 2 p2) (nI S2) P2 dys hos rms ths (nI S) T3 mby vby T0)) : callok (d + 3) 93 0 0 [.ref 0] (xw tx (nI L) (kd, th, wi, nI H, nI R, nI M, dy) T1 (gP 13 8 p8) (nI S8) P8 (gP 47 2 p2) (nI S2) P2 dys hos rms ths (nI S) T3 mby vby T0) Q := by
  refine beg rfl (gs [] ?_)
  rw [← e8 hp]
  refine Exists.intro [11, 12, 13, 14, 15, 16, 17, 18, 19, 20, 21, 22, 23, 24, 25, 26, 27, 28, 29, 30, 31, 32, 33, 34, 35, 36, 37, 38, 39, 40, 41, 42, 43, 44, 3, 4, 5, 6] (Exists.intro [.ref 0, .ref 34] (Exists.intro (pw8 (gP 2 8 p8) (nI S8) P8 (nv 34 (kd, th, wi, nI H, nI R, nI M, dy))) (Exists.intro 0 (Exists.intro 0 (And.intro ⟨rfl, rfl, Nat.le_of_ble_eq_true rfl, rfl, rfl, rfl, ⟨0, _, rfl, rfl⟩⟩ (And.intro (Nat.le_refl _) (And.intro (Nat.le_refl _) ?_)))))))
  refine t_takeInto8 hp hS8 (fun c => ?_) (fun c => ?_)
  · rw [p_panw (gP 2 8 p8) (nI (S8 - 1)) P8 (P8 (p8 (S8 - 1))), e8 hp]
    refine br_f ((by decide)) ?_
    rw [← e8b hp]
    refine Exists.intro [11, 12, 13, 14, 15, 16, 17, 18, 19, 20, 21, 22, 23, 24, 25, 26, 27, 28, 29, 30, 31, 32, 33, 34, 35, 36, 37, 38, 39, 40, 41, 42, 43, 44] (Exists.intro [.ref 0] (Exists.intro (pw8 (gP 2 8 p8) (nI (S8 - 1)) P8 []) (Exists.intro 0 (Exists.intro 0 (And.intro ⟨rfl, rfl, Nat.le_of_ble_eq_true rfl, rfl, rfl, rfl, ⟨0, _, rfl, rfl⟩⟩ (And.intro (Nat.le_refl _) (And.intro (Nat.le_refl _) ?_)))))))
    refine t_psize8 ?_
    rw [p_pa (gP 2 8 p8) (nI (S8 - 1)) P8, e8b hp]
    exact fin0 (hT c)
  · rw [p_panw (gP 2 8 p8) (nI S8) P8 (kd, th, wi, nI H, nI R, nI M, dy), e8 hp]
    refine br_t ((rfl)) ?_
    exact fin0 (hF c)
theorem x_keep (hk : ∀ i, i < 2 → p2 i < 2) (hS2 : S2 ≤ 2) (hT : S2 < 2 → Q (some (.int (nI (S2 + 1)))) (xw tx (nI L) (kd, th, wi, nI H, nI R, nI M, dy) T1 (gP 13 8 p8) (nI S8) P8 (gP 47 2 p2) (nI (S2 + 1)) (updN P2 (p2 S2) (kd, th, wi, nI H, nI R, nI M, dy)) dys hos rms ths (nI S) T3 mby vby T0)) (hF : ¬ S2 < 2 → Q (some (.int (-3))) (xw tx (nI L) (kd, th, wi, nI H, nI R, nI M, dy) T1 (gP 13 8 p8) (nI S8) P8 (gP 47 2 p2) (nI S2) P2 dys hos rms ths (nI S) T3 mby vby T0)) : callok (d + 3) 108 0 0 [.ref 0] (xw tx (nI L) (kd, th, wi, nI H, nI R, nI M, dy) T1 (gP 13 8 p8) (nI S8) P8 (gP 47 2 p2) (nI S2) P2 dys hos rms ths (nI S) T3 mby vby T0) Q := by
  refine beg rfl (gs [] ?_)
  rw [← e2b hk]
  refine Exists.intro [45, 46, 47, 48, 49, 50, 51, 52, 53, 54] (Exists.intro [.ref 0] (Exists.intro (pw2 (gP 2 2 p2) (nI S2) P2 []) (Exists.intro 0 (Exists.intro 0 (And.intro ⟨rfl, rfl, Nat.le_of_ble_eq_true rfl, rfl, rfl, rfl, ⟨0, _, rfl, rfl⟩⟩ (And.intro (Nat.le_refl _) (And.intro (Nat.le_refl _) ?_)))))))
  refine t_isFull2 (fun c => ?_) (fun c => ?_) hS2
  · rw [p_ke (gP 2 2 p2) (nI S2) P2, e2b hk]
    refine br_f ((by decide)) ?_
    exact fin0 (hF c)
  · rw [p_ke (gP 2 2 p2) (nI S2) P2, e2b hk]
    refine br_t ((rfl)) ?_
    rw [← e2 hk]
    refine Exists.intro [45, 46, 47, 48, 49, 50, 51, 52, 53, 54, 3, 4, 5, 6] (Exists.intro [.ref 0, .ref 10] (Exists.intro (pw2 (gP 2 2 p2) (nI S2) P2 (nv 10 (kd, th, wi, nI H, nI R, nI M, dy))) (Exists.intro 0 (Exists.intro 0 (And.intro ⟨rfl, rfl, Nat.le_of_ble_eq_true rfl, rfl, rfl, rfl, ⟨0, _, rfl, rfl⟩⟩ (And.intro (Nat.le_refl _) (And.intro (Nat.le_refl _) ?_)))))))
    refine t_put2 hk hS2 (fun c => ?_) (fun c2 => absurd c c2)
    rw [p_kenw (gP 2 2 p2) (nI (S2 + 1)) (updN P2 (p2 S2) (kd, th, wi, nI H, nI R, nI M, dy)) (kd, th, wi, nI H, nI R, nI M, dy), e2 hk, ← e2b hk]
    refine Exists.intro [45, 46, 47, 48, 49, 50, 51, 52, 53, 54] (Exists.intro [.ref 0] (Exists.intro (pw2 (gP 2 2 p2) (nI (S2 + 1)) (updN P2 (p2 S2) (kd, th, wi, nI H, nI R, nI M, dy)) []) (Exists.intro 0 (Exists.intro 0 (And.intro ⟨rfl, rfl, Nat.le_of_ble_eq_true rfl, rfl, rfl, rfl, ⟨0, _, rfl, rfl⟩⟩ (And.intro (Nat.le_refl _) (And.intro (Nat.le_refl _) ?_)))))))
    refine t_psize2 ?_
    rw [p_ke (gP 2 2 p2) (nI (S2 + 1)) (updN P2 (p2 S2) (kd, th, wi, nI H, nI R, nI M, dy)), e2b hk]
    exact fin0 (hT c)
theorem x_back (hp : ∀ i, i < 8 → p8 i < 8) (hS8 : S8 ≤ 8) (hk : ∀ i, i < 2 → p2 i < 2) (hS2 : S2 ≤ 2) (hT : 0 < S2 → Q (some (.int (nI (S2 - 1)))) (xw tx (nI L) (P2 (p2 (S2 - 1))) T1 (gP 13 8 p8) 0 P8 (gP 47 2 p2) (nI (S2 - 1)) P2 dys hos rms ths (nI S) T3 mby vby T0)) (hF : ¬ 0 < S2 → Q (some (.int (-2))) (xw tx (nI L) (kd, th, wi, nI H, nI R, nI M, dy) T1 (gP 13 8 p8) (nI S8) P8 (gP 47 2 p2) (nI S2) P2 dys hos rms ths (nI S) T3 mby vby T0)) : callok (d + 3) 109 0 0 [.ref 0] (xw tx (nI L) (kd, th, wi, nI H, nI R, nI M, dy) T1 (gP 13 8 p8) (nI S8) P8 (gP 47 2 p2) (nI S2) P2 dys hos rms ths (nI S) T3 mby vby T0) Q := by
  refine beg rfl (gs [] ?_)
  rw [← e2 hk]
  refine Exists.intro [45, 46, 47, 48, 49, 50, 51, 52, 53, 54, 3, 4, 5, 6] (Exists.intro [.ref 0, .ref 10] (Exists.intro (pw2 (gP 2 2 p2) (nI S2) P2 (nv 10 (kd, th, wi, nI H, nI R, nI M, dy))) (Exists.intro 0 (Exists.intro 0 (And.intro ⟨rfl, rfl, Nat.le_of_ble_eq_true rfl, rfl, rfl, rfl, ⟨0, _, rfl, rfl⟩⟩ (And.intro (Nat.le_refl _) (And.intro (Nat.le_refl _) ?_)))))))
  refine t_takeInto2 hk hS2 (fun c => ?_) (fun c => ?_)
  · rw [p_kenw (gP 2 2 p2) (nI (S2 - 1)) P2 (P2 (p2 (S2 - 1))), e2 hk]
    refine br_f ((by decide)) ?_
    rw [← e8b hp]
    refine Exists.intro [11, 12, 13, 14, 15, 16, 17, 18, 19, 20, 21, 22, 23, 24, 25, 26, 27, 28, 29, 30, 31, 32, 33, 34, 35, 36, 37, 38, 39, 40, 41, 42, 43, 44] (Exists.intro [.ref 0] (Exists.intro (pw8 (gP 2 8 p8) (nI S8) P8 []) (Exists.intro 0 (Exists.intro 0 (And.intro ⟨rfl, rfl, Nat.le_of_ble_eq_true rfl, rfl, rfl, rfl, ⟨0, _, rfl, rfl⟩⟩ (And.intro (Nat.le_refl _) (And.intro (Nat.le_refl _) ?_)))))))
    refine t_pclear8 ?_
    rw [p_pa (gP 2 8 p8) 0 P8, e8b hp, ← e2b hk]
    refine Exists.intro [45, 46, 47, 48, 49, 50, 51, 52, 53, 54] (Exists.intro [.ref 0] (Exists.intro (pw2 (gP 2 2 p2) (nI (S2 - 1)) P2 []) (Exists.intro 0 (Exists.intro 0 (And.intro ⟨rfl, rfl, Nat.le_of_ble_eq_true rfl, rfl, rfl, rfl, ⟨0, _, rfl, rfl⟩⟩ (And.intro (Nat.le_refl _) (And.intro (Nat.le_refl _) ?_)))))))
    refine t_psize2 ?_
    rw [p_ke (gP 2 2 p2) (nI (S2 - 1)) P2, e2b hk]
    exact fin0 (hT c)
  · rw [p_kenw (gP 2 2 p2) (nI S2) P2 (kd, th, wi, nI H, nI R, nI M, dy), e2 hk]
    refine br_t ((rfl)) ?_
    exact fin0 (hF c)

end DW
