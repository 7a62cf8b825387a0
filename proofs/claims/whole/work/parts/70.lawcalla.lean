/-! THE LAW: each of its calls -/
section LC
variable {L i : Nat} {xs : Nat → Int32} {h hm : List aC} {x y v w u : Int32}
theorem lc_0 (r : RW h hm) (hi : i + 6 ≤ L) (hL : L ≤ 384) (nx : ∀ h hm, RW h hm → wp (600000, 7302250, callok 8) (k_law L xs) QL 1025 [some (.retAddr 0), some (.ref 0), some (.ref 72), some (.int (nI i))] [] (h ++ shW 72 hm) 91 1766) : wp (600000, 7302250, callok 8) (k_law L xs) QL 172 [some (.retAddr 0), some (.ref 0), some (.ref 72), some (.int (nI i))] [] (h ++ shW 72 hm) 91 1766 := by
  obtain ⟨f6, h6⟩ := r.h6
  obtain ⟨f7, h7⟩ := r.h7
  have hx := r.xc
  obtain ⟨hl, hy⟩ := r.ym
  refine gl_1 [1025] ?_
  refine Exists.intro (i + 1) (And.intro (show nI i + 1 = nI (i + 1) by rw [show (1 : Int32) = nI 1 from rfl, nI_add]) (And.intro ⟨rfl, by omega, hL⟩ ?_))
  refine Exists.intro [0, 1, 2, 3, 4, 5, 6, 7, 8, 9, 10, 11, 12, 13, 14, 15, 16, 17, 18, 19, 20, 21, 22, 23, 24, 25, 26, 27, 28, 29, 30, 31, 32, 33, 34, 35, 36, 37, 38, 39, 40, 41, 42, 43, 44, 45, 46, 47, 48, 49, 50, 51, 52, 53, 54, 55, 56, 57, 58, 59, 60, 61, 62, 63, 64, 65, 66, 67, 68, 69, 70, 71] (Exists.intro [.ref 0, .int (xs (i + 1))] (Exists.intro h (Exists.intro 0 (Exists.intro 0 (And.intro ⟨rfl, rfl, (Nat.le_of_ble_eq_true rfl), rfl, lx_all hx hl, lx_get hx hl, ⟨0, f6, rfl, h6⟩⟩ (And.intro (Nat.le_of_ble_eq_true rfl) (And.intro (Nat.le_of_ble_eq_true rfl) ?_)))))))
  refine monoC 8 80 0 0 _ _ _ _ (fun v h' hq => ?_) (rs_0 r)
  obtain ⟨z, rfl, hx', hcm⟩ := hq
  rw [lx_put hx hl hx']
  refine Exists.intro (i + 1) (And.intro (show nI i + 1 = nI (i + 1) by rw [show (1 : Int32) = nI 1 from rfl, nI_add]) (And.intro ⟨rfl, by omega, hL⟩ ?_))
  refine Exists.intro [72, 73, 74, 75, 76, 77, 78, 79, 80, 81, 82, 83, 84, 85, 86, 87, 88, 89, 90] (Exists.intro [.ref 0, .int (xs (i + 1))] (Exists.intro hm (Exists.intro 0 (Exists.intro 0 (And.intro ⟨rfl, rfl, (Nat.le_of_ble_eq_true rfl), rfl, lm_all hx' hl, lm_get hx' hl hy, ⟨0, f7, rfl, h7⟩⟩ (And.intro (Nat.le_of_ble_eq_true rfl) (And.intro (Nat.le_of_ble_eq_true rfl) ?_)))))))
  refine monoC 8 124 0 0 _ _ _ _ (fun v hm' hq => ?_) hcm
  obtain ⟨rfl, r'⟩ := hq
  rw [lm_put hx' hl r'.ym.1 r'.ym.2]
  refine br_t rfl ?_
  exact nx h' hm' r'
theorem lc_1 (r : RW h hm) (hi : i + 6 ≤ L) (hL : L ≤ 384) (nx : ∀ h hm, RW h hm → wp (600000, 7302250, callok 8) (k_law L xs) QL 1025 [some (.retAddr 0), some (.ref 0), some (.ref 72), some (.int (nI i))] [] (h ++ shW 72 hm) 91 1766) : wp (600000, 7302250, callok 8) (k_law L xs) QL 195 [some (.retAddr 0), some (.ref 0), some (.ref 72), some (.int (nI i))] [] (h ++ shW 72 hm) 91 1766 := by
  obtain ⟨f6, h6⟩ := r.h6
  obtain ⟨f7, h7⟩ := r.h7
  have hx := r.xc
  obtain ⟨hl, hy⟩ := r.ym
  refine gl_2 [1025] ?_
  refine Exists.intro [0, 1, 2, 3, 4, 5, 6, 7, 8, 9, 10, 11, 12, 13, 14, 15, 16, 17, 18, 19, 20, 21, 22, 23, 24, 25, 26, 27, 28, 29, 30, 31, 32, 33, 34, 35, 36, 37, 38, 39, 40, 41, 42, 43, 44, 45, 46, 47, 48, 49, 50, 51, 52, 53, 54, 55, 56, 57, 58, 59, 60, 61, 62, 63, 64, 65, 66, 67, 68, 69, 70, 71] (Exists.intro [.ref 0] (Exists.intro h (Exists.intro 0 (Exists.intro 0 (And.intro ⟨rfl, rfl, (Nat.le_of_ble_eq_true rfl), rfl, lx_all hx hl, lx_get hx hl, ⟨0, f6, rfl, h6⟩⟩ (And.intro (Nat.le_of_ble_eq_true rfl) (And.intro (Nat.le_of_ble_eq_true rfl) ?_)))))))
  refine monoC 8 81 0 0 _ _ _ _ (fun v h' hq => ?_) (rs_1 r)
  obtain ⟨z, rfl, hx', hcm⟩ := hq
  rw [lx_put hx hl hx']
  refine Exists.intro [72, 73, 74, 75, 76, 77, 78, 79, 80, 81, 82, 83, 84, 85, 86, 87, 88, 89, 90] (Exists.intro [.ref 0] (Exists.intro hm (Exists.intro 0 (Exists.intro 0 (And.intro ⟨rfl, rfl, (Nat.le_of_ble_eq_true rfl), rfl, lm_all hx' hl, lm_get hx' hl hy, ⟨0, f7, rfl, h7⟩⟩ (And.intro (Nat.le_of_ble_eq_true rfl) (And.intro (Nat.le_of_ble_eq_true rfl) ?_)))))))
  refine monoC 8 125 0 0 _ _ _ _ (fun v hm' hq => ?_) hcm
  obtain ⟨rfl, r'⟩ := hq
  rw [lm_put hx' hl r'.ym.1 r'.ym.2]
  refine br_t rfl ?_
  exact nx h' hm' r'
theorem lc_2 (r : RW h hm) (hi : i + 6 ≤ L) (hL : L ≤ 384) (nx : ∀ h hm, RW h hm → wp (600000, 7302250, callok 8) (k_law L xs) QL 1025 [some (.retAddr 0), some (.ref 0), some (.ref 72), some (.int (nI i))] [] (h ++ shW 72 hm) 91 1766) : wp (600000, 7302250, callok 8) (k_law L xs) QL 208 [some (.retAddr 0), some (.ref 0), some (.ref 72), some (.int (nI i))] [] (h ++ shW 72 hm) 91 1766 := by
  obtain ⟨f6, h6⟩ := r.h6
  obtain ⟨f7, h7⟩ := r.h7
  have hx := r.xc
  obtain ⟨hl, hy⟩ := r.ym
  refine gl_3 [1025] ?_
  refine Exists.intro [0, 1, 2, 3, 4, 5, 6, 7, 8, 9, 10, 11, 12, 13, 14, 15, 16, 17, 18, 19, 20, 21, 22, 23, 24, 25, 26, 27, 28, 29, 30, 31, 32, 33, 34, 35, 36, 37, 38, 39, 40, 41, 42, 43, 44, 45, 46, 47, 48, 49, 50, 51, 52, 53, 54, 55, 56, 57, 58, 59, 60, 61, 62, 63, 64, 65, 66, 67, 68, 69, 70, 71] (Exists.intro [.ref 0] (Exists.intro h (Exists.intro 0 (Exists.intro 0 (And.intro ⟨rfl, rfl, (Nat.le_of_ble_eq_true rfl), rfl, lx_all hx hl, lx_get hx hl, ⟨0, f6, rfl, h6⟩⟩ (And.intro (Nat.le_of_ble_eq_true rfl) (And.intro (Nat.le_of_ble_eq_true rfl) ?_)))))))
  refine monoC 8 82 0 0 _ _ _ _ (fun v h' hq => ?_) (rs_2 r)
  obtain ⟨z, rfl, hx', hcm⟩ := hq
  rw [lx_put hx hl hx']
  refine Exists.intro [72, 73, 74, 75, 76, 77, 78, 79, 80, 81, 82, 83, 84, 85, 86, 87, 88, 89, 90] (Exists.intro [.ref 0] (Exists.intro hm (Exists.intro 0 (Exists.intro 0 (And.intro ⟨rfl, rfl, (Nat.le_of_ble_eq_true rfl), rfl, lm_all hx' hl, lm_get hx' hl hy, ⟨0, f7, rfl, h7⟩⟩ (And.intro (Nat.le_of_ble_eq_true rfl) (And.intro (Nat.le_of_ble_eq_true rfl) ?_)))))))
  refine monoC 8 133 0 0 _ _ _ _ (fun v hm' hq => ?_) hcm
  obtain ⟨rfl, r'⟩ := hq
  rw [lm_put hx' hl r'.ym.1 r'.ym.2]
  refine br_t rfl ?_
  exact nx h' hm' r'
theorem lc_3 (r : RW h hm) (hi : i + 6 ≤ L) (hL : L ≤ 384) (nx : ∀ h hm, RW h hm → wp (600000, 7302250, callok 8) (k_law L xs) QL 1025 [some (.retAddr 0), some (.ref 0), some (.ref 72), some (.int (nI i))] [] (h ++ shW 72 hm) 91 1766) : wp (600000, 7302250, callok 8) (k_law L xs) QL 221 [some (.retAddr 0), some (.ref 0), some (.ref 72), some (.int (nI i))] [] (h ++ shW 72 hm) 91 1766 := by
  obtain ⟨f6, h6⟩ := r.h6
  obtain ⟨f7, h7⟩ := r.h7
  have hx := r.xc
  obtain ⟨hl, hy⟩ := r.ym
  refine gl_4 [1025] ?_
  refine Exists.intro [0, 1, 2, 3, 4, 5, 6, 7, 8, 9, 10, 11, 12, 13, 14, 15, 16, 17, 18, 19, 20, 21, 22, 23, 24, 25, 26, 27, 28, 29, 30, 31, 32, 33, 34, 35, 36, 37, 38, 39, 40, 41, 42, 43, 44, 45, 46, 47, 48, 49, 50, 51, 52, 53, 54, 55, 56, 57, 58, 59, 60, 61, 62, 63, 64, 65, 66, 67, 68, 69, 70, 71] (Exists.intro [.ref 0] (Exists.intro h (Exists.intro 0 (Exists.intro 0 (And.intro ⟨rfl, rfl, (Nat.le_of_ble_eq_true rfl), rfl, lx_all hx hl, lx_get hx hl, ⟨0, f6, rfl, h6⟩⟩ (And.intro (Nat.le_of_ble_eq_true rfl) (And.intro (Nat.le_of_ble_eq_true rfl) ?_)))))))
  refine monoC 8 83 0 0 _ _ _ _ (fun v h' hq => ?_) (rs_3 r)
  obtain ⟨z, rfl, hx', hcm⟩ := hq
  rw [lx_put hx hl hx']
  refine Exists.intro [72, 73, 74, 75, 76, 77, 78, 79, 80, 81, 82, 83, 84, 85, 86, 87, 88, 89, 90] (Exists.intro [.ref 0] (Exists.intro hm (Exists.intro 0 (Exists.intro 0 (And.intro ⟨rfl, rfl, (Nat.le_of_ble_eq_true rfl), rfl, lm_all hx' hl, lm_get hx' hl hy, ⟨0, f7, rfl, h7⟩⟩ (And.intro (Nat.le_of_ble_eq_true rfl) (And.intro (Nat.le_of_ble_eq_true rfl) ?_)))))))
  refine monoC 8 134 0 0 _ _ _ _ (fun v hm' hq => ?_) hcm
  obtain ⟨rfl, r'⟩ := hq
  rw [lm_put hx' hl r'.ym.1 r'.ym.2]
  refine br_t rfl ?_
  exact nx h' hm' r'
end LC
