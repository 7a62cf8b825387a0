/-! THE LAW: each of its calls -/
section LC
variable {L i : Nat} {xs : Nat → Int32} {h hm : List aC} {x y v w u : Int32}
theorem lc_0 (r : RW h hm) (hi : i + 6 ≤ L) (hL : L ≤ 384) (nx : ∀ h hm, RW h hm → wp (600000, 7302250, callok 8) (k_law L xs) QL 1025 [some (.retAddr 0), some (.ref 0), some (.ref 72), some (.int (nI i))] [] (h ++ shW 72 hm) 91 1766) : wp (600000, 7302250, callok 8) (k_law L xs) QL 172 [some (.retAddr 0), some (.ref 0), some (.ref 72), some (.int (nI i))] [] (h ++ shW 72 hm) 91 1766 := by
  obtain ⟨f6, h6⟩ := r.h6
  obtain ⟨f7, h7⟩ := r.h7
  have hx := r.xc
  obtain ⟨hl, hy⟩ := r.ym
  refine gl_1 [1025] ?_
  refine Exists.intro (i + 1) (And.intro (show nI i + 1 = nI (i + 1) by rw [show (1 : Int32) = nI 1 from rfl, nI_add]) (And.intro ⟨rfl, by omega, hL⟩ ?_))
  refine Exists.intro [0, 1, 2, 3, 4, 5, 6, 7, 8, 9, 10, 11, 12, 13, 14, 15, 16, 17, 18, 19, 20, 21, 22, 23, 24, 25, 26, 27, 28, 29, 30, 31, 32, 33, 34, 35, 36, 37, 38, 39, 40, 41, 42, 43, 44, 45, 46, 47, 48, 49, 50, 51, 52, 53, 54, 55, 56, 57, 58, 59, 60, 61, 62, 63, 64, 65, 66, 67, 68, 69, 70, 71] (Exists.intro [.ref 0, .int (xs (i + 1))] (Exists.intro h (Exists.intro 0 (Exists.intro 0 (And.intro ⟨rfl, rfl, (Nat.le_of_ble_eq_true rfl), rfl, lx_all hx hl, lx_get hx hl, ⟨0, f6, rfl, h6⟩⟩ (And.intro (Nat.le_of_ble_eq_true rfl) (And.intro (Nat.le_of_ble_eq_true rfl) ?_)))))))
  refine monoC 8 80 0 0 _ _ _ _ (fun v h' hq => ?_) (rs_0 r)
  obtain ⟨z, rfl, hx', hcm⟩ := hq
  rw [lx_put hx hl hx']
  refine Exists.intro (i + 1) (And.intro (show nI i + 1 = nI (i + 1) by rw [show (1 : Int32) = nI 1 from rfl, nI_add]) (And.intro ⟨rfl, by omega, hL⟩ ?_))
  refine Exists.intro [72, 73, 74, 75, 76, 77, 78, 79, 80, 81, 82, 83, 84, 85, 86, 87, 88, 89, 90] (Exists.intro [.ref 0, .int (xs (i + 1))] (Exists.intro hm (Exists.intro 0 (Exists.intro 0 (And.intro ⟨rfl, rfl, (Nat.le_of_ble_eq_true rfl), rfl, lm_all hx' hl, lm_get hx' hl hy, ⟨0, f7, rfl, h7⟩⟩ (And.intro (Nat.le_of_ble_eq_true rfl) (And.intro (Nat.le_of_ble_eq_true rfl) ?_)))))))
  refine monoC 8 124 0 0 _ _ _ _ (fun v hm' hq => ?_) hcm
  obtain ⟨rfl, r'⟩ := hq
  rw [lm_put hx' hl r'.ym.1 r'.ym.2]
  refine br_t rfl ?_
  exact nx h' hm' r'
theorem lc_1 (r : RW h hm) (hi : i + 6 ≤ L) (hL : L ≤ 384) (nx : ∀ h hm, RW h hm → wp (600000, 7302250, callok 8) (k_law L xs) QL 1025 [some (.retAddr 0), some (.ref 0), some (.ref 72), some (.int (nI i))] [] (h ++ shW 72 hm) 91 1766) : wp (600000, 7302250, callok 8) (k_law L xs) QL 195 [some (.retAddr 0), some (.ref 0), some (.ref 72), some (.int (nI i))] [] (h ++ shW 72 hm) 91 1766 := by
  obtain ⟨f6, h6⟩ := r.h6
  obtain ⟨f7, h7⟩ := r.h7
  have hx := r.xc
  obtain ⟨hl, hy⟩ := r.ym
  refine gl_2 [1025] ?_
  refine Exists.intro [0, 1, 2, 3, 4, 5, 6, 7, 8, 9, 10, 11, 12, 13, 14, 15, 16, 17, 18, 19, 20, 21, 22, 23, 24, 25, 26, 27, 28, 29, 30, 31, 32, 33, 34, 35, 36, 37, 38, 39, 40, 41, 42, 43, 44, 45, 46, 47, 48, 49, 50, 51, 52, 53, 54, 55, 56, 57, 58, 59, 60, 61, 62, 63, 64, 65, 66, 67, 68, 69, 70, 71] (Exists.intro [.ref 0] (Exists.intro h (Exists.intro 0 (Exists.intro 0 (And.intro ⟨rfl, rfl, (Nat.le_of_ble_eq_true rfl), rfl, lx_all hx hl, lx_get hx hl, ⟨0, f6, rfl, h6⟩⟩ (And.intro (Nat.le_of_ble_eq_true rfl) (And.intro (Nat.le_of_ble_eq_true rfl) ?_)))))))
  refine monoC 8 81 0 0 _ _ _ _ (fun v h' hq => ?_) (rs_1 r)
  obtain ⟨z, rfl, hx', hcm⟩ := hq
  rw [lx_put hx hl hx']
  refine Exists.intro [72, 73, 74, 75, 76, 77, 78, 79, 80, 81, 82, 83, 84, 85, 86, 87, 88, 89, 90] (Exists.intro [.ref 0] (Exists.intro hm (Exists.intro 0 (Exists.intro 0 (And.intro ⟨rfl, rfl, (Nat.le_of_ble_eq_true rfl), rfl, lm_all hx' hl, lm_get hx' hl hy, ⟨0, f7, rfl, h7⟩⟩ (And.intro (Nat.le_of_ble_eq_true rfl) (And.intro (Nat.le_of_ble_eq_true rfl) ?_)))))))
  refine monoC 8 125 0 0 _ _ _ _ (fun v hm' hq => ?_) hcm
  obtain ⟨rfl, r'⟩ := hq
  rw [lm_put hx' hl r'.ym.1 r'.ym.2]
  refine br_t rfl ?_
  exact nx h' hm' r'
theorem lc_2 (r : RW h hm) (hi : i + 6 ≤ L) (hL : L ≤ 384) (nx : ∀ h hm, RW h hm → wp (600000, 7302250, callok 8) (k_law L xs) QL 1025 [some (.retAddr 0), some (.ref 0), some (.ref 72), some (.int (nI i))] [] (h ++ shW 72 hm) 91 1766) : wp (600000, 7302250, callok 8) (k_law L xs) QL 208 [some (.retAddr 0), some (.ref 0), some (.ref 72), some (.int (nI i))] [] (h ++ shW 72 hm) 91 1766 := by
  obtain ⟨f6, h6⟩ := r.h6
  obtain ⟨f7, h7⟩ := r.h7
  have hx := r.xc
  obtain ⟨hl, hy⟩ := r.ym
  refine gl_3 [1025] ?_
  refine Exists.intro [0, 1, 2, 3, 4, 5, 6, 7, 8, 9, 10, 11, 12, 13, 14, 15, 16, 17, 18, 19, 20, 21, 22, 23, 24, 25, 26, 27, 28, 29, 30, 31, 32, 33, 34, 35, 36, 37, 38, 39, 40, 41, 42, 43, 44, 45, 46, 47, 48, 49, 50, 51, 52, 53, 54, 55, 56, 57, 58, 59, 60, 61, 62, 63, 64, 65, 66, 67, 68, 69, 70, 71] (Exists.intro [.ref 0] (Exists.intro h (Exists.intro 0 (Exists.intro 0 (And.intro ⟨rfl, rfl, (Nat.le_of_ble_eq_true rfl), rfl, lx_all hx hl, lx_get hx hl, ⟨0, f6, rfl, h6⟩⟩ (And.intro (Nat.le_of_ble_eq_true rfl) (And.intro (Nat.le_of_ble_eq_true rfl) ?_)))))))
  refine monoC 8 82 0 0 _ _ _ _ (fun v h' hq => ?_) (rs_2 r)
  obtain ⟨z, rfl, hx', hcm⟩ := hq
  rw [lx_put hx hl hx']
  refine Exists.intro [72, 73, 74, 75, 76, 77, 78, 79, 80, 81, 82, 83, 84, 85, 86, 87, 88, 89, 90] (Exists.intro [.ref 0] (Exists.intro hm (Exists.intro 0 (Exists.intro 0 (And.intro ⟨rfl, rfl, (Nat.le_of_ble_eq_true rfl), rfl, lm_all hx' hl, lm_get hx' hl hy, ⟨0, f7, rfl, h7⟩⟩ (And.intro (Nat.le_of_ble_eq_true rfl) (And.intro (Nat.le_of_ble_eq_true rfl) ?_)))))))
  refine monoC 8 133 0 0 _ _ _ _ (fun v hm' hq => ?_) hcm
  obtain ⟨rfl, r'⟩ := hq
  rw [lm_put hx' hl r'.ym.1 r'.ym.2]
  refine br_t rfl ?_
  exact nx h' hm' r'
theorem lc_3 (r : RW h hm) (hi : i + 6 ≤ L) (hL : L ≤ 384) (nx : ∀ h hm, RW h hm → wp (600000, 7302250, callok 8) (k_law L xs) QL 1025 [some (.retAddr 0), some (.ref 0), some (.ref 72), some (.int (nI i))] [] (h ++ shW 72 hm) 91 1766) : wp (600000, 7302250, callok 8) (k_law L xs) QL 221 [some (.retAddr 0), some (.ref 0), some (.ref 72), some (.int (nI i))] [] (h ++ shW 72 hm) 91 1766 := by
  obtain ⟨f6, h6⟩ := r.h6
  obtain ⟨f7, h7⟩ := r.h7
  have hx := r.xc
  obtain ⟨hl, hy⟩ := r.ym
  refine gl_4 [1025] ?_
  refine Exists.intro [0, 1, 2, 3, 4, 5, 6, 7, 8, 9, 10, 11, 12, 13, 14, 15, 16, 17, 18, 19, 20, 21, 22, 23, 24, 25, 26, 27, 28, 29, 30, 31, 32, 33, 34, 35, 36, 37, 38, 39, 40, 41, 42, 43, 44, 45, 46, 47, 48, 49, 50, 51, 52, 53, 54, 55, 56, 57, 58, 59, 60, 61, 62, 63, 64, 65, 66, 67, 68, 69, 70, 71] (Exists.intro [.ref 0] (Exists.intro h (Exists.intro 0 (Exists.intro 0 (And.intro ⟨rfl, rfl, (Nat.le_of_ble_eq_true rfl), rfl, lx_all hx hl, lx_get hx hl, ⟨0, f6, rfl, h6⟩⟩ (And.intro (Nat.le_of_ble_eq_true rfl) (And.intro (Nat.le_of_ble_eq_true rfl) ?_)))))))
  refine monoC 8 83 0 0 _ _ _ _ (fun v h' hq => ?_) (rs_3 r)
  obtain ⟨z, rfl, hx', hcm⟩ := hq
  rw [lx_put hx hl hx']
  refine Exists.intro [72, 73, 74, 75, 76, 77, 78, 79, 80, 81, 82, 83, 84, 85, 86, 87, 88, 89, 90] (Exists.intro [.ref 0] (Exists.intro hm (Exists.intro 0 (Exists.intro 0 (And.intro ⟨rfl, rfl, (Nat.le_of_ble_eq_true rfl), rfl, lm_all hx' hl, lm_get hx' hl hy, ⟨0, f7, rfl, h7⟩⟩ (And.intro (Nat.le_of_ble_eq_true rfl) (And.intro (Nat.le_of_ble_eq_true rfl) ?_)))))))
  refine monoC 8 134 0 0 _ _ _ _ (fun v hm' hq => ?_) hcm
  obtain ⟨rfl, r'⟩ := hq
  rw [lm_put hx' hl r'.ym.1 r'.ym.2]
  refine br_t rfl ?_
  exact nx h' hm' r'
theorem lc_4 (r : RW h hm) (hi : i + 6 ≤ L) (hL : L ≤ 384) (nx : ∀ h hm, RW h hm → wp (600000, 7302250, callok 8) (k_law L xs) QL 1025 [some (.retAddr 0), some (.ref 0), some (.ref 72), some (.int (nI i))] [] (h ++ shW 72 hm) 91 1766) : wp (600000, 7302250, callok 8) (k_law L xs) QL 234 [some (.retAddr 0), some (.ref 0), some (.ref 72), some (.int (nI i))] [] (h ++ shW 72 hm) 91 1766 := by
  obtain ⟨f6, h6⟩ := r.h6
  obtain ⟨f7, h7⟩ := r.h7
  have hx := r.xc
  obtain ⟨hl, hy⟩ := r.ym
  refine gl_5 [1025] ?_
  refine Exists.intro (i + 1) (And.intro (show nI i + 1 = nI (i + 1) by rw [show (1 : Int32) = nI 1 from rfl, nI_add]) (And.intro ⟨rfl, by omega, hL⟩ ?_))
  refine Exists.intro (i + 2) (And.intro (show nI i + 2 = nI (i + 2) by rw [show (2 : Int32) = nI 2 from rfl, nI_add]) (And.intro ⟨rfl, by omega, hL⟩ ?_))
  refine Exists.intro [0, 1, 2, 3, 4, 5, 6, 7, 8, 9, 10, 11, 12, 13, 14, 15, 16, 17, 18, 19, 20, 21, 22, 23, 24, 25, 26, 27, 28, 29, 30, 31, 32, 33, 34, 35, 36, 37, 38, 39, 40, 41, 42, 43, 44, 45, 46, 47, 48, 49, 50, 51, 52, 53, 54, 55, 56, 57, 58, 59, 60, 61, 62, 63, 64, 65, 66, 67, 68, 69, 70, 71] (Exists.intro [.ref 0, .int (xs (i + 1)), .int (xs (i + 2))] (Exists.intro h (Exists.intro 0 (Exists.intro 0 (And.intro ⟨rfl, rfl, (Nat.le_of_ble_eq_true rfl), rfl, lx_all hx hl, lx_get hx hl, ⟨0, f6, rfl, h6⟩⟩ (And.intro (Nat.le_of_ble_eq_true rfl) (And.intro (Nat.le_of_ble_eq_true rfl) ?_)))))))
  refine monoC 8 84 0 0 _ _ _ _ (fun v h' hq => ?_) (rs_4 r)
  obtain ⟨z, rfl, hx', hcm⟩ := hq
  rw [lx_put hx hl hx']
  refine Exists.intro (i + 1) (And.intro (show nI i + 1 = nI (i + 1) by rw [show (1 : Int32) = nI 1 from rfl, nI_add]) (And.intro ⟨rfl, by omega, hL⟩ ?_))
  refine Exists.intro (i + 2) (And.intro (show nI i + 2 = nI (i + 2) by rw [show (2 : Int32) = nI 2 from rfl, nI_add]) (And.intro ⟨rfl, by omega, hL⟩ ?_))
  refine Exists.intro [72, 73, 74, 75, 76, 77, 78, 79, 80, 81, 82, 83, 84, 85, 86, 87, 88, 89, 90] (Exists.intro [.ref 0, .int (xs (i + 1)), .int (xs (i + 2))] (Exists.intro hm (Exists.intro 0 (Exists.intro 0 (And.intro ⟨rfl, rfl, (Nat.le_of_ble_eq_true rfl), rfl, lm_all hx' hl, lm_get hx' hl hy, ⟨0, f7, rfl, h7⟩⟩ (And.intro (Nat.le_of_ble_eq_true rfl) (And.intro (Nat.le_of_ble_eq_true rfl) ?_)))))))
  refine monoC 8 135 0 0 _ _ _ _ (fun v hm' hq => ?_) hcm
  obtain ⟨rfl, r'⟩ := hq
  rw [lm_put hx' hl r'.ym.1 r'.ym.2]
  refine br_t rfl ?_
  exact nx h' hm' r'
theorem lc_5 (r : RW h hm) (hi : i + 6 ≤ L) (hL : L ≤ 384) (nx : ∀ h hm, RW h hm → wp (600000, 7302250, callok 8) (k_law L xs) QL 1025 [some (.retAddr 0), some (.ref 0), some (.ref 72), some (.int (nI i))] [] (h ++ shW 72 hm) 91 1766) : wp (600000, 7302250, callok 8) (k_law L xs) QL 267 [some (.retAddr 0), some (.ref 0), some (.ref 72), some (.int (nI i))] [] (h ++ shW 72 hm) 91 1766 := by
  obtain ⟨f6, h6⟩ := r.h6
  obtain ⟨f7, h7⟩ := r.h7
  have hx := r.xc
  obtain ⟨hl, hy⟩ := r.ym
  refine gl_6 [1025] ?_
  refine Exists.intro (i + 1) (And.intro (show nI i + 1 = nI (i + 1) by rw [show (1 : Int32) = nI 1 from rfl, nI_add]) (And.intro ⟨rfl, by omega, hL⟩ ?_))
  refine Exists.intro (i + 2) (And.intro (show nI i + 2 = nI (i + 2) by rw [show (2 : Int32) = nI 2 from rfl, nI_add]) (And.intro ⟨rfl, by omega, hL⟩ ?_))
  refine Exists.intro [0, 1, 2, 3, 4, 5, 6, 7, 8, 9, 10, 11, 12, 13, 14, 15, 16, 17, 18, 19, 20, 21, 22, 23, 24, 25, 26, 27, 28, 29, 30, 31, 32, 33, 34, 35, 36, 37, 38, 39, 40, 41, 42, 43, 44, 45, 46, 47, 48, 49, 50, 51, 52, 53, 54, 55, 56, 57, 58, 59, 60, 61, 62, 63, 64, 65, 66, 67, 68, 69, 70, 71] (Exists.intro [.ref 0, .int (xs (i + 1)), .int (xs (i + 2))] (Exists.intro h (Exists.intro 0 (Exists.intro 0 (And.intro ⟨rfl, rfl, (Nat.le_of_ble_eq_true rfl), rfl, lx_all hx hl, lx_get hx hl, ⟨0, f6, rfl, h6⟩⟩ (And.intro (Nat.le_of_ble_eq_true rfl) (And.intro (Nat.le_of_ble_eq_true rfl) ?_)))))))
  refine monoC 8 85 0 0 _ _ _ _ (fun v h' hq => ?_) (rs_5 r)
  obtain ⟨z, rfl, hx', hcm⟩ := hq
  rw [lx_put hx hl hx']
  refine Exists.intro (i + 1) (And.intro (show nI i + 1 = nI (i + 1) by rw [show (1 : Int32) = nI 1 from rfl, nI_add]) (And.intro ⟨rfl, by omega, hL⟩ ?_))
  refine Exists.intro (i + 2) (And.intro (show nI i + 2 = nI (i + 2) by rw [show (2 : Int32) = nI 2 from rfl, nI_add]) (And.intro ⟨rfl, by omega, hL⟩ ?_))
  refine Exists.intro [72, 73, 74, 75, 76, 77, 78, 79, 80, 81, 82, 83, 84, 85, 86, 87, 88, 89, 90] (Exists.intro [.ref 0, .int (xs (i + 1)), .int (xs (i + 2))] (Exists.intro hm (Exists.intro 0 (Exists.intro 0 (And.intro ⟨rfl, rfl, (Nat.le_of_ble_eq_true rfl), rfl, lm_all hx' hl, lm_get hx' hl hy, ⟨0, f7, rfl, h7⟩⟩ (And.intro (Nat.le_of_ble_eq_true rfl) (And.intro (Nat.le_of_ble_eq_true rfl) ?_)))))))
  refine monoC 8 136 0 0 _ _ _ _ (fun v hm' hq => ?_) hcm
  obtain ⟨rfl, r'⟩ := hq
  rw [lm_put hx' hl r'.ym.1 r'.ym.2]
  refine br_t rfl ?_
  exact nx h' hm' r'
theorem lc_6 (r : RW h hm) (hi : i + 6 ≤ L) (hL : L ≤ 384) (nx : ∀ h hm, RW h hm → wp (600000, 7302250, callok 8) (k_law L xs) QL 1025 [some (.retAddr 0), some (.ref 0), some (.ref 72), some (.int (nI i))] [] (h ++ shW 72 hm) 91 1766) : wp (600000, 7302250, callok 8) (k_law L xs) QL 300 [some (.retAddr 0), some (.ref 0), some (.ref 72), some (.int (nI i))] [] (h ++ shW 72 hm) 91 1766 := by
  obtain ⟨f6, h6⟩ := r.h6
  obtain ⟨f7, h7⟩ := r.h7
  have hx := r.xc
  obtain ⟨hl, hy⟩ := r.ym
  refine gl_7 [1025] ?_
  refine Exists.intro (i + 1) (And.intro (show nI i + 1 = nI (i + 1) by rw [show (1 : Int32) = nI 1 from rfl, nI_add]) (And.intro ⟨rfl, by omega, hL⟩ ?_))
  refine Exists.intro [0, 1, 2, 3, 4, 5, 6, 7, 8, 9, 10, 11, 12, 13, 14, 15, 16, 17, 18, 19, 20, 21, 22, 23, 24, 25, 26, 27, 28, 29, 30, 31, 32, 33, 34, 35, 36, 37, 38, 39, 40, 41, 42, 43, 44, 45, 46, 47, 48, 49, 50, 51, 52, 53, 54, 55, 56, 57, 58, 59, 60, 61, 62, 63, 64, 65, 66, 67, 68, 69, 70, 71] (Exists.intro [.ref 0, .int (xs (i + 1))] (Exists.intro h (Exists.intro 0 (Exists.intro 0 (And.intro ⟨rfl, rfl, (Nat.le_of_ble_eq_true rfl), rfl, lx_all hx hl, lx_get hx hl, ⟨0, f6, rfl, h6⟩⟩ (And.intro (Nat.le_of_ble_eq_true rfl) (And.intro (Nat.le_of_ble_eq_true rfl) ?_)))))))
  refine monoC 8 86 0 0 _ _ _ _ (fun v h' hq => ?_) (rs_6 r)
  obtain ⟨z, rfl, hx', hcm⟩ := hq
  rw [lx_put hx hl hx']
  refine Exists.intro (i + 1) (And.intro (show nI i + 1 = nI (i + 1) by rw [show (1 : Int32) = nI 1 from rfl, nI_add]) (And.intro ⟨rfl, by omega, hL⟩ ?_))
  refine Exists.intro [72, 73, 74, 75, 76, 77, 78, 79, 80, 81, 82, 83, 84, 85, 86, 87, 88, 89, 90] (Exists.intro [.ref 0, .int (xs (i + 1))] (Exists.intro hm (Exists.intro 0 (Exists.intro 0 (And.intro ⟨rfl, rfl, (Nat.le_of_ble_eq_true rfl), rfl, lm_all hx' hl, lm_get hx' hl hy, ⟨0, f7, rfl, h7⟩⟩ (And.intro (Nat.le_of_ble_eq_true rfl) (And.intro (Nat.le_of_ble_eq_true rfl) ?_)))))))
  refine monoC 8 137 0 0 _ _ _ _ (fun v hm' hq => ?_) hcm
  obtain ⟨rfl, r'⟩ := hq
  rw [lm_put hx' hl r'.ym.1 r'.ym.2]
  refine br_t rfl ?_
  exact nx h' hm' r'
theorem lc_7 (r : RW h hm) (hi : i + 6 ≤ L) (hL : L ≤ 384) (nx : ∀ h hm, RW h hm → wp (600000, 7302250, callok 8) (k_law L xs) QL 1025 [some (.retAddr 0), some (.ref 0), some (.ref 72), some (.int (nI i))] [] (h ++ shW 72 hm) 91 1766) : wp (600000, 7302250, callok 8) (k_law L xs) QL 323 [some (.retAddr 0), some (.ref 0), some (.ref 72), some (.int (nI i))] [] (h ++ shW 72 hm) 91 1766 := by
  obtain ⟨f6, h6⟩ := r.h6
  obtain ⟨f7, h7⟩ := r.h7
  have hx := r.xc
  obtain ⟨hl, hy⟩ := r.ym
  refine gl_8 [1025] ?_
  refine Exists.intro (i + 1) (And.intro (show nI i + 1 = nI (i + 1) by rw [show (1 : Int32) = nI 1 from rfl, nI_add]) (And.intro ⟨rfl, by omega, hL⟩ ?_))
  refine Exists.intro [0, 1, 2, 3, 4, 5, 6, 7, 8, 9, 10, 11, 12, 13, 14, 15, 16, 17, 18, 19, 20, 21, 22, 23, 24, 25, 26, 27, 28, 29, 30, 31, 32, 33, 34, 35, 36, 37, 38, 39, 40, 41, 42, 43, 44, 45, 46, 47, 48, 49, 50, 51, 52, 53, 54, 55, 56, 57, 58, 59, 60, 61, 62, 63, 64, 65, 66, 67, 68, 69, 70, 71] (Exists.intro [.ref 0, .int (xs (i + 1))] (Exists.intro h (Exists.intro 0 (Exists.intro 0 (And.intro ⟨rfl, rfl, (Nat.le_of_ble_eq_true rfl), rfl, lx_all hx hl, lx_get hx hl, ⟨0, f6, rfl, h6⟩⟩ (And.intro (Nat.le_of_ble_eq_true rfl) (And.intro (Nat.le_of_ble_eq_true rfl) ?_)))))))
  refine monoC 8 87 0 0 _ _ _ _ (fun v h' hq => ?_) (rs_7 r)
  obtain ⟨z, rfl, hx', hcm⟩ := hq
  rw [lx_put hx hl hx']
  refine Exists.intro (i + 1) (And.intro (show nI i + 1 = nI (i + 1) by rw [show (1 : Int32) = nI 1 from rfl, nI_add]) (And.intro ⟨rfl, by omega, hL⟩ ?_))
  refine Exists.intro [72, 73, 74, 75, 76, 77, 78, 79, 80, 81, 82, 83, 84, 85, 86, 87, 88, 89, 90] (Exists.intro [.ref 0, .int (xs (i + 1))] (Exists.intro hm (Exists.intro 0 (Exists.intro 0 (And.intro ⟨rfl, rfl, (Nat.le_of_ble_eq_true rfl), rfl, lm_all hx' hl, lm_get hx' hl hy, ⟨0, f7, rfl, h7⟩⟩ (And.intro (Nat.le_of_ble_eq_true rfl) (And.intro (Nat.le_of_ble_eq_true rfl) ?_)))))))
  refine monoC 8 147 0 0 _ _ _ _ (fun v hm' hq => ?_) hcm
  obtain ⟨rfl, r'⟩ := hq
  rw [lm_put hx' hl r'.ym.1 r'.ym.2]
  refine br_t rfl ?_
  exact nx h' hm' r'
theorem lc_8 (r : RW h hm) (hi : i + 6 ≤ L) (hL : L ≤ 384) (nx : ∀ h hm, RW h hm → wp (600000, 7302250, callok 8) (k_law L xs) QL 1025 [some (.retAddr 0), some (.ref 0), some (.ref 72), some (.int (nI i))] [] (h ++ shW 72 hm) 91 1766) : wp (600000, 7302250, callok 8) (k_law L xs) QL 346 [some (.retAddr 0), some (.ref 0), some (.ref 72), some (.int (nI i))] [] (h ++ shW 72 hm) 91 1766 := by
  obtain ⟨f6, h6⟩ := r.h6
  obtain ⟨f7, h7⟩ := r.h7
  have hx := r.xc
  obtain ⟨hl, hy⟩ := r.ym
  refine gl_9 [1025] ?_
  refine Exists.intro (i + 1) (And.intro (show nI i + 1 = nI (i + 1) by rw [show (1 : Int32) = nI 1 from rfl, nI_add]) (And.intro ⟨rfl, by omega, hL⟩ ?_))
  refine Exists.intro (i + 2) (And.intro (show nI i + 2 = nI (i + 2) by rw [show (2 : Int32) = nI 2 from rfl, nI_add]) (And.intro ⟨rfl, by omega, hL⟩ ?_))
  refine Exists.intro (i + 3) (And.intro (show nI i + 3 = nI (i + 3) by rw [show (3 : Int32) = nI 3 from rfl, nI_add]) (And.intro ⟨rfl, by omega, hL⟩ ?_))
  refine Exists.intro [0, 1, 2, 3, 4, 5, 6, 7, 8, 9, 10, 11, 12, 13, 14, 15, 16, 17, 18, 19, 20, 21, 22, 23, 24, 25, 26, 27, 28, 29, 30, 31, 32, 33, 34, 35, 36, 37, 38, 39, 40, 41, 42, 43, 44, 45, 46, 47, 48, 49, 50, 51, 52, 53, 54, 55, 56, 57, 58, 59, 60, 61, 62, 63, 64, 65, 66, 67, 68, 69, 70, 71] (Exists.intro [.ref 0, .int (xs (i + 1)), .int (xs (i + 2)), .int (xs (i + 3))] (Exists.intro h (Exists.intro 0 (Exists.intro 0 (And.intro ⟨rfl, rfl, (Nat.le_of_ble_eq_true rfl), rfl, lx_all hx hl, lx_get hx hl, ⟨0, f6, rfl, h6⟩⟩ (And.intro (Nat.le_of_ble_eq_true rfl) (And.intro (Nat.le_of_ble_eq_true rfl) ?_)))))))
  refine monoC 8 88 0 0 _ _ _ _ (fun v h' hq => ?_) (rs_8 r)
  obtain ⟨z, rfl, hx', hcm⟩ := hq
  rw [lx_put hx hl hx']
  refine Exists.intro (i + 1) (And.intro (show nI i + 1 = nI (i + 1) by rw [show (1 : Int32) = nI 1 from rfl, nI_add]) (And.intro ⟨rfl, by omega, hL⟩ ?_))
  refine Exists.intro (i + 2) (And.intro (show nI i + 2 = nI (i + 2) by rw [show (2 : Int32) = nI 2 from rfl, nI_add]) (And.intro ⟨rfl, by omega, hL⟩ ?_))
  refine Exists.intro (i + 3) (And.intro (show nI i + 3 = nI (i + 3) by rw [show (3 : Int32) = nI 3 from rfl, nI_add]) (And.intro ⟨rfl, by omega, hL⟩ ?_))
  refine Exists.intro [72, 73, 74, 75, 76, 77, 78, 79, 80, 81, 82, 83, 84, 85, 86, 87, 88, 89, 90] (Exists.intro [.ref 0, .int (xs (i + 1)), .int (xs (i + 2)), .int (xs (i + 3))] (Exists.intro hm (Exists.intro 0 (Exists.intro 0 (And.intro ⟨rfl, rfl, (Nat.le_of_ble_eq_true rfl), rfl, lm_all hx' hl, lm_get hx' hl hy, ⟨0, f7, rfl, h7⟩⟩ (And.intro (Nat.le_of_ble_eq_true rfl) (And.intro (Nat.le_of_ble_eq_true rfl) ?_)))))))
  refine monoC 8 148 0 0 _ _ _ _ (fun v hm' hq => ?_) hcm
  obtain ⟨rfl, r'⟩ := hq
  rw [lm_put hx' hl r'.ym.1 r'.ym.2]
  refine br_t rfl ?_
  exact nx h' hm' r'
theorem lc_9 (r : RW h hm) (hi : i + 6 ≤ L) (hL : L ≤ 384) (nx : ∀ h hm, RW h hm → wp (600000, 7302250, callok 8) (k_law L xs) QL 1025 [some (.retAddr 0), some (.ref 0), some (.ref 72), some (.int (nI i))] [] (h ++ shW 72 hm) 91 1766) : wp (600000, 7302250, callok 8) (k_law L xs) QL 389 [some (.retAddr 0), some (.ref 0), some (.ref 72), some (.int (nI i))] [] (h ++ shW 72 hm) 91 1766 := by
  obtain ⟨f6, h6⟩ := r.h6
  obtain ⟨f7, h7⟩ := r.h7
  have hx := r.xc
  obtain ⟨hl, hy⟩ := r.ym
  refine gl_10 [1025] ?_
  refine Exists.intro (i + 1) (And.intro (show nI i + 1 = nI (i + 1) by rw [show (1 : Int32) = nI 1 from rfl, nI_add]) (And.intro ⟨rfl, by omega, hL⟩ ?_))
  refine Exists.intro [0, 1, 2, 3, 4, 5, 6, 7, 8, 9, 10, 11, 12, 13, 14, 15, 16, 17, 18, 19, 20, 21, 22, 23, 24, 25, 26, 27, 28, 29, 30, 31, 32, 33, 34, 35, 36, 37, 38, 39, 40, 41, 42, 43, 44, 45, 46, 47, 48, 49, 50, 51, 52, 53, 54, 55, 56, 57, 58, 59, 60, 61, 62, 63, 64, 65, 66, 67, 68, 69, 70, 71] (Exists.intro [.ref 0, .int (xs (i + 1))] (Exists.intro h (Exists.intro 0 (Exists.intro 0 (And.intro ⟨rfl, rfl, (Nat.le_of_ble_eq_true rfl), rfl, lx_all hx hl, lx_get hx hl, ⟨0, f6, rfl, h6⟩⟩ (And.intro (Nat.le_of_ble_eq_true rfl) (And.intro (Nat.le_of_ble_eq_true rfl) ?_)))))))
  refine monoC 8 89 0 0 _ _ _ _ (fun v h' hq => ?_) (rs_9 r)
  obtain ⟨z, rfl, hx', hcm⟩ := hq
  rw [lx_put hx hl hx']
  refine Exists.intro (i + 1) (And.intro (show nI i + 1 = nI (i + 1) by rw [show (1 : Int32) = nI 1 from rfl, nI_add]) (And.intro ⟨rfl, by omega, hL⟩ ?_))
  refine Exists.intro [72, 73, 74, 75, 76, 77, 78, 79, 80, 81, 82, 83, 84, 85, 86, 87, 88, 89, 90] (Exists.intro [.ref 0, .int (xs (i + 1))] (Exists.intro hm (Exists.intro 0 (Exists.intro 0 (And.intro ⟨rfl, rfl, (Nat.le_of_ble_eq_true rfl), rfl, lm_all hx' hl, lm_get hx' hl hy, ⟨0, f7, rfl, h7⟩⟩ (And.intro (Nat.le_of_ble_eq_true rfl) (And.intro (Nat.le_of_ble_eq_true rfl) ?_)))))))
  refine monoC 8 150 0 0 _ _ _ _ (fun v hm' hq => ?_) hcm
  obtain ⟨rfl, r'⟩ := hq
  rw [lm_put hx' hl r'.ym.1 r'.ym.2]
  refine br_t rfl ?_
  exact nx h' hm' r'
theorem lc_10 (r : RW h hm) (hi : i + 6 ≤ L) (hL : L ≤ 384) (nx : ∀ h hm, RW h hm → wp (600000, 7302250, callok 8) (k_law L xs) QL 1025 [some (.retAddr 0), some (.ref 0), some (.ref 72), some (.int (nI i))] [] (h ++ shW 72 hm) 91 1766) : wp (600000, 7302250, callok 8) (k_law L xs) QL 412 [some (.retAddr 0), some (.ref 0), some (.ref 72), some (.int (nI i))] [] (h ++ shW 72 hm) 91 1766 := by
  obtain ⟨f6, h6⟩ := r.h6
  obtain ⟨f7, h7⟩ := r.h7
  have hx := r.xc
  obtain ⟨hl, hy⟩ := r.ym
  refine gl_11 [1025] ?_
  refine Exists.intro (i + 1) (And.intro (show nI i + 1 = nI (i + 1) by rw [show (1 : Int32) = nI 1 from rfl, nI_add]) (And.intro ⟨rfl, by omega, hL⟩ ?_))
  refine Exists.intro [0, 1, 2, 3, 4, 5, 6, 7, 8, 9, 10, 11, 12, 13, 14, 15, 16, 17, 18, 19, 20, 21, 22, 23, 24, 25, 26, 27, 28, 29, 30, 31, 32, 33, 34, 35, 36, 37, 38, 39, 40, 41, 42, 43, 44, 45, 46, 47, 48, 49, 50, 51, 52, 53, 54, 55, 56, 57, 58, 59, 60, 61, 62, 63, 64, 65, 66, 67, 68, 69, 70, 71] (Exists.intro [.ref 0, .int (xs (i + 1))] (Exists.intro h (Exists.intro 0 (Exists.intro 0 (And.intro ⟨rfl, rfl, (Nat.le_of_ble_eq_true rfl), rfl, lx_all hx hl, lx_get hx hl, ⟨0, f6, rfl, h6⟩⟩ (And.intro (Nat.le_of_ble_eq_true rfl) (And.intro (Nat.le_of_ble_eq_true rfl) ?_)))))))
  refine monoC 8 90 0 0 _ _ _ _ (fun v h' hq => ?_) (rs_10 r)
  obtain ⟨z, rfl, hx', hcm⟩ := hq
  rw [lx_put hx hl hx']
  refine Exists.intro (i + 1) (And.intro (show nI i + 1 = nI (i + 1) by rw [show (1 : Int32) = nI 1 from rfl, nI_add]) (And.intro ⟨rfl, by omega, hL⟩ ?_))
  refine Exists.intro [72, 73, 74, 75, 76, 77, 78, 79, 80, 81, 82, 83, 84, 85, 86, 87, 88, 89, 90] (Exists.intro [.ref 0, .int (xs (i + 1))] (Exists.intro hm (Exists.intro 0 (Exists.intro 0 (And.intro ⟨rfl, rfl, (Nat.le_of_ble_eq_true rfl), rfl, lm_all hx' hl, lm_get hx' hl hy, ⟨0, f7, rfl, h7⟩⟩ (And.intro (Nat.le_of_ble_eq_true rfl) (And.intro (Nat.le_of_ble_eq_true rfl) ?_)))))))
  refine monoC 8 152 0 0 _ _ _ _ (fun v hm' hq => ?_) hcm
  obtain ⟨rfl, r'⟩ := hq
  rw [lm_put hx' hl r'.ym.1 r'.ym.2]
  refine br_t rfl ?_
  exact nx h' hm' r'
theorem lc_11 (r : RW h hm) (hi : i + 6 ≤ L) (hL : L ≤ 384) (nx : ∀ h hm, RW h hm → wp (600000, 7302250, callok 8) (k_law L xs) QL 1025 [some (.retAddr 0), some (.ref 0), some (.ref 72), some (.int (nI i))] [] (h ++ shW 72 hm) 91 1766) : wp (600000, 7302250, callok 8) (k_law L xs) QL 435 [some (.retAddr 0), some (.ref 0), some (.ref 72), some (.int (nI i))] [] (h ++ shW 72 hm) 91 1766 := by
  obtain ⟨f6, h6⟩ := r.h6
  obtain ⟨f7, h7⟩ := r.h7
  have hx := r.xc
  obtain ⟨hl, hy⟩ := r.ym
  refine gl_12 [1025] ?_
  refine Exists.intro (i + 1) (And.intro (show nI i + 1 = nI (i + 1) by rw [show (1 : Int32) = nI 1 from rfl, nI_add]) (And.intro ⟨rfl, by omega, hL⟩ ?_))
  refine Exists.intro [0, 1, 2, 3, 4, 5, 6, 7, 8, 9, 10, 11, 12, 13, 14, 15, 16, 17, 18, 19, 20, 21, 22, 23, 24, 25, 26, 27, 28, 29, 30, 31, 32, 33, 34, 35, 36, 37, 38, 39, 40, 41, 42, 43, 44, 45, 46, 47, 48, 49, 50, 51, 52, 53, 54, 55, 56, 57, 58, 59, 60, 61, 62, 63, 64, 65, 66, 67, 68, 69, 70, 71] (Exists.intro [.ref 0, .int (xs (i + 1))] (Exists.intro h (Exists.intro 0 (Exists.intro 0 (And.intro ⟨rfl, rfl, (Nat.le_of_ble_eq_true rfl), rfl, lx_all hx hl, lx_get hx hl, ⟨0, f6, rfl, h6⟩⟩ (And.intro (Nat.le_of_ble_eq_true rfl) (And.intro (Nat.le_of_ble_eq_true rfl) ?_)))))))
  refine monoC 8 91 0 0 _ _ _ _ (fun v h' hq => ?_) (rs_11 r)
  obtain ⟨z, rfl, hx', hcm⟩ := hq
  rw [lx_put hx hl hx']
  refine Exists.intro (i + 1) (And.intro (show nI i + 1 = nI (i + 1) by rw [show (1 : Int32) = nI 1 from rfl, nI_add]) (And.intro ⟨rfl, by omega, hL⟩ ?_))
  refine Exists.intro [72, 73, 74, 75, 76, 77, 78, 79, 80, 81, 82, 83, 84, 85, 86, 87, 88, 89, 90] (Exists.intro [.ref 0, .int (xs (i + 1))] (Exists.intro hm (Exists.intro 0 (Exists.intro 0 (And.intro ⟨rfl, rfl, (Nat.le_of_ble_eq_true rfl), rfl, lm_all hx' hl, lm_get hx' hl hy, ⟨0, f7, rfl, h7⟩⟩ (And.intro (Nat.le_of_ble_eq_true rfl) (And.intro (Nat.le_of_ble_eq_true rfl) ?_)))))))
  refine monoC 8 153 0 0 _ _ _ _ (fun v hm' hq => ?_) hcm
  obtain ⟨rfl, r'⟩ := hq
  rw [lm_put hx' hl r'.ym.1 r'.ym.2]
  refine br_t rfl ?_
  exact nx h' hm' r'
theorem lc_12 (r : RW h hm) (hi : i + 6 ≤ L) (hL : L ≤ 384) (nx : ∀ h hm, RW h hm → wp (600000, 7302250, callok 8) (k_law L xs) QL 1025 [some (.retAddr 0), some (.ref 0), some (.ref 72), some (.int (nI i))] [] (h ++ shW 72 hm) 91 1766) : wp (600000, 7302250, callok 8) (k_law L xs) QL 458 [some (.retAddr 0), some (.ref 0), some (.ref 72), some (.int (nI i))] [] (h ++ shW 72 hm) 91 1766 := by
  obtain ⟨f6, h6⟩ := r.h6
  obtain ⟨f7, h7⟩ := r.h7
  have hx := r.xc
  obtain ⟨hl, hy⟩ := r.ym
  refine gl_13 [1025] ?_
  refine Exists.intro (i + 1) (And.intro (show nI i + 1 = nI (i + 1) by rw [show (1 : Int32) = nI 1 from rfl, nI_add]) (And.intro ⟨rfl, by omega, hL⟩ ?_))
  refine Exists.intro (i + 2) (And.intro (show nI i + 2 = nI (i + 2) by rw [show (2 : Int32) = nI 2 from rfl, nI_add]) (And.intro ⟨rfl, by omega, hL⟩ ?_))
  refine Exists.intro [0, 1, 2, 3, 4, 5, 6, 7, 8, 9, 10, 11, 12, 13, 14, 15, 16, 17, 18, 19, 20, 21, 22, 23, 24, 25, 26, 27, 28, 29, 30, 31, 32, 33, 34, 35, 36, 37, 38, 39, 40, 41, 42, 43, 44, 45, 46, 47, 48, 49, 50, 51, 52, 53, 54, 55, 56, 57, 58, 59, 60, 61, 62, 63, 64, 65, 66, 67, 68, 69, 70, 71] (Exists.intro [.ref 0, .int (xs (i + 1)), .int (xs (i + 2))] (Exists.intro h (Exists.intro 0 (Exists.intro 0 (And.intro ⟨rfl, rfl, (Nat.le_of_ble_eq_true rfl), rfl, lx_all hx hl, lx_get hx hl, ⟨0, f6, rfl, h6⟩⟩ (And.intro (Nat.le_of_ble_eq_true rfl) (And.intro (Nat.le_of_ble_eq_true rfl) ?_)))))))
  refine monoC 8 92 0 0 _ _ _ _ (fun v h' hq => ?_) (rs_12 r)
  obtain ⟨z, rfl, hx', hcm⟩ := hq
  rw [lx_put hx hl hx']
  refine Exists.intro (i + 1) (And.intro (show nI i + 1 = nI (i + 1) by rw [show (1 : Int32) = nI 1 from rfl, nI_add]) (And.intro ⟨rfl, by omega, hL⟩ ?_))
  refine Exists.intro (i + 2) (And.intro (show nI i + 2 = nI (i + 2) by rw [show (2 : Int32) = nI 2 from rfl, nI_add]) (And.intro ⟨rfl, by omega, hL⟩ ?_))
  refine Exists.intro [72, 73, 74, 75, 76, 77, 78, 79, 80, 81, 82, 83, 84, 85, 86, 87, 88, 89, 90] (Exists.intro [.ref 0, .int (xs (i + 1)), .int (xs (i + 2))] (Exists.intro hm (Exists.intro 0 (Exists.intro 0 (And.intro ⟨rfl, rfl, (Nat.le_of_ble_eq_true rfl), rfl, lm_all hx' hl, lm_get hx' hl hy, ⟨0, f7, rfl, h7⟩⟩ (And.intro (Nat.le_of_ble_eq_true rfl) (And.intro (Nat.le_of_ble_eq_true rfl) ?_)))))))
  refine monoC 8 154 0 0 _ _ _ _ (fun v hm' hq => ?_) hcm
  obtain ⟨rfl, r'⟩ := hq
  rw [lm_put hx' hl r'.ym.1 r'.ym.2]
  refine br_t rfl ?_
  exact nx h' hm' r'
theorem lc_13 (r : RW h hm) (hi : i + 6 ≤ L) (hL : L ≤ 384) (nx : ∀ h hm, RW h hm → wp (600000, 7302250, callok 8) (k_law L xs) QL 1025 [some (.retAddr 0), some (.ref 0), some (.ref 72), some (.int (nI i))] [] (h ++ shW 72 hm) 91 1766) : wp (600000, 7302250, callok 8) (k_law L xs) QL 491 [some (.retAddr 0), some (.ref 0), some (.ref 72), some (.int (nI i))] [] (h ++ shW 72 hm) 91 1766 := by
  obtain ⟨f6, h6⟩ := r.h6
  obtain ⟨f7, h7⟩ := r.h7
  have hx := r.xc
  obtain ⟨hl, hy⟩ := r.ym
  refine gl_14 [1025] ?_
  refine Exists.intro [0, 1, 2, 3, 4, 5, 6, 7, 8, 9, 10, 11, 12, 13, 14, 15, 16, 17, 18, 19, 20, 21, 22, 23, 24, 25, 26, 27, 28, 29, 30, 31, 32, 33, 34, 35, 36, 37, 38, 39, 40, 41, 42, 43, 44, 45, 46, 47, 48, 49, 50, 51, 52, 53, 54, 55, 56, 57, 58, 59, 60, 61, 62, 63, 64, 65, 66, 67, 68, 69, 70, 71] (Exists.intro [.ref 0] (Exists.intro h (Exists.intro 0 (Exists.intro 0 (And.intro ⟨rfl, rfl, (Nat.le_of_ble_eq_true rfl), rfl, lx_all hx hl, lx_get hx hl, ⟨0, f6, rfl, h6⟩⟩ (And.intro (Nat.le_of_ble_eq_true rfl) (And.intro (Nat.le_of_ble_eq_true rfl) ?_)))))))
  refine monoC 8 93 0 0 _ _ _ _ (fun v h' hq => ?_) (rs_13 r)
  obtain ⟨z, rfl, hx', hcm⟩ := hq
  rw [lx_put hx hl hx']
  refine Exists.intro [72, 73, 74, 75, 76, 77, 78, 79, 80, 81, 82, 83, 84, 85, 86, 87, 88, 89, 90] (Exists.intro [.ref 0] (Exists.intro hm (Exists.intro 0 (Exists.intro 0 (And.intro ⟨rfl, rfl, (Nat.le_of_ble_eq_true rfl), rfl, lm_all hx' hl, lm_get hx' hl hy, ⟨0, f7, rfl, h7⟩⟩ (And.intro (Nat.le_of_ble_eq_true rfl) (And.intro (Nat.le_of_ble_eq_true rfl) ?_)))))))
  refine monoC 8 155 0 0 _ _ _ _ (fun v hm' hq => ?_) hcm
  obtain ⟨rfl, r'⟩ := hq
  rw [lm_put hx' hl r'.ym.1 r'.ym.2]
  refine br_t rfl ?_
  exact nx h' hm' r'
theorem lc_14 (r : RW h hm) (hi : i + 6 ≤ L) (hL : L ≤ 384) (nx : ∀ h hm, RW h hm → wp (600000, 7302250, callok 8) (k_law L xs) QL 1025 [some (.retAddr 0), some (.ref 0), some (.ref 72), some (.int (nI i))] [] (h ++ shW 72 hm) 91 1766) : wp (600000, 7302250, callok 8) (k_law L xs) QL 504 [some (.retAddr 0), some (.ref 0), some (.ref 72), some (.int (nI i))] [] (h ++ shW 72 hm) 91 1766 := by
  obtain ⟨f6, h6⟩ := r.h6
  obtain ⟨f7, h7⟩ := r.h7
  have hx := r.xc
  obtain ⟨hl, hy⟩ := r.ym
  refine gl_15 [1025] ?_
  refine Exists.intro (i + 1) (And.intro (show nI i + 1 = nI (i + 1) by rw [show (1 : Int32) = nI 1 from rfl, nI_add]) (And.intro ⟨rfl, by omega, hL⟩ ?_))
  refine Exists.intro (i + 2) (And.intro (show nI i + 2 = nI (i + 2) by rw [show (2 : Int32) = nI 2 from rfl, nI_add]) (And.intro ⟨rfl, by omega, hL⟩ ?_))
  refine Exists.intro (i + 3) (And.intro (show nI i + 3 = nI (i + 3) by rw [show (3 : Int32) = nI 3 from rfl, nI_add]) (And.intro ⟨rfl, by omega, hL⟩ ?_))
  refine Exists.intro [0, 1, 2, 3, 4, 5, 6, 7, 8, 9, 10, 11, 12, 13, 14, 15, 16, 17, 18, 19, 20, 21, 22, 23, 24, 25, 26, 27, 28, 29, 30, 31, 32, 33, 34, 35, 36, 37, 38, 39, 40, 41, 42, 43, 44, 45, 46, 47, 48, 49, 50, 51, 52, 53, 54, 55, 56, 57, 58, 59, 60, 61, 62, 63, 64, 65, 66, 67, 68, 69, 70, 71] (Exists.intro [.ref 0, .int (xs (i + 1)), .int (xs (i + 2)), .int (xs (i + 3))] (Exists.intro h (Exists.intro 0 (Exists.intro 0 (And.intro ⟨rfl, rfl, (Nat.le_of_ble_eq_true rfl), rfl, lx_all hx hl, lx_get hx hl, ⟨0, f6, rfl, h6⟩⟩ (And.intro (Nat.le_of_ble_eq_true rfl) (And.intro (Nat.le_of_ble_eq_true rfl) ?_)))))))
  refine monoC 8 94 0 0 _ _ _ _ (fun v h' hq => ?_) (rs_14 r)
  obtain ⟨z, rfl, hx', hcm⟩ := hq
  rw [lx_put hx hl hx']
  refine Exists.intro (i + 1) (And.intro (show nI i + 1 = nI (i + 1) by rw [show (1 : Int32) = nI 1 from rfl, nI_add]) (And.intro ⟨rfl, by omega, hL⟩ ?_))
  refine Exists.intro (i + 2) (And.intro (show nI i + 2 = nI (i + 2) by rw [show (2 : Int32) = nI 2 from rfl, nI_add]) (And.intro ⟨rfl, by omega, hL⟩ ?_))
  refine Exists.intro (i + 3) (And.intro (show nI i + 3 = nI (i + 3) by rw [show (3 : Int32) = nI 3 from rfl, nI_add]) (And.intro ⟨rfl, by omega, hL⟩ ?_))
  refine Exists.intro [72, 73, 74, 75, 76, 77, 78, 79, 80, 81, 82, 83, 84, 85, 86, 87, 88, 89, 90] (Exists.intro [.ref 0, .int (xs (i + 1)), .int (xs (i + 2)), .int (xs (i + 3))] (Exists.intro hm (Exists.intro 0 (Exists.intro 0 (And.intro ⟨rfl, rfl, (Nat.le_of_ble_eq_true rfl), rfl, lm_all hx' hl, lm_get hx' hl hy, ⟨0, f7, rfl, h7⟩⟩ (And.intro (Nat.le_of_ble_eq_true rfl) (And.intro (Nat.le_of_ble_eq_true rfl) ?_)))))))
  refine monoC 8 158 0 0 _ _ _ _ (fun v hm' hq => ?_) hcm
  obtain ⟨rfl, r'⟩ := hq
  rw [lm_put hx' hl r'.ym.1 r'.ym.2]
  refine br_t rfl ?_
  exact nx h' hm' r'
theorem lc_15 (r : RW h hm) (hi : i + 6 ≤ L) (hL : L ≤ 384) (nx : ∀ h hm, RW h hm → wp (600000, 7302250, callok 8) (k_law L xs) QL 1025 [some (.retAddr 0), some (.ref 0), some (.ref 72), some (.int (nI i))] [] (h ++ shW 72 hm) 91 1766) : wp (600000, 7302250, callok 8) (k_law L xs) QL 547 [some (.retAddr 0), some (.ref 0), some (.ref 72), some (.int (nI i))] [] (h ++ shW 72 hm) 91 1766 := by
  obtain ⟨f6, h6⟩ := r.h6
  obtain ⟨f7, h7⟩ := r.h7
  have hx := r.xc
  obtain ⟨hl, hy⟩ := r.ym
  refine gl_16 [1025] ?_
  refine Exists.intro (i + 1) (And.intro (show nI i + 1 = nI (i + 1) by rw [show (1 : Int32) = nI 1 from rfl, nI_add]) (And.intro ⟨rfl, by omega, hL⟩ ?_))
  refine Exists.intro (i + 2) (And.intro (show nI i + 2 = nI (i + 2) by rw [show (2 : Int32) = nI 2 from rfl, nI_add]) (And.intro ⟨rfl, by omega, hL⟩ ?_))
  refine Exists.intro [0, 1, 2, 3, 4, 5, 6, 7, 8, 9, 10, 11, 12, 13, 14, 15, 16, 17, 18, 19, 20, 21, 22, 23, 24, 25, 26, 27, 28, 29, 30, 31, 32, 33, 34, 35, 36, 37, 38, 39, 40, 41, 42, 43, 44, 45, 46, 47, 48, 49, 50, 51, 52, 53, 54, 55, 56, 57, 58, 59, 60, 61, 62, 63, 64, 65, 66, 67, 68, 69, 70, 71] (Exists.intro [.ref 0, .int (xs (i + 1)), .int (xs (i + 2))] (Exists.intro h (Exists.intro 0 (Exists.intro 0 (And.intro ⟨rfl, rfl, (Nat.le_of_ble_eq_true rfl), rfl, lx_all hx hl, lx_get hx hl, ⟨0, f6, rfl, h6⟩⟩ (And.intro (Nat.le_of_ble_eq_true rfl) (And.intro (Nat.le_of_ble_eq_true rfl) ?_)))))))
  refine monoC 8 95 0 0 _ _ _ _ (fun v h' hq => ?_) (rs_15 r)
  obtain ⟨z, rfl, hx', hcm⟩ := hq
  rw [lx_put hx hl hx']
  refine Exists.intro (i + 1) (And.intro (show nI i + 1 = nI (i + 1) by rw [show (1 : Int32) = nI 1 from rfl, nI_add]) (And.intro ⟨rfl, by omega, hL⟩ ?_))
  refine Exists.intro (i + 2) (And.intro (show nI i + 2 = nI (i + 2) by rw [show (2 : Int32) = nI 2 from rfl, nI_add]) (And.intro ⟨rfl, by omega, hL⟩ ?_))
  refine Exists.intro [72, 73, 74, 75, 76, 77, 78, 79, 80, 81, 82, 83, 84, 85, 86, 87, 88, 89, 90] (Exists.intro [.ref 0, .int (xs (i + 1)), .int (xs (i + 2))] (Exists.intro hm (Exists.intro 0 (Exists.intro 0 (And.intro ⟨rfl, rfl, (Nat.le_of_ble_eq_true rfl), rfl, lm_all hx' hl, lm_get hx' hl hy, ⟨0, f7, rfl, h7⟩⟩ (And.intro (Nat.le_of_ble_eq_true rfl) (And.intro (Nat.le_of_ble_eq_true rfl) ?_)))))))
  refine monoC 8 159 0 0 _ _ _ _ (fun v hm' hq => ?_) hcm
  obtain ⟨rfl, r'⟩ := hq
  rw [lm_put hx' hl r'.ym.1 r'.ym.2]
  refine br_t rfl ?_
  exact nx h' hm' r'
theorem lc_16 (r : RW h hm) (hi : i + 6 ≤ L) (hL : L ≤ 384) (nx : ∀ h hm, RW h hm → wp (600000, 7302250, callok 8) (k_law L xs) QL 1025 [some (.retAddr 0), some (.ref 0), some (.ref 72), some (.int (nI i))] [] (h ++ shW 72 hm) 91 1766) : wp (600000, 7302250, callok 8) (k_law L xs) QL 580 [some (.retAddr 0), some (.ref 0), some (.ref 72), some (.int (nI i))] [] (h ++ shW 72 hm) 91 1766 := by
  obtain ⟨f6, h6⟩ := r.h6
  obtain ⟨f7, h7⟩ := r.h7
  have hx := r.xc
  obtain ⟨hl, hy⟩ := r.ym
  refine gl_17 [1025] ?_
  refine Exists.intro [0, 1, 2, 3, 4, 5, 6, 7, 8, 9, 10, 11, 12, 13, 14, 15, 16, 17, 18, 19, 20, 21, 22, 23, 24, 25, 26, 27, 28, 29, 30, 31, 32, 33, 34, 35, 36, 37, 38, 39, 40, 41, 42, 43, 44, 45, 46, 47, 48, 49, 50, 51, 52, 53, 54, 55, 56, 57, 58, 59, 60, 61, 62, 63, 64, 65, 66, 67, 68, 69, 70, 71] (Exists.intro [.ref 0] (Exists.intro h (Exists.intro 0 (Exists.intro 0 (And.intro ⟨rfl, rfl, (Nat.le_of_ble_eq_true rfl), rfl, lx_all hx hl, lx_get hx hl, ⟨0, f6, rfl, h6⟩⟩ (And.intro (Nat.le_of_ble_eq_true rfl) (And.intro (Nat.le_of_ble_eq_true rfl) ?_)))))))
  refine monoC 8 96 0 0 _ _ _ _ (fun v h' hq => ?_) (rs_16 r)
  obtain ⟨z, rfl, hx', hcm⟩ := hq
  rw [lx_put hx hl hx']
  refine Exists.intro [72, 73, 74, 75, 76, 77, 78, 79, 80, 81, 82, 83, 84, 85, 86, 87, 88, 89, 90] (Exists.intro [.ref 0] (Exists.intro hm (Exists.intro 0 (Exists.intro 0 (And.intro ⟨rfl, rfl, (Nat.le_of_ble_eq_true rfl), rfl, lm_all hx' hl, lm_get hx' hl hy, ⟨0, f7, rfl, h7⟩⟩ (And.intro (Nat.le_of_ble_eq_true rfl) (And.intro (Nat.le_of_ble_eq_true rfl) ?_)))))))
  refine monoC 8 160 0 0 _ _ _ _ (fun v hm' hq => ?_) hcm
  obtain ⟨rfl, r'⟩ := hq
  rw [lm_put hx' hl r'.ym.1 r'.ym.2]
  refine br_t rfl ?_
  exact nx h' hm' r'
theorem lc_17 (r : RW h hm) (hi : i + 6 ≤ L) (hL : L ≤ 384) (nx : ∀ h hm, RW h hm → wp (600000, 7302250, callok 8) (k_law L xs) QL 1025 [some (.retAddr 0), some (.ref 0), some (.ref 72), some (.int (nI i))] [] (h ++ shW 72 hm) 91 1766) : wp (600000, 7302250, callok 8) (k_law L xs) QL 593 [some (.retAddr 0), some (.ref 0), some (.ref 72), some (.int (nI i))] [] (h ++ shW 72 hm) 91 1766 := by
  obtain ⟨f6, h6⟩ := r.h6
  obtain ⟨f7, h7⟩ := r.h7
  have hx := r.xc
  obtain ⟨hl, hy⟩ := r.ym
  refine gl_18 [1025] ?_
  refine Exists.intro (i + 1) (And.intro (show nI i + 1 = nI (i + 1) by rw [show (1 : Int32) = nI 1 from rfl, nI_add]) (And.intro ⟨rfl, by omega, hL⟩ ?_))
  refine Exists.intro [0, 1, 2, 3, 4, 5, 6, 7, 8, 9, 10, 11, 12, 13, 14, 15, 16, 17, 18, 19, 20, 21, 22, 23, 24, 25, 26, 27, 28, 29, 30, 31, 32, 33, 34, 35, 36, 37, 38, 39, 40, 41, 42, 43, 44, 45, 46, 47, 48, 49, 50, 51, 52, 53, 54, 55, 56, 57, 58, 59, 60, 61, 62, 63, 64, 65, 66, 67, 68, 69, 70, 71] (Exists.intro [.ref 0, .int (xs (i + 1))] (Exists.intro h (Exists.intro 0 (Exists.intro 0 (And.intro ⟨rfl, rfl, (Nat.le_of_ble_eq_true rfl), rfl, lx_all hx hl, lx_get hx hl, ⟨0, f6, rfl, h6⟩⟩ (And.intro (Nat.le_of_ble_eq_true rfl) (And.intro (Nat.le_of_ble_eq_true rfl) ?_)))))))
  refine monoC 8 97 0 0 _ _ _ _ (fun v h' hq => ?_) (rs_17 r)
  obtain ⟨z, rfl, hx', hcm⟩ := hq
  rw [lx_put hx hl hx']
  refine Exists.intro (i + 1) (And.intro (show nI i + 1 = nI (i + 1) by rw [show (1 : Int32) = nI 1 from rfl, nI_add]) (And.intro ⟨rfl, by omega, hL⟩ ?_))
  refine Exists.intro [72, 73, 74, 75, 76, 77, 78, 79, 80, 81, 82, 83, 84, 85, 86, 87, 88, 89, 90] (Exists.intro [.ref 0, .int (xs (i + 1))] (Exists.intro hm (Exists.intro 0 (Exists.intro 0 (And.intro ⟨rfl, rfl, (Nat.le_of_ble_eq_true rfl), rfl, lm_all hx' hl, lm_get hx' hl hy, ⟨0, f7, rfl, h7⟩⟩ (And.intro (Nat.le_of_ble_eq_true rfl) (And.intro (Nat.le_of_ble_eq_true rfl) ?_)))))))
  refine monoC 8 162 0 0 _ _ _ _ (fun v hm' hq => ?_) hcm
  obtain ⟨rfl, r'⟩ := hq
  rw [lm_put hx' hl r'.ym.1 r'.ym.2]
  refine br_t rfl ?_
  exact nx h' hm' r'
theorem lc_18 (r : RW h hm) (hi : i + 6 ≤ L) (hL : L ≤ 384) (nx : ∀ h hm, RW h hm → wp (600000, 7302250, callok 8) (k_law L xs) QL 1025 [some (.retAddr 0), some (.ref 0), some (.ref 72), some (.int (nI i))] [] (h ++ shW 72 hm) 91 1766) : wp (600000, 7302250, callok 8) (k_law L xs) QL 616 [some (.retAddr 0), some (.ref 0), some (.ref 72), some (.int (nI i))] [] (h ++ shW 72 hm) 91 1766 := by
  obtain ⟨f6, h6⟩ := r.h6
  obtain ⟨f7, h7⟩ := r.h7
  have hx := r.xc
  obtain ⟨hl, hy⟩ := r.ym
  refine gl_19 [1025] ?_
  refine Exists.intro (i + 1) (And.intro (show nI i + 1 = nI (i + 1) by rw [show (1 : Int32) = nI 1 from rfl, nI_add]) (And.intro ⟨rfl, by omega, hL⟩ ?_))
  refine Exists.intro (i + 2) (And.intro (show nI i + 2 = nI (i + 2) by rw [show (2 : Int32) = nI 2 from rfl, nI_add]) (And.intro ⟨rfl, by omega, hL⟩ ?_))
  refine Exists.intro [0, 1, 2, 3, 4, 5, 6, 7, 8, 9, 10, 11, 12, 13, 14, 15, 16, 17, 18, 19, 20, 21, 22, 23, 24, 25, 26, 27, 28, 29, 30, 31, 32, 33, 34, 35, 36, 37, 38, 39, 40, 41, 42, 43, 44, 45, 46, 47, 48, 49, 50, 51, 52, 53, 54, 55, 56, 57, 58, 59, 60, 61, 62, 63, 64, 65, 66, 67, 68, 69, 70, 71] (Exists.intro [.ref 0, .int (xs (i + 1)), .int (xs (i + 2))] (Exists.intro h (Exists.intro 0 (Exists.intro 0 (And.intro ⟨rfl, rfl, (Nat.le_of_ble_eq_true rfl), rfl, lx_all hx hl, lx_get hx hl, ⟨0, f6, rfl, h6⟩⟩ (And.intro (Nat.le_of_ble_eq_true rfl) (And.intro (Nat.le_of_ble_eq_true rfl) ?_)))))))
  refine monoC 8 98 0 0 _ _ _ _ (fun v h' hq => ?_) (rs_18 r)
  obtain ⟨z, rfl, hx', hcm⟩ := hq
  rw [lx_put hx hl hx']
  refine Exists.intro (i + 1) (And.intro (show nI i + 1 = nI (i + 1) by rw [show (1 : Int32) = nI 1 from rfl, nI_add]) (And.intro ⟨rfl, by omega, hL⟩ ?_))
  refine Exists.intro (i + 2) (And.intro (show nI i + 2 = nI (i + 2) by rw [show (2 : Int32) = nI 2 from rfl, nI_add]) (And.intro ⟨rfl, by omega, hL⟩ ?_))
  refine Exists.intro [72, 73, 74, 75, 76, 77, 78, 79, 80, 81, 82, 83, 84, 85, 86, 87, 88, 89, 90] (Exists.intro [.ref 0, .int (xs (i + 1)), .int (xs (i + 2))] (Exists.intro hm (Exists.intro 0 (Exists.intro 0 (And.intro ⟨rfl, rfl, (Nat.le_of_ble_eq_true rfl), rfl, lm_all hx' hl, lm_get hx' hl hy, ⟨0, f7, rfl, h7⟩⟩ (And.intro (Nat.le_of_ble_eq_true rfl) (And.intro (Nat.le_of_ble_eq_true rfl) ?_)))))))
  refine monoC 8 164 0 0 _ _ _ _ (fun v hm' hq => ?_) hcm
  obtain ⟨rfl, r'⟩ := hq
  rw [lm_put hx' hl r'.ym.1 r'.ym.2]
  refine br_t rfl ?_
  exact nx h' hm' r'
theorem lc_19 (r : RW h hm) (hi : i + 6 ≤ L) (hL : L ≤ 384) (nx : ∀ h hm, RW h hm → wp (600000, 7302250, callok 8) (k_law L xs) QL 1025 [some (.retAddr 0), some (.ref 0), some (.ref 72), some (.int (nI i))] [] (h ++ shW 72 hm) 91 1766) : wp (600000, 7302250, callok 8) (k_law L xs) QL 649 [some (.retAddr 0), some (.ref 0), some (.ref 72), some (.int (nI i))] [] (h ++ shW 72 hm) 91 1766 := by
  obtain ⟨f6, h6⟩ := r.h6
  obtain ⟨f7, h7⟩ := r.h7
  have hx := r.xc
  obtain ⟨hl, hy⟩ := r.ym
  refine gl_20 [1025] ?_
  refine Exists.intro (i + 1) (And.intro (show nI i + 1 = nI (i + 1) by rw [show (1 : Int32) = nI 1 from rfl, nI_add]) (And.intro ⟨rfl, by omega, hL⟩ ?_))
  refine Exists.intro (i + 2) (And.intro (show nI i + 2 = nI (i + 2) by rw [show (2 : Int32) = nI 2 from rfl, nI_add]) (And.intro ⟨rfl, by omega, hL⟩ ?_))
  refine Exists.intro [0, 1, 2, 3, 4, 5, 6, 7, 8, 9, 10, 11, 12, 13, 14, 15, 16, 17, 18, 19, 20, 21, 22, 23, 24, 25, 26, 27, 28, 29, 30, 31, 32, 33, 34, 35, 36, 37, 38, 39, 40, 41, 42, 43, 44, 45, 46, 47, 48, 49, 50, 51, 52, 53, 54, 55, 56, 57, 58, 59, 60, 61, 62, 63, 64, 65, 66, 67, 68, 69, 70, 71] (Exists.intro [.ref 0, .int (xs (i + 1)), .int (xs (i + 2))] (Exists.intro h (Exists.intro 0 (Exists.intro 0 (And.intro ⟨rfl, rfl, (Nat.le_of_ble_eq_true rfl), rfl, lx_all hx hl, lx_get hx hl, ⟨0, f6, rfl, h6⟩⟩ (And.intro (Nat.le_of_ble_eq_true rfl) (And.intro (Nat.le_of_ble_eq_true rfl) ?_)))))))
  refine monoC 8 99 0 0 _ _ _ _ (fun v h' hq => ?_) (rs_19 r)
  obtain ⟨z, rfl, hx', hcm⟩ := hq
  rw [lx_put hx hl hx']
  refine Exists.intro (i + 1) (And.intro (show nI i + 1 = nI (i + 1) by rw [show (1 : Int32) = nI 1 from rfl, nI_add]) (And.intro ⟨rfl, by omega, hL⟩ ?_))
  refine Exists.intro (i + 2) (And.intro (show nI i + 2 = nI (i + 2) by rw [show (2 : Int32) = nI 2 from rfl, nI_add]) (And.intro ⟨rfl, by omega, hL⟩ ?_))
  refine Exists.intro [72, 73, 74, 75, 76, 77, 78, 79, 80, 81, 82, 83, 84, 85, 86, 87, 88, 89, 90] (Exists.intro [.ref 0, .int (xs (i + 1)), .int (xs (i + 2))] (Exists.intro hm (Exists.intro 0 (Exists.intro 0 (And.intro ⟨rfl, rfl, (Nat.le_of_ble_eq_true rfl), rfl, lm_all hx' hl, lm_get hx' hl hy, ⟨0, f7, rfl, h7⟩⟩ (And.intro (Nat.le_of_ble_eq_true rfl) (And.intro (Nat.le_of_ble_eq_true rfl) ?_)))))))
  refine monoC 8 165 0 0 _ _ _ _ (fun v hm' hq => ?_) hcm
  obtain ⟨rfl, r'⟩ := hq
  rw [lm_put hx' hl r'.ym.1 r'.ym.2]
  refine br_t rfl ?_
  exact nx h' hm' r'
theorem lc_20 (r : RW h hm) (hi : i + 6 ≤ L) (hL : L ≤ 384) (nx : ∀ h hm, RW h hm → wp (600000, 7302250, callok 8) (k_law L xs) QL 1025 [some (.retAddr 0), some (.ref 0), some (.ref 72), some (.int (nI i))] [] (h ++ shW 72 hm) 91 1766) : wp (600000, 7302250, callok 8) (k_law L xs) QL 682 [some (.retAddr 0), some (.ref 0), some (.ref 72), some (.int (nI i))] [] (h ++ shW 72 hm) 91 1766 := by
  obtain ⟨f6, h6⟩ := r.h6
  obtain ⟨f7, h7⟩ := r.h7
  have hx := r.xc
  obtain ⟨hl, hy⟩ := r.ym
  refine gl_21 [1025] ?_
  refine Exists.intro (i + 1) (And.intro (show nI i + 1 = nI (i + 1) by rw [show (1 : Int32) = nI 1 from rfl, nI_add]) (And.intro ⟨rfl, by omega, hL⟩ ?_))
  refine Exists.intro (i + 2) (And.intro (show nI i + 2 = nI (i + 2) by rw [show (2 : Int32) = nI 2 from rfl, nI_add]) (And.intro ⟨rfl, by omega, hL⟩ ?_))
  refine Exists.intro [0, 1, 2, 3, 4, 5, 6, 7, 8, 9, 10, 11, 12, 13, 14, 15, 16, 17, 18, 19, 20, 21, 22, 23, 24, 25, 26, 27, 28, 29, 30, 31, 32, 33, 34, 35, 36, 37, 38, 39, 40, 41, 42, 43, 44, 45, 46, 47, 48, 49, 50, 51, 52, 53, 54, 55, 56, 57, 58, 59, 60, 61, 62, 63, 64, 65, 66, 67, 68, 69, 70, 71] (Exists.intro [.ref 0, .int (xs (i + 1)), .int (xs (i + 2))] (Exists.intro h (Exists.intro 0 (Exists.intro 0 (And.intro ⟨rfl, rfl, (Nat.le_of_ble_eq_true rfl), rfl, lx_all hx hl, lx_get hx hl, ⟨0, f6, rfl, h6⟩⟩ (And.intro (Nat.le_of_ble_eq_true rfl) (And.intro (Nat.le_of_ble_eq_true rfl) ?_)))))))
  refine monoC 8 100 0 0 _ _ _ _ (fun v h' hq => ?_) (rs_20 r)
  obtain ⟨z, rfl, hx', hcm⟩ := hq
  rw [lx_put hx hl hx']
  refine Exists.intro (i + 1) (And.intro (show nI i + 1 = nI (i + 1) by rw [show (1 : Int32) = nI 1 from rfl, nI_add]) (And.intro ⟨rfl, by omega, hL⟩ ?_))
  refine Exists.intro (i + 2) (And.intro (show nI i + 2 = nI (i + 2) by rw [show (2 : Int32) = nI 2 from rfl, nI_add]) (And.intro ⟨rfl, by omega, hL⟩ ?_))
  refine Exists.intro [72, 73, 74, 75, 76, 77, 78, 79, 80, 81, 82, 83, 84, 85, 86, 87, 88, 89, 90] (Exists.intro [.ref 0, .int (xs (i + 1)), .int (xs (i + 2))] (Exists.intro hm (Exists.intro 0 (Exists.intro 0 (And.intro ⟨rfl, rfl, (Nat.le_of_ble_eq_true rfl), rfl, lm_all hx' hl, lm_get hx' hl hy, ⟨0, f7, rfl, h7⟩⟩ (And.intro (Nat.le_of_ble_eq_true rfl) (And.intro (Nat.le_of_ble_eq_true rfl) ?_)))))))
  refine monoC 8 166 0 0 _ _ _ _ (fun v hm' hq => ?_) hcm
  obtain ⟨rfl, r'⟩ := hq
  rw [lm_put hx' hl r'.ym.1 r'.ym.2]
  refine br_t rfl ?_
  exact nx h' hm' r'
theorem lc_21 (r : RW h hm) (hi : i + 6 ≤ L) (hL : L ≤ 384) (nx : ∀ h hm, RW h hm → wp (600000, 7302250, callok 8) (k_law L xs) QL 1025 [some (.retAddr 0), some (.ref 0), some (.ref 72), some (.int (nI i))] [] (h ++ shW 72 hm) 91 1766) : wp (600000, 7302250, callok 8) (k_law L xs) QL 715 [some (.retAddr 0), some (.ref 0), some (.ref 72), some (.int (nI i))] [] (h ++ shW 72 hm) 91 1766 := by
  obtain ⟨f6, h6⟩ := r.h6
  obtain ⟨f7, h7⟩ := r.h7
  have hx := r.xc
  obtain ⟨hl, hy⟩ := r.ym
  refine gl_22 [1025] ?_
  refine Exists.intro (i + 1) (And.intro (show nI i + 1 = nI (i + 1) by rw [show (1 : Int32) = nI 1 from rfl, nI_add]) (And.intro ⟨rfl, by omega, hL⟩ ?_))
  refine Exists.intro (i + 2) (And.intro (show nI i + 2 = nI (i + 2) by rw [show (2 : Int32) = nI 2 from rfl, nI_add]) (And.intro ⟨rfl, by omega, hL⟩ ?_))
  refine Exists.intro (i + 3) (And.intro (show nI i + 3 = nI (i + 3) by rw [show (3 : Int32) = nI 3 from rfl, nI_add]) (And.intro ⟨rfl, by omega, hL⟩ ?_))
  refine Exists.intro (i + 4) (And.intro (show nI i + 4 = nI (i + 4) by rw [show (4 : Int32) = nI 4 from rfl, nI_add]) (And.intro ⟨rfl, by omega, hL⟩ ?_))
  refine Exists.intro [0, 1, 2, 3, 4, 5, 6, 7, 8, 9, 10, 11, 12, 13, 14, 15, 16, 17, 18, 19, 20, 21, 22, 23, 24, 25, 26, 27, 28, 29, 30, 31, 32, 33, 34, 35, 36, 37, 38, 39, 40, 41, 42, 43, 44, 45, 46, 47, 48, 49, 50, 51, 52, 53, 54, 55, 56, 57, 58, 59, 60, 61, 62, 63, 64, 65, 66, 67, 68, 69, 70, 71] (Exists.intro [.ref 0, .int (xs (i + 1)), .int (xs (i + 2)), .int (xs (i + 3)), .int (xs (i + 4))] (Exists.intro h (Exists.intro 0 (Exists.intro 0 (And.intro ⟨rfl, rfl, (Nat.le_of_ble_eq_true rfl), rfl, lx_all hx hl, lx_get hx hl, ⟨0, f6, rfl, h6⟩⟩ (And.intro (Nat.le_of_ble_eq_true rfl) (And.intro (Nat.le_of_ble_eq_true rfl) ?_)))))))
  refine monoC 8 101 0 0 _ _ _ _ (fun v h' hq => ?_) (rs_21 r)
  obtain ⟨z, rfl, hx', hcm⟩ := hq
  rw [lx_put hx hl hx']
  refine Exists.intro (i + 1) (And.intro (show nI i + 1 = nI (i + 1) by rw [show (1 : Int32) = nI 1 from rfl, nI_add]) (And.intro ⟨rfl, by omega, hL⟩ ?_))
  refine Exists.intro (i + 2) (And.intro (show nI i + 2 = nI (i + 2) by rw [show (2 : Int32) = nI 2 from rfl, nI_add]) (And.intro ⟨rfl, by omega, hL⟩ ?_))
  refine Exists.intro (i + 3) (And.intro (show nI i + 3 = nI (i + 3) by rw [show (3 : Int32) = nI 3 from rfl, nI_add]) (And.intro ⟨rfl, by omega, hL⟩ ?_))
  refine Exists.intro (i + 4) (And.intro (show nI i + 4 = nI (i + 4) by rw [show (4 : Int32) = nI 4 from rfl, nI_add]) (And.intro ⟨rfl, by omega, hL⟩ ?_))
  refine Exists.intro [72, 73, 74, 75, 76, 77, 78, 79, 80, 81, 82, 83, 84, 85, 86, 87, 88, 89, 90] (Exists.intro [.ref 0, .int (xs (i + 1)), .int (xs (i + 2)), .int (xs (i + 3)), .int (xs (i + 4))] (Exists.intro hm (Exists.intro 0 (Exists.intro 0 (And.intro ⟨rfl, rfl, (Nat.le_of_ble_eq_true rfl), rfl, lm_all hx' hl, lm_get hx' hl hy, ⟨0, f7, rfl, h7⟩⟩ (And.intro (Nat.le_of_ble_eq_true rfl) (And.intro (Nat.le_of_ble_eq_true rfl) ?_)))))))
  refine monoC 8 167 0 0 _ _ _ _ (fun v hm' hq => ?_) hcm
  obtain ⟨rfl, r'⟩ := hq
  rw [lm_put hx' hl r'.ym.1 r'.ym.2]
  refine br_t rfl ?_
  exact nx h' hm' r'
theorem lc_22 (r : RW h hm) (hi : i + 6 ≤ L) (hL : L ≤ 384) (nx : ∀ h hm, RW h hm → wp (600000, 7302250, callok 8) (k_law L xs) QL 1025 [some (.retAddr 0), some (.ref 0), some (.ref 72), some (.int (nI i))] [] (h ++ shW 72 hm) 91 1766) : wp (600000, 7302250, callok 8) (k_law L xs) QL 768 [some (.retAddr 0), some (.ref 0), some (.ref 72), some (.int (nI i))] [] (h ++ shW 72 hm) 91 1766 := by
  obtain ⟨f6, h6⟩ := r.h6
  obtain ⟨f7, h7⟩ := r.h7
  have hx := r.xc
  obtain ⟨hl, hy⟩ := r.ym
  refine gl_23 [1025] ?_
  refine Exists.intro [0, 1, 2, 3, 4, 5, 6, 7, 8, 9, 10, 11, 12, 13, 14, 15, 16, 17, 18, 19, 20, 21, 22, 23, 24, 25, 26, 27, 28, 29, 30, 31, 32, 33, 34, 35, 36, 37, 38, 39, 40, 41, 42, 43, 44, 45, 46, 47, 48, 49, 50, 51, 52, 53, 54, 55, 56, 57, 58, 59, 60, 61, 62, 63, 64, 65, 66, 67, 68, 69, 70, 71] (Exists.intro [.ref 0] (Exists.intro h (Exists.intro 0 (Exists.intro 0 (And.intro ⟨rfl, rfl, (Nat.le_of_ble_eq_true rfl), rfl, lx_all hx hl, lx_get hx hl, ⟨0, f6, rfl, h6⟩⟩ (And.intro (Nat.le_of_ble_eq_true rfl) (And.intro (Nat.le_of_ble_eq_true rfl) ?_)))))))
  refine monoC 8 102 0 0 _ _ _ _ (fun v h' hq => ?_) (rs_22 r)
  obtain ⟨z, rfl, hx', hcm⟩ := hq
  rw [lx_put hx hl hx']
  refine Exists.intro [72, 73, 74, 75, 76, 77, 78, 79, 80, 81, 82, 83, 84, 85, 86, 87, 88, 89, 90] (Exists.intro [.ref 0] (Exists.intro hm (Exists.intro 0 (Exists.intro 0 (And.intro ⟨rfl, rfl, (Nat.le_of_ble_eq_true rfl), rfl, lm_all hx' hl, lm_get hx' hl hy, ⟨0, f7, rfl, h7⟩⟩ (And.intro (Nat.le_of_ble_eq_true rfl) (And.intro (Nat.le_of_ble_eq_true rfl) ?_)))))))
  refine monoC 8 168 0 0 _ _ _ _ (fun v hm' hq => ?_) hcm
  obtain ⟨rfl, r'⟩ := hq
  rw [lm_put hx' hl r'.ym.1 r'.ym.2]
  refine br_t rfl ?_
  exact nx h' hm' r'
theorem lc_23 (r : RW h hm) (hi : i + 6 ≤ L) (hL : L ≤ 384) (nx : ∀ h hm, RW h hm → wp (600000, 7302250, callok 8) (k_law L xs) QL 1025 [some (.retAddr 0), some (.ref 0), some (.ref 72), some (.int (nI i))] [] (h ++ shW 72 hm) 91 1766) : wp (600000, 7302250, callok 8) (k_law L xs) QL 781 [some (.retAddr 0), some (.ref 0), some (.ref 72), some (.int (nI i))] [] (h ++ shW 72 hm) 91 1766 := by
  obtain ⟨f6, h6⟩ := r.h6
  obtain ⟨f7, h7⟩ := r.h7
  have hx := r.xc
  obtain ⟨hl, hy⟩ := r.ym
  refine gl_24 [1025] ?_
  refine Exists.intro (i + 1) (And.intro (show nI i + 1 = nI (i + 1) by rw [show (1 : Int32) = nI 1 from rfl, nI_add]) (And.intro ⟨rfl, by omega, hL⟩ ?_))
  refine Exists.intro [0, 1, 2, 3, 4, 5, 6, 7, 8, 9, 10, 11, 12, 13, 14, 15, 16, 17, 18, 19, 20, 21, 22, 23, 24, 25, 26, 27, 28, 29, 30, 31, 32, 33, 34, 35, 36, 37, 38, 39, 40, 41, 42, 43, 44, 45, 46, 47, 48, 49, 50, 51, 52, 53, 54, 55, 56, 57, 58, 59, 60, 61, 62, 63, 64, 65, 66, 67, 68, 69, 70, 71] (Exists.intro [.ref 0, .int (xs (i + 1))] (Exists.intro h (Exists.intro 0 (Exists.intro 0 (And.intro ⟨rfl, rfl, (Nat.le_of_ble_eq_true rfl), rfl, lx_all hx hl, lx_get hx hl, ⟨0, f6, rfl, h6⟩⟩ (And.intro (Nat.le_of_ble_eq_true rfl) (And.intro (Nat.le_of_ble_eq_true rfl) ?_)))))))
  refine monoC 8 103 0 0 _ _ _ _ (fun v h' hq => ?_) (rs_23 r)
  obtain ⟨z, rfl, hx', hcm⟩ := hq
  rw [lx_put hx hl hx']
  refine Exists.intro (i + 1) (And.intro (show nI i + 1 = nI (i + 1) by rw [show (1 : Int32) = nI 1 from rfl, nI_add]) (And.intro ⟨rfl, by omega, hL⟩ ?_))
  refine Exists.intro [72, 73, 74, 75, 76, 77, 78, 79, 80, 81, 82, 83, 84, 85, 86, 87, 88, 89, 90] (Exists.intro [.ref 0, .int (xs (i + 1))] (Exists.intro hm (Exists.intro 0 (Exists.intro 0 (And.intro ⟨rfl, rfl, (Nat.le_of_ble_eq_true rfl), rfl, lm_all hx' hl, lm_get hx' hl hy, ⟨0, f7, rfl, h7⟩⟩ (And.intro (Nat.le_of_ble_eq_true rfl) (And.intro (Nat.le_of_ble_eq_true rfl) ?_)))))))
  refine monoC 8 170 0 0 _ _ _ _ (fun v hm' hq => ?_) hcm
  obtain ⟨rfl, r'⟩ := hq
  rw [lm_put hx' hl r'.ym.1 r'.ym.2]
  refine br_t rfl ?_
  exact nx h' hm' r'
theorem lc_24 (r : RW h hm) (hi : i + 6 ≤ L) (hL : L ≤ 384) (nx : ∀ h hm, RW h hm → wp (600000, 7302250, callok 8) (k_law L xs) QL 1025 [some (.retAddr 0), some (.ref 0), some (.ref 72), some (.int (nI i))] [] (h ++ shW 72 hm) 91 1766) : wp (600000, 7302250, callok 8) (k_law L xs) QL 804 [some (.retAddr 0), some (.ref 0), some (.ref 72), some (.int (nI i))] [] (h ++ shW 72 hm) 91 1766 := by
  obtain ⟨f6, h6⟩ := r.h6
  obtain ⟨f7, h7⟩ := r.h7
  have hx := r.xc
  obtain ⟨hl, hy⟩ := r.ym
  refine gl_25 [1025] ?_
  refine Exists.intro (i + 1) (And.intro (show nI i + 1 = nI (i + 1) by rw [show (1 : Int32) = nI 1 from rfl, nI_add]) (And.intro ⟨rfl, by omega, hL⟩ ?_))
  refine Exists.intro [0, 1, 2, 3, 4, 5, 6, 7, 8, 9, 10, 11, 12, 13, 14, 15, 16, 17, 18, 19, 20, 21, 22, 23, 24, 25, 26, 27, 28, 29, 30, 31, 32, 33, 34, 35, 36, 37, 38, 39, 40, 41, 42, 43, 44, 45, 46, 47, 48, 49, 50, 51, 52, 53, 54, 55, 56, 57, 58, 59, 60, 61, 62, 63, 64, 65, 66, 67, 68, 69, 70, 71] (Exists.intro [.ref 0, .int (xs (i + 1))] (Exists.intro h (Exists.intro 0 (Exists.intro 0 (And.intro ⟨rfl, rfl, (Nat.le_of_ble_eq_true rfl), rfl, lx_all hx hl, lx_get hx hl, ⟨0, f6, rfl, h6⟩⟩ (And.intro (Nat.le_of_ble_eq_true rfl) (And.intro (Nat.le_of_ble_eq_true rfl) ?_)))))))
  refine monoC 8 104 0 0 _ _ _ _ (fun v h' hq => ?_) (rs_24 r)
  obtain ⟨z, rfl, hx', hcm⟩ := hq
  rw [lx_put hx hl hx']
  refine Exists.intro (i + 1) (And.intro (show nI i + 1 = nI (i + 1) by rw [show (1 : Int32) = nI 1 from rfl, nI_add]) (And.intro ⟨rfl, by omega, hL⟩ ?_))
  refine Exists.intro [72, 73, 74, 75, 76, 77, 78, 79, 80, 81, 82, 83, 84, 85, 86, 87, 88, 89, 90] (Exists.intro [.ref 0, .int (xs (i + 1))] (Exists.intro hm (Exists.intro 0 (Exists.intro 0 (And.intro ⟨rfl, rfl, (Nat.le_of_ble_eq_true rfl), rfl, lm_all hx' hl, lm_get hx' hl hy, ⟨0, f7, rfl, h7⟩⟩ (And.intro (Nat.le_of_ble_eq_true rfl) (And.intro (Nat.le_of_ble_eq_true rfl) ?_)))))))
  refine monoC 8 171 0 0 _ _ _ _ (fun v hm' hq => ?_) hcm
  obtain ⟨rfl, r'⟩ := hq
  rw [lm_put hx' hl r'.ym.1 r'.ym.2]
  refine br_t rfl ?_
  exact nx h' hm' r'
theorem lc_25 (r : RW h hm) (hi : i + 6 ≤ L) (hL : L ≤ 384) (nx : ∀ h hm, RW h hm → wp (600000, 7302250, callok 8) (k_law L xs) QL 1025 [some (.retAddr 0), some (.ref 0), some (.ref 72), some (.int (nI i))] [] (h ++ shW 72 hm) 91 1766) : wp (600000, 7302250, callok 8) (k_law L xs) QL 827 [some (.retAddr 0), some (.ref 0), some (.ref 72), some (.int (nI i))] [] (h ++ shW 72 hm) 91 1766 := by
  obtain ⟨f6, h6⟩ := r.h6
  obtain ⟨f7, h7⟩ := r.h7
  have hx := r.xc
  obtain ⟨hl, hy⟩ := r.ym
  refine gl_26 [1025] ?_
  refine Exists.intro (i + 1) (And.intro (show nI i + 1 = nI (i + 1) by rw [show (1 : Int32) = nI 1 from rfl, nI_add]) (And.intro ⟨rfl, by omega, hL⟩ ?_))
  refine Exists.intro (i + 2) (And.intro (show nI i + 2 = nI (i + 2) by rw [show (2 : Int32) = nI 2 from rfl, nI_add]) (And.intro ⟨rfl, by omega, hL⟩ ?_))
  refine Exists.intro (i + 3) (And.intro (show nI i + 3 = nI (i + 3) by rw [show (3 : Int32) = nI 3 from rfl, nI_add]) (And.intro ⟨rfl, by omega, hL⟩ ?_))
  refine Exists.intro [0, 1, 2, 3, 4, 5, 6, 7, 8, 9, 10, 11, 12, 13, 14, 15, 16, 17, 18, 19, 20, 21, 22, 23, 24, 25, 26, 27, 28, 29, 30, 31, 32, 33, 34, 35, 36, 37, 38, 39, 40, 41, 42, 43, 44, 45, 46, 47, 48, 49, 50, 51, 52, 53, 54, 55, 56, 57, 58, 59, 60, 61, 62, 63, 64, 65, 66, 67, 68, 69, 70, 71] (Exists.intro [.ref 0, .int (xs (i + 1)), .int (xs (i + 2)), .int (xs (i + 3))] (Exists.intro h (Exists.intro 0 (Exists.intro 0 (And.intro ⟨rfl, rfl, (Nat.le_of_ble_eq_true rfl), rfl, lx_all hx hl, lx_get hx hl, ⟨0, f6, rfl, h6⟩⟩ (And.intro (Nat.le_of_ble_eq_true rfl) (And.intro (Nat.le_of_ble_eq_true rfl) ?_)))))))
  refine monoC 8 105 0 0 _ _ _ _ (fun v h' hq => ?_) (rs_25 r)
  obtain ⟨z, rfl, hx', hcm⟩ := hq
  rw [lx_put hx hl hx']
  refine Exists.intro (i + 1) (And.intro (show nI i + 1 = nI (i + 1) by rw [show (1 : Int32) = nI 1 from rfl, nI_add]) (And.intro ⟨rfl, by omega, hL⟩ ?_))
  refine Exists.intro (i + 2) (And.intro (show nI i + 2 = nI (i + 2) by rw [show (2 : Int32) = nI 2 from rfl, nI_add]) (And.intro ⟨rfl, by omega, hL⟩ ?_))
  refine Exists.intro (i + 3) (And.intro (show nI i + 3 = nI (i + 3) by rw [show (3 : Int32) = nI 3 from rfl, nI_add]) (And.intro ⟨rfl, by omega, hL⟩ ?_))
  refine Exists.intro [72, 73, 74, 75, 76, 77, 78, 79, 80, 81, 82, 83, 84, 85, 86, 87, 88, 89, 90] (Exists.intro [.ref 0, .int (xs (i + 1)), .int (xs (i + 2)), .int (xs (i + 3))] (Exists.intro hm (Exists.intro 0 (Exists.intro 0 (And.intro ⟨rfl, rfl, (Nat.le_of_ble_eq_true rfl), rfl, lm_all hx' hl, lm_get hx' hl hy, ⟨0, f7, rfl, h7⟩⟩ (And.intro (Nat.le_of_ble_eq_true rfl) (And.intro (Nat.le_of_ble_eq_true rfl) ?_)))))))
  refine monoC 8 174 0 0 _ _ _ _ (fun v hm' hq => ?_) hcm
  obtain ⟨rfl, r'⟩ := hq
  rw [lm_put hx' hl r'.ym.1 r'.ym.2]
  refine br_t rfl ?_
  exact nx h' hm' r'
theorem lc_26 (r : RW h hm) (hi : i + 6 ≤ L) (hL : L ≤ 384) (nx : ∀ h hm, RW h hm → wp (600000, 7302250, callok 8) (k_law L xs) QL 1025 [some (.retAddr 0), some (.ref 0), some (.ref 72), some (.int (nI i))] [] (h ++ shW 72 hm) 91 1766) : wp (600000, 7302250, callok 8) (k_law L xs) QL 870 [some (.retAddr 0), some (.ref 0), some (.ref 72), some (.int (nI i))] [] (h ++ shW 72 hm) 91 1766 := by
  obtain ⟨f6, h6⟩ := r.h6
  obtain ⟨f7, h7⟩ := r.h7
  have hx := r.xc
  obtain ⟨hl, hy⟩ := r.ym
  refine gl_27 [1025] ?_
  refine Exists.intro (i + 1) (And.intro (show nI i + 1 = nI (i + 1) by rw [show (1 : Int32) = nI 1 from rfl, nI_add]) (And.intro ⟨rfl, by omega, hL⟩ ?_))
  refine Exists.intro (i + 2) (And.intro (show nI i + 2 = nI (i + 2) by rw [show (2 : Int32) = nI 2 from rfl, nI_add]) (And.intro ⟨rfl, by omega, hL⟩ ?_))
  refine Exists.intro (i + 3) (And.intro (show nI i + 3 = nI (i + 3) by rw [show (3 : Int32) = nI 3 from rfl, nI_add]) (And.intro ⟨rfl, by omega, hL⟩ ?_))
  refine Exists.intro (i + 4) (And.intro (show nI i + 4 = nI (i + 4) by rw [show (4 : Int32) = nI 4 from rfl, nI_add]) (And.intro ⟨rfl, by omega, hL⟩ ?_))
  refine Exists.intro (i + 5) (And.intro (show nI i + 5 = nI (i + 5) by rw [show (5 : Int32) = nI 5 from rfl, nI_add]) (And.intro ⟨rfl, by omega, hL⟩ ?_))
  refine Exists.intro [0, 1, 2, 3, 4, 5, 6, 7, 8, 9, 10, 11, 12, 13, 14, 15, 16, 17, 18, 19, 20, 21, 22, 23, 24, 25, 26, 27, 28, 29, 30, 31, 32, 33, 34, 35, 36, 37, 38, 39, 40, 41, 42, 43, 44, 45, 46, 47, 48, 49, 50, 51, 52, 53, 54, 55, 56, 57, 58, 59, 60, 61, 62, 63, 64, 65, 66, 67, 68, 69, 70, 71] (Exists.intro [.ref 0, .int (xs (i + 1)), .int (xs (i + 2)), .int (xs (i + 3)), .int (xs (i + 4)), .int (xs (i + 5))] (Exists.intro h (Exists.intro 0 (Exists.intro 0 (And.intro ⟨rfl, rfl, (Nat.le_of_ble_eq_true rfl), rfl, lx_all hx hl, lx_get hx hl, ⟨0, f6, rfl, h6⟩⟩ (And.intro (Nat.le_of_ble_eq_true rfl) (And.intro (Nat.le_of_ble_eq_true rfl) ?_)))))))
  refine monoC 8 106 0 0 _ _ _ _ (fun v h' hq => ?_) (rs_26 r)
  obtain ⟨z, rfl, hx', hcm⟩ := hq
  rw [lx_put hx hl hx']
  refine Exists.intro (i + 1) (And.intro (show nI i + 1 = nI (i + 1) by rw [show (1 : Int32) = nI 1 from rfl, nI_add]) (And.intro ⟨rfl, by omega, hL⟩ ?_))
  refine Exists.intro (i + 2) (And.intro (show nI i + 2 = nI (i + 2) by rw [show (2 : Int32) = nI 2 from rfl, nI_add]) (And.intro ⟨rfl, by omega, hL⟩ ?_))
  refine Exists.intro (i + 3) (And.intro (show nI i + 3 = nI (i + 3) by rw [show (3 : Int32) = nI 3 from rfl, nI_add]) (And.intro ⟨rfl, by omega, hL⟩ ?_))
  refine Exists.intro (i + 4) (And.intro (show nI i + 4 = nI (i + 4) by rw [show (4 : Int32) = nI 4 from rfl, nI_add]) (And.intro ⟨rfl, by omega, hL⟩ ?_))
  refine Exists.intro (i + 5) (And.intro (show nI i + 5 = nI (i + 5) by rw [show (5 : Int32) = nI 5 from rfl, nI_add]) (And.intro ⟨rfl, by omega, hL⟩ ?_))
  refine Exists.intro [72, 73, 74, 75, 76, 77, 78, 79, 80, 81, 82, 83, 84, 85, 86, 87, 88, 89, 90] (Exists.intro [.ref 0, .int (xs (i + 1)), .int (xs (i + 2)), .int (xs (i + 3)), .int (xs (i + 4)), .int (xs (i + 5))] (Exists.intro hm (Exists.intro 0 (Exists.intro 0 (And.intro ⟨rfl, rfl, (Nat.le_of_ble_eq_true rfl), rfl, lm_all hx' hl, lm_get hx' hl hy, ⟨0, f7, rfl, h7⟩⟩ (And.intro (Nat.le_of_ble_eq_true rfl) (And.intro (Nat.le_of_ble_eq_true rfl) ?_)))))))
  refine monoC 8 176 0 0 _ _ _ _ (fun v hm' hq => ?_) hcm
  obtain ⟨rfl, r'⟩ := hq
  rw [lm_put hx' hl r'.ym.1 r'.ym.2]
  refine br_t rfl ?_
  exact nx h' hm' r'
theorem lc_27 (r : RW h hm) (hi : i + 6 ≤ L) (hL : L ≤ 384) (nx : ∀ h hm, RW h hm → wp (600000, 7302250, callok 8) (k_law L xs) QL 1025 [some (.retAddr 0), some (.ref 0), some (.ref 72), some (.int (nI i))] [] (h ++ shW 72 hm) 91 1766) : wp (600000, 7302250, callok 8) (k_law L xs) QL 933 [some (.retAddr 0), some (.ref 0), some (.ref 72), some (.int (nI i))] [] (h ++ shW 72 hm) 91 1766 := by
  obtain ⟨f6, h6⟩ := r.h6
  obtain ⟨f7, h7⟩ := r.h7
  have hx := r.xc
  obtain ⟨hl, hy⟩ := r.ym
  refine gl_28 [1025] ?_
  refine Exists.intro (i + 1) (And.intro (show nI i + 1 = nI (i + 1) by rw [show (1 : Int32) = nI 1 from rfl, nI_add]) (And.intro ⟨rfl, by omega, hL⟩ ?_))
  refine Exists.intro (i + 2) (And.intro (show nI i + 2 = nI (i + 2) by rw [show (2 : Int32) = nI 2 from rfl, nI_add]) (And.intro ⟨rfl, by omega, hL⟩ ?_))
  refine Exists.intro (i + 3) (And.intro (show nI i + 3 = nI (i + 3) by rw [show (3 : Int32) = nI 3 from rfl, nI_add]) (And.intro ⟨rfl, by omega, hL⟩ ?_))
  refine Exists.intro [0, 1, 2, 3, 4, 5, 6, 7, 8, 9, 10, 11, 12, 13, 14, 15, 16, 17, 18, 19, 20, 21, 22, 23, 24, 25, 26, 27, 28, 29, 30, 31, 32, 33, 34, 35, 36, 37, 38, 39, 40, 41, 42, 43, 44, 45, 46, 47, 48, 49, 50, 51, 52, 53, 54, 55, 56, 57, 58, 59, 60, 61, 62, 63, 64, 65, 66, 67, 68, 69, 70, 71] (Exists.intro [.ref 0, .int (xs (i + 1)), .int (xs (i + 2)), .int (xs (i + 3))] (Exists.intro h (Exists.intro 0 (Exists.intro 0 (And.intro ⟨rfl, rfl, (Nat.le_of_ble_eq_true rfl), rfl, lx_all hx hl, lx_get hx hl, ⟨0, f6, rfl, h6⟩⟩ (And.intro (Nat.le_of_ble_eq_true rfl) (And.intro (Nat.le_of_ble_eq_true rfl) ?_)))))))
  refine monoC 8 107 0 0 _ _ _ _ (fun v h' hq => ?_) (rs_27 r)
  obtain ⟨z, rfl, hx', hcm⟩ := hq
  rw [lx_put hx hl hx']
  refine Exists.intro (i + 1) (And.intro (show nI i + 1 = nI (i + 1) by rw [show (1 : Int32) = nI 1 from rfl, nI_add]) (And.intro ⟨rfl, by omega, hL⟩ ?_))
  refine Exists.intro (i + 2) (And.intro (show nI i + 2 = nI (i + 2) by rw [show (2 : Int32) = nI 2 from rfl, nI_add]) (And.intro ⟨rfl, by omega, hL⟩ ?_))
  refine Exists.intro (i + 3) (And.intro (show nI i + 3 = nI (i + 3) by rw [show (3 : Int32) = nI 3 from rfl, nI_add]) (And.intro ⟨rfl, by omega, hL⟩ ?_))
  refine Exists.intro [72, 73, 74, 75, 76, 77, 78, 79, 80, 81, 82, 83, 84, 85, 86, 87, 88, 89, 90] (Exists.intro [.ref 0, .int (xs (i + 1)), .int (xs (i + 2)), .int (xs (i + 3))] (Exists.intro hm (Exists.intro 0 (Exists.intro 0 (And.intro ⟨rfl, rfl, (Nat.le_of_ble_eq_true rfl), rfl, lm_all hx' hl, lm_get hx' hl hy, ⟨0, f7, rfl, h7⟩⟩ (And.intro (Nat.le_of_ble_eq_true rfl) (And.intro (Nat.le_of_ble_eq_true rfl) ?_)))))))
  refine monoC 8 177 0 0 _ _ _ _ (fun v hm' hq => ?_) hcm
  obtain ⟨rfl, r'⟩ := hq
  rw [lm_put hx' hl r'.ym.1 r'.ym.2]
  refine br_t rfl ?_
  exact nx h' hm' r'
theorem lc_28 (r : RW h hm) (hi : i + 6 ≤ L) (hL : L ≤ 384) (nx : ∀ h hm, RW h hm → wp (600000, 7302250, callok 8) (k_law L xs) QL 1025 [some (.retAddr 0), some (.ref 0), some (.ref 72), some (.int (nI i))] [] (h ++ shW 72 hm) 91 1766) : wp (600000, 7302250, callok 8) (k_law L xs) QL 976 [some (.retAddr 0), some (.ref 0), some (.ref 72), some (.int (nI i))] [] (h ++ shW 72 hm) 91 1766 := by
  obtain ⟨f6, h6⟩ := r.h6
  obtain ⟨f7, h7⟩ := r.h7
  have hx := r.xc
  obtain ⟨hl, hy⟩ := r.ym
  refine gl_29 [1025] ?_
  refine Exists.intro [0, 1, 2, 3, 4, 5, 6, 7, 8, 9, 10, 11, 12, 13, 14, 15, 16, 17, 18, 19, 20, 21, 22, 23, 24, 25, 26, 27, 28, 29, 30, 31, 32, 33, 34, 35, 36, 37, 38, 39, 40, 41, 42, 43, 44, 45, 46, 47, 48, 49, 50, 51, 52, 53, 54, 55, 56, 57, 58, 59, 60, 61, 62, 63, 64, 65, 66, 67, 68, 69, 70, 71] (Exists.intro [.ref 0] (Exists.intro h (Exists.intro 0 (Exists.intro 0 (And.intro ⟨rfl, rfl, (Nat.le_of_ble_eq_true rfl), rfl, lx_all hx hl, lx_get hx hl, ⟨0, f6, rfl, h6⟩⟩ (And.intro (Nat.le_of_ble_eq_true rfl) (And.intro (Nat.le_of_ble_eq_true rfl) ?_)))))))
  refine monoC 8 108 0 0 _ _ _ _ (fun v h' hq => ?_) (rs_28 r)
  obtain ⟨z, rfl, hx', hcm⟩ := hq
  rw [lx_put hx hl hx']
  refine Exists.intro [72, 73, 74, 75, 76, 77, 78, 79, 80, 81, 82, 83, 84, 85, 86, 87, 88, 89, 90] (Exists.intro [.ref 0] (Exists.intro hm (Exists.intro 0 (Exists.intro 0 (And.intro ⟨rfl, rfl, (Nat.le_of_ble_eq_true rfl), rfl, lm_all hx' hl, lm_get hx' hl hy, ⟨0, f7, rfl, h7⟩⟩ (And.intro (Nat.le_of_ble_eq_true rfl) (And.intro (Nat.le_of_ble_eq_true rfl) ?_)))))))
  refine monoC 8 178 0 0 _ _ _ _ (fun v hm' hq => ?_) hcm
  obtain ⟨rfl, r'⟩ := hq
  rw [lm_put hx' hl r'.ym.1 r'.ym.2]
  refine br_t rfl ?_
  exact nx h' hm' r'
theorem lc_29 (r : RW h hm) (hi : i + 6 ≤ L) (hL : L ≤ 384) (nx : ∀ h hm, RW h hm → wp (600000, 7302250, callok 8) (k_law L xs) QL 1025 [some (.retAddr 0), some (.ref 0), some (.ref 72), some (.int (nI i))] [] (h ++ shW 72 hm) 91 1766) : wp (600000, 7302250, callok 8) (k_law L xs) QL 989 [some (.retAddr 0), some (.ref 0), some (.ref 72), some (.int (nI i))] [] (h ++ shW 72 hm) 91 1766 := by
  obtain ⟨f6, h6⟩ := r.h6
  obtain ⟨f7, h7⟩ := r.h7
  have hx := r.xc
  obtain ⟨hl, hy⟩ := r.ym
  refine gl_30 [1025] ?_
  refine Exists.intro [0, 1, 2, 3, 4, 5, 6, 7, 8, 9, 10, 11, 12, 13, 14, 15, 16, 17, 18, 19, 20, 21, 22, 23, 24, 25, 26, 27, 28, 29, 30, 31, 32, 33, 34, 35, 36, 37, 38, 39, 40, 41, 42, 43, 44, 45, 46, 47, 48, 49, 50, 51, 52, 53, 54, 55, 56, 57, 58, 59, 60, 61, 62, 63, 64, 65, 66, 67, 68, 69, 70, 71] (Exists.intro [.ref 0] (Exists.intro h (Exists.intro 0 (Exists.intro 0 (And.intro ⟨rfl, rfl, (Nat.le_of_ble_eq_true rfl), rfl, lx_all hx hl, lx_get hx hl, ⟨0, f6, rfl, h6⟩⟩ (And.intro (Nat.le_of_ble_eq_true rfl) (And.intro (Nat.le_of_ble_eq_true rfl) ?_)))))))
  refine monoC 8 109 0 0 _ _ _ _ (fun v h' hq => ?_) (rs_29 r)
  obtain ⟨z, rfl, hx', hcm⟩ := hq
  rw [lx_put hx hl hx']
  refine Exists.intro [72, 73, 74, 75, 76, 77, 78, 79, 80, 81, 82, 83, 84, 85, 86, 87, 88, 89, 90] (Exists.intro [.ref 0] (Exists.intro hm (Exists.intro 0 (Exists.intro 0 (And.intro ⟨rfl, rfl, (Nat.le_of_ble_eq_true rfl), rfl, lm_all hx' hl, lm_get hx' hl hy, ⟨0, f7, rfl, h7⟩⟩ (And.intro (Nat.le_of_ble_eq_true rfl) (And.intro (Nat.le_of_ble_eq_true rfl) ?_)))))))
  refine monoC 8 179 0 0 _ _ _ _ (fun v hm' hq => ?_) hcm
  obtain ⟨rfl, r'⟩ := hq
  rw [lm_put hx' hl r'.ym.1 r'.ym.2]
  refine br_t rfl ?_
  exact nx h' hm' r'
theorem lc_30 (r : RW h hm) (hi : i + 6 ≤ L) (hL : L ≤ 384) (nx : ∀ h hm, RW h hm → wp (600000, 7302250, callok 8) (k_law L xs) QL 1025 [some (.retAddr 0), some (.ref 0), some (.ref 72), some (.int (nI i))] [] (h ++ shW 72 hm) 91 1766) : wp (600000, 7302250, callok 8) (k_law L xs) QL 1002 [some (.retAddr 0), some (.ref 0), some (.ref 72), some (.int (nI i))] [] (h ++ shW 72 hm) 91 1766 := by
  obtain ⟨f6, h6⟩ := r.h6
  obtain ⟨f7, h7⟩ := r.h7
  have hx := r.xc
  obtain ⟨hl, hy⟩ := r.ym
  refine gl_31 [1025] ?_
  refine Exists.intro (i + 1) (And.intro (show nI i + 1 = nI (i + 1) by rw [show (1 : Int32) = nI 1 from rfl, nI_add]) (And.intro ⟨rfl, by omega, hL⟩ ?_))
  refine Exists.intro [0, 1, 2, 3, 4, 5, 6, 7, 8, 9, 10, 11, 12, 13, 14, 15, 16, 17, 18, 19, 20, 21, 22, 23, 24, 25, 26, 27, 28, 29, 30, 31, 32, 33, 34, 35, 36, 37, 38, 39, 40, 41, 42, 43, 44, 45, 46, 47, 48, 49, 50, 51, 52, 53, 54, 55, 56, 57, 58, 59, 60, 61, 62, 63, 64, 65, 66, 67, 68, 69, 70, 71] (Exists.intro [.ref 0, .int (xs (i + 1))] (Exists.intro h (Exists.intro 0 (Exists.intro 0 (And.intro ⟨rfl, rfl, (Nat.le_of_ble_eq_true rfl), rfl, lx_all hx hl, lx_get hx hl, ⟨0, f6, rfl, h6⟩⟩ (And.intro (Nat.le_of_ble_eq_true rfl) (And.intro (Nat.le_of_ble_eq_true rfl) ?_)))))))
  refine monoC 8 110 0 0 _ _ _ _ (fun v h' hq => ?_) (rs_30 r)
  obtain ⟨z, rfl, hx', hcm⟩ := hq
  rw [lx_put hx hl hx']
  refine Exists.intro (i + 1) (And.intro (show nI i + 1 = nI (i + 1) by rw [show (1 : Int32) = nI 1 from rfl, nI_add]) (And.intro ⟨rfl, by omega, hL⟩ ?_))
  refine Exists.intro [72, 73, 74, 75, 76, 77, 78, 79, 80, 81, 82, 83, 84, 85, 86, 87, 88, 89, 90] (Exists.intro [.ref 0, .int (xs (i + 1))] (Exists.intro hm (Exists.intro 0 (Exists.intro 0 (And.intro ⟨rfl, rfl, (Nat.le_of_ble_eq_true rfl), rfl, lm_all hx' hl, lm_get hx' hl hy, ⟨0, f7, rfl, h7⟩⟩ (And.intro (Nat.le_of_ble_eq_true rfl) (And.intro (Nat.le_of_ble_eq_true rfl) ?_)))))))
  refine monoC 8 180 0 0 _ _ _ _ (fun v hm' hq => ?_) hcm
  obtain ⟨rfl, r'⟩ := hq
  rw [lm_put hx' hl r'.ym.1 r'.ym.2]
  refine br_t rfl ?_
  exact nx h' hm' r'
end LC
