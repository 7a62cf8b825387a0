/-! THE LAW: its loop, its start -/
theorem lc_if {L i : Nat} (hL : L ≤ 384) (hi : i ≤ 390) : nI L - 6 < nI i ↔ ¬ i + 6 ≤ L := by
  have e : (nI L - 6).toInt = (L : Int) - 6 := pk_sub_toInt (a := L) (b := 6) (by omega) (by omega)
  rw [Int32.lt_iff_toInt_lt, e, nI_toInt (by omega)]
  omega
theorem law_loop {L : Nat} {xs : Nat → Int32} (hL : L ≤ 384) : ∀ (m i : Nat) (h hm : List aC), L ≤ i + m → i ≤ 390 → RW h hm → wp (600000, 7302250, callok 8) (k_law L xs) QL 18 [some (.retAddr 0), some (.ref 0), some (.ref 72), some (.int (nI i))] [] (h ++ shW 72 hm) 91 1766 := by
  intro m
  induction m with
  | zero =>
    intro i h hm hm2 hi r
    refine gl_0 [18, 27, 1031] ?_
    refine And.intro rfl ?_
    refine br_t ((lc_if hL hi).mpr (by omega)) ?_
    refine gl_32 [] ?_
    exact And.intro (Or.inr rfl) ⟨rfl, (Nat.le_of_ble_eq_true rfl), (Nat.le_of_ble_eq_true rfl)⟩
  | succ m ih =>
    intro i h hm hm2 hi r
    refine gl_0 [18, 1025, 1031, 172, 195, 208, 221, 234, 267, 300, 323, 346, 389, 412, 435, 458, 491, 504, 547, 580, 593, 616, 649, 682, 715, 768, 781, 804, 827, 870, 933, 976, 989, 1002] ?_
    refine And.intro rfl ?_
    refine br_c (fun c => ?_) (fun c => ?_)
    · refine gl_32 [] ?_
      exact And.intro (Or.inr rfl) ⟨rfl, (Nat.le_of_ble_eq_true rfl), (Nat.le_of_ble_eq_true rfl)⟩
    · have h6 : i + 6 ≤ L := by
        rcases Nat.lt_or_ge L (i + 6) with q | q
        · exact absurd ((lc_if hL hi).mpr (by omega)) c
        · exact q
      have nx : ∀ h hm, RW h hm → wp (600000, 7302250, callok 8) (k_law L xs) QL 1025 [some (.retAddr 0), some (.ref 0), some (.ref 72), some (.int (nI i))] [] (h ++ shW 72 hm) 91 1766 := by
        intro h hm r
        refine gl_32 [18] ?_
        have h9 := ih (i + 6) h hm (by omega) (by omega) r
        rw [show nI (i + 6) = nI i + 6 by rw [show (6 : Int32) = nI 6 from rfl, nI_add]] at h9
        exact h9
      refine Exists.intro i (And.intro rfl (And.intro ⟨rfl, by omega, hL⟩ ?_))
      refine And.intro (fun _ => nx h hm r) (fun j a hj hx => ?_)
      match j, hj with
      | 0, hj => cases hj; exact lc_0 r h6 hL nx
      | 1, hj => cases hj; exact lc_1 r h6 hL nx
      | 2, hj => cases hj; exact lc_2 r h6 hL nx
      | 3, hj => cases hj; exact lc_3 r h6 hL nx
      | 4, hj => cases hj; exact lc_4 r h6 hL nx
      | 5, hj => cases hj; exact lc_5 r h6 hL nx
      | 6, hj => cases hj; exact lc_6 r h6 hL nx
      | 7, hj => cases hj; exact lc_7 r h6 hL nx
      | 8, hj => cases hj; exact lc_8 r h6 hL nx
      | 9, hj => cases hj; exact lc_9 r h6 hL nx
      | 10, hj => cases hj; exact lc_10 r h6 hL nx
      | 11, hj => cases hj; exact lc_11 r h6 hL nx
      | 12, hj => cases hj; exact lc_12 r h6 hL nx
      | 13, hj => cases hj; exact lc_13 r h6 hL nx
      | 14, hj => cases hj; exact lc_14 r h6 hL nx
      | 15, hj => cases hj; exact lc_15 r h6 hL nx
      | 16, hj => cases hj; exact lc_16 r h6 hL nx
      | 17, hj => cases hj; exact lc_17 r h6 hL nx
      | 18, hj => cases hj; exact lc_18 r h6 hL nx
      | 19, hj => cases hj; exact lc_19 r h6 hL nx
      | 20, hj => cases hj; exact lc_20 r h6 hL nx
      | 21, hj => cases hj; exact lc_21 r h6 hL nx
      | 22, hj => cases hj; exact lc_22 r h6 hL nx
      | 23, hj => cases hj; exact lc_23 r h6 hL nx
      | 24, hj => cases hj; exact lc_24 r h6 hL nx
      | 25, hj => cases hj; exact lc_25 r h6 hL nx
      | 26, hj => cases hj; exact lc_26 r h6 hL nx
      | 27, hj => cases hj; exact lc_27 r h6 hL nx
      | 28, hj => cases hj; exact lc_28 r h6 hL nx
      | 29, hj => cases hj; exact lc_29 r h6 hL nx
      | 30, hj => cases hj; exact lc_30 r h6 hL nx
      | j + 31, hj => simp at hj
theorem rc_id {f : Nat → Nat} (hf : ∀ j, f j = j) (c : aC) : rc f c = c := by
  have e : f = id := funext hf
  subst e
  have e2 : rv id = id := by
    funext v
    cases v <;> rfl
  rcases c with a | ⟨n, g⟩ | ⟨ci, fs⟩
  · rfl
  · show (.inr (.inl (n, fun i => (g i).map id)) : aC) = _
    have : (fun i => (g i).map id) = g := by
      funext i
      cases g i <;> rfl
    rw [this]
  · show (.inr (.inr (ci, fs.map (rv id))) : aC) = _
    rw [e2, List.map_id]
theorem p_new0 {c0 : aC} {ws : List aC} (hw : ws ≠ []) : put ([] ++ [c0]) [0] (ws.map (rc (rho [0] ([] ++ [c0] : List aC).length))) = ws := by
  refine (p_new (h := []) (c0 := c0) hw).trans ?_
  rw [List.nil_append]
  have : ws.map (rc (fun j => ([] : List aC).length + j)) = ws.map id := List.map_congr_left (fun c _ => rc_id (fun j => by simp) c)
  rw [this, List.map_id]
theorem law_m {L : Nat} {xs : Nat → Int32} {X : List aC} (hL : L ≤ 384) (r : RW X (mw (nI 5) 4 0 0 0 0 0 0 0 0 mK mT mM mN (fun _ => 0) (fun _ => 0) (fun _ => 0) (fun _ => 0) (fun _ => 0) (fun _ => 0) (fun _ => 0) (fun _ => 0) (fun _ => 0) (fun _ => 0) (fun _ => 0) (fun _ => 0) (fun _ => 0) (fun _ => 0))) : wp (600000, 7302250, callok 8) (k_law L xs) QL 8 [some (.retAddr 0), some (.ref 0), none, none] [] X 72 944 := by
  have hl : X.length = 72 := r.xc.1
  refine gl_0 [18] ?_
  refine And.intro (Nat.le_of_ble_eq_true rfl) (And.intro (Nat.le_of_ble_eq_true rfl) ?_)
  refine Exists.intro [X.length] (Exists.intro [.ref 0] (Exists.intro [ao 7 [.int 0, .int 0, .null, .int 0, .null, .null, .null, .int 0, .null, .null, .null, .null, .int 0, .int 0, .int 0, .int 0, .null, .null, .null, .null, .null, .null, .int 0, .null, .null, .null, .null, .int 0]] (Exists.intro 18 (Exists.intro 794 (And.intro ⟨rfl, rfl, (Nat.le_of_ble_eq_true rfl), rfl, by simp, by simp [rc, rv], ⟨0, rfl⟩⟩ (And.intro (Nat.le_of_ble_eq_true rfl) (And.intro (Nat.le_of_ble_eq_true rfl) ?_)))))))
  refine y_init (d := 6) ?_
  rw [p_new (h := X) (ws := (mw (nI 5) 4 0 0 0 0 0 0 0 0 mK mT mM mN (fun _ => 0) (fun _ => 0) (fun _ => 0) (fun _ => 0) (fun _ => 0) (fun _ => 0) (fun _ => 0) (fun _ => 0) (fun _ => 0) (fun _ => 0) (fun _ => 0) (fun _ => 0) (fun _ => 0) (fun _ => 0))) (by simp)]
  show wp (600000, 7302250, callok 8) (k_law L xs) QL 18 [some (.retAddr 0), some (.ref 0), some (.ref X.length), some (.int (nI 0))] [] (X ++ shW X.length (mw (nI 5) 4 0 0 0 0 0 0 0 0 mK mT mM mN (fun _ => 0) (fun _ => 0) (fun _ => 0) (fun _ => 0) (fun _ => 0) (fun _ => 0) (fun _ => 0) (fun _ => 0) (fun _ => 0) (fun _ => 0) (fun _ => 0) (fun _ => 0) (fun _ => 0) (fun _ => 0))) 91 1766
  rw [hl]
  exact law_loop hL L 0 X _ (by omega) (by omega) r
theorem g0_h : G0.2.2.2.2.1 = 5 := by decide +kernel
theorem g0_r : G0.2.2.2.2.2.1 = 4 := by decide +kernel
theorem g0_m : G0.2.2.2.2.2.2 = 8 := by decide +kernel
theorem g0_k : ∀ a, a < 5 → G0.2.1 a = mK a := by decide +kernel
theorem g0_t : ∀ a, a < 5 → ∀ b, b < 4 → G0.2.2.1 (5 * a + b) = mT (5 * a + b) := by decide +kernel
theorem g0_w : ∀ k, k < 4 → mN k = wnf (G0.2.2.2.1 k) := by decide +kernel
theorem g0_c : ∀ a, a < 5 → mM a = nI (if (8 : Nat).testBit a = true then 1 else 0) := by decide +kernel
theorem rw_0 : RW (x0W (txF 53) 0 N0) (mw (nI 5) 4 0 0 0 0 0 0 0 0 mK mT mM mN (fun _ => 0) (fun _ => 0) (fun _ => 0) (fun _ => 0) (fun _ => 0) (fun _ => 0) (fun _ => 0) (fun _ => 0) (fun _ => 0) (fun _ => 0) (fun _ => 0) (fun _ => 0) (fun _ => 0) (fun _ => 0)) := by
  have hB : psB G0.2 := rd_b 200 0 _ ⟨fun k => ⟨10, Nat.le_refl _, rfl⟩, Nat.one_pos, fun a ha => absurd ha (Nat.not_lt_zero a), Or.inl rfl⟩
  have hb : bnd 5 4 G0.2.2.1 := by
    have := hB.2.2.1
    rw [g0_h, g0_r] at this
    exact this
  have e : N0 = (G0.2.1, G0.2.2.1, G0.2.2.2.1, nI 5, nI 4, nI 8, 0) := by
    show (G0.2.1, G0.2.2.1, G0.2.2.2.1, nI G0.2.2.2.2.1, nI G0.2.2.2.2.2.1, nI G0.2.2.2.2.2.2, (0 : Int32)) = _
    rw [g0_h, g0_r, g0_m]
  rw [e]
  refine rw_mk (H := 5) (R := 4) (M := 8) (L := 0) (S := 0) (S8 := 0) (S2 := 0) (sd := fun _ => 0) (sh := fun _ => 0) (sr := fun _ => 0) ⟨⟨by omega, by omega, by omega, by omega⟩, ⟨Nat.zero_le _, fun k hk => absurd hk (Nat.not_lt_zero k)⟩, ⟨g0_k, g0_t, hb, g0_c, fun k hk => ⟨hB.1 k, g0_w k hk⟩, by decide⟩, ⟨Nat.zero_le _, fun i hi => hi, fun i _ j _ e => e, fun i hi => absurd hi (Nat.not_lt_zero i)⟩, ⟨Nat.zero_le _, fun i hi => hi, fun i _ j _ e => e, fun i hi => absurd hi (Nat.not_lt_zero i)⟩, Nat.zero_le _, fun _ => Nat.zero_le _, fun i hi => absurd hi (Nat.not_lt_zero i)⟩
theorem law_all (L : Nat) (xs : Nat → Int32) (hL : L ≤ 384) : wp (600000, 7302250, callok 8) (k_law L xs) QL 0 [some (.retAddr 0), none, none, none] [] [] 0 0 := by
  refine gl_0 [8] ?_
  refine And.intro (Nat.le_of_ble_eq_true rfl) (And.intro (Nat.le_of_ble_eq_true rfl) ?_)
  refine Exists.intro [0] (Exists.intro [.ref 0] (Exists.intro [ao 6 [.null, .null, .null, .null, .null, .null, .null, .null]] (Exists.intro 71 (Exists.intro 936 (And.intro ⟨rfl, rfl, (Nat.le_of_ble_eq_true rfl), rfl, rfl, rfl, ⟨0, rfl⟩⟩ (And.intro (Nat.le_of_ble_eq_true rfl) (And.intro (Nat.le_of_ble_eq_true rfl) ?_)))))))
  refine x_init ?_
  rw [p_new0 (c0 := ao 6 [.null, .null, .null, .null, .null, .null, .null, .null]) (ws := x0W (txF 53) 0 N0) (by simp)]
  exact law_m hL rw_0
