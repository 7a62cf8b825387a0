/-! EACH CALL: both answer alike, and go on alike -/
theorem nE {a b : Nat} (h : nI a = nI b) (ha : a < 1000000) (hb : b < 1000000) : a = b := (nI_eq (by omega) (by omega)).mp h
section SA
variable {x y v w u : Int32} {tx tx' kd th wi kd' th' mc wn rk rt rm2 rw2 row past pu pin rows kept ths mby vby : Nat → Int32} {H R M L S S8 S2 : Nat} {dy po rh rr : Int32} {T1 T3 T0 : NV} {p8 p2 sd sh sr : Nat → Nat} {P8 P2 : Nat → NV}
theorem sg_0 (cc : (CC tx tx' H R M L S S8 S2 kd th wi kd' th' mc wn p8 P8 past p2 P2 kept sd sh sr)) : SG (xw tx (nI L) (kd, th, wi, nI H, nI R, nI M, dy) T1 (gP 13 8 p8) (nI S8) P8 (gP 47 2 p2) (nI S2) P2 (fun i => nI (sd i)) (fun i => nI (sh i)) (fun i => nI (sr i)) ths (nI S) T3 mby vby T0) (mw (nI H) (nI R) dy (nI S) (nI L) po rh rr (nI S8) (nI S2) kd' th' mc wn (fun i => nI (sd i)) (fun i => nI (5 * sh i + sr i)) ths tx' rk rt rm2 rw2 row past pu pin rows kept) 80 124 [.int x] := by
  obtain ⟨⟨h2, h6, r2, r5⟩, ⟨hL, htx⟩, nr, pi8, pi2, hS, hsd, hsh⟩ := id cc
  obtain ⟨hk, he, hb, hm, hw, hM⟩ := id nr
  have hp := pi8.2.1
  have hq := pi2.2.1
  have hS8 := pi8.1
  have hS2 := pi2.1
  have h0 : 0 < H := by omega
  have r1 : 0 < R := by omega
  have hM64 : M < 64 := Nat.lt_of_lt_of_le hM (Nat.le_trans (Nat.pow_le_pow_right (by omega) h6) (by decide))
  have hb' : bnd H R th' := hb.eq he
  unfold SG
  by_cases hB : ¬ (¬ x < 32 ∧ ¬ 126 < x)
  · refine x_writeB hB ?_
    refine ⟨_, rfl, xc_mk hp hq, ?_⟩
    refine y_writeB hB ?_
    exact ⟨rfl, rw_mk cc⟩
  · refine x_write hL (fun c => absurd c hB) (fun c => ?_) (fun c => ?_)
    · refine ⟨_, rfl, xc_mk hp hq, ?_⟩
      refine y_write hL (fun c2 => absurd c2 hB) (fun c2 => ?_) (fun c2 => absurd c c2)
      refine ⟨rfl, rw_mk ⟨⟨h2, h6, r2, r5⟩, ⟨c, fun k hk2 => ?_⟩, nr, pi8, pi2, hS, hsd, hsh⟩⟩
      by_cases e : k = L
      · rw [e, up_s, up_s]
      · rw [up_n _ _ e, up_n _ _ e]
        exact htx k (by omega)
    · refine ⟨_, rfl, xc_mk hp hq, ?_⟩
      refine y_write hL (fun c2 => absurd c2 hB) (fun c2 => absurd c2 c) (fun c2 => ?_)
      exact ⟨rfl, rw_mk cc⟩
theorem sg_1 (cc : (CC tx tx' H R M L S S8 S2 kd th wi kd' th' mc wn p8 P8 past p2 P2 kept sd sh sr)) : SG (xw tx (nI L) (kd, th, wi, nI H, nI R, nI M, dy) T1 (gP 13 8 p8) (nI S8) P8 (gP 47 2 p2) (nI S2) P2 (fun i => nI (sd i)) (fun i => nI (sh i)) (fun i => nI (sr i)) ths (nI S) T3 mby vby T0) (mw (nI H) (nI R) dy (nI S) (nI L) po rh rr (nI S8) (nI S2) kd' th' mc wn (fun i => nI (sd i)) (fun i => nI (5 * sh i + sr i)) ths tx' rk rt rm2 rw2 row past pu pin rows kept) 81 125 [] := by
  obtain ⟨⟨h2, h6, r2, r5⟩, ⟨hL, htx⟩, nr, pi8, pi2, hS, hsd, hsh⟩ := id cc
  obtain ⟨hk, he, hb, hm, hw, hM⟩ := id nr
  have hp := pi8.2.1
  have hq := pi2.2.1
  have hS8 := pi8.1
  have hS2 := pi2.1
  have h0 : 0 < H := by omega
  have r1 : 0 < R := by omega
  have hM64 : M < 64 := Nat.lt_of_lt_of_le hM (Nat.le_trans (Nat.pow_le_pow_right (by omega) h6) (by decide))
  have hb' : bnd H R th' := hb.eq he
  unfold SG
  refine x_wipe ?_
  refine ⟨_, rfl, xc_mk hp hq, ?_⟩
  refine y_wipe ?_
  exact ⟨rfl, rw_mk (L := 0) ⟨⟨h2, h6, r2, r5⟩, ⟨Nat.zero_le _, fun k hk2 => absurd hk2 (Nat.not_lt_zero k)⟩, nr, pi8, pi2, hS, hsd, hsh⟩⟩
theorem rd_both {T : NV} (htx : ∀ k, k < L → tx k = tx' k) : (rdG tx L 200 0 (T.1, T.2.1, fun _ => 10, 0, 0, 0)).1 = (rdG tx' L 200 0 (rk, rt, fun _ => 10, 0, 0, 0)).1 ∧ psR (rdG tx L 200 0 (T.1, T.2.1, fun _ => 10, 0, 0, 0)).2 (rdG tx' L 200 0 (rk, rt, fun _ => 10, 0, 0, 0)).2 := by
  rw [rd_tx htx]
  exact rd_ps 200 0 _ _ ⟨Nat.zero_le _, Nat.zero_le _, Nat.zero_lt_succ 63⟩ ⟨rfl, fun a ha => absurd ha (Nat.not_lt_zero a), fun a ha => absurd ha (Nat.not_lt_zero a)⟩
theorem sg_2 (cc : (CC tx tx' H R M L S S8 S2 kd th wi kd' th' mc wn p8 P8 past p2 P2 kept sd sh sr)) : SG (xw tx (nI L) (kd, th, wi, nI H, nI R, nI M, dy) T1 (gP 13 8 p8) (nI S8) P8 (gP 47 2 p2) (nI S2) P2 (fun i => nI (sd i)) (fun i => nI (sh i)) (fun i => nI (sr i)) ths (nI S) T3 mby vby T0) (mw (nI H) (nI R) dy (nI S) (nI L) po rh rr (nI S8) (nI S2) kd' th' mc wn (fun i => nI (sd i)) (fun i => nI (5 * sh i + sr i)) ths tx' rk rt rm2 rw2 row past pu pin rows kept) 82 133 [] := by
  obtain ⟨⟨h2, h6, r2, r5⟩, ⟨hL, htx⟩, nr, pi8, pi2, hS, hsd, hsh⟩ := id cc
  obtain ⟨hk, he, hb, hm, hw, hM⟩ := id nr
  have hp := pi8.2.1
  have hq := pi2.2.1
  have hS8 := pi8.1
  have hS2 := pi2.1
  have h0 : 0 < H := by omega
  have r1 : 0 < R := by omega
  have hM64 : M < 64 := Nat.lt_of_lt_of_le hM (Nat.le_trans (Nat.pow_le_pow_right (by omega) h6) (by decide))
  have hb' : bnd H R th' := hb.eq he
  unfold SG
  refine x_fault hL (fun T => ?_) (fun T T2 => (rd_both (rk := rk) (rt := rt) (T := T) htx).1.trans (rd_both (rk := rk) (rt := rt) (T := T2) htx).1.symm)
  refine ⟨_, rfl, xc_mk hp hq, ?_⟩
  refine y_fault hL (fun po rh rr rk' rt' rm2 rw2 => ?_)
  refine ⟨?_, rw_mk cc⟩
  rw [(rd_both (rk := rk) (rt := rt) (T := T) htx).1]
theorem sg_3 (cc : (CC tx tx' H R M L S S8 S2 kd th wi kd' th' mc wn p8 P8 past p2 P2 kept sd sh sr)) : SG (xw tx (nI L) (kd, th, wi, nI H, nI R, nI M, dy) T1 (gP 13 8 p8) (nI S8) P8 (gP 47 2 p2) (nI S2) P2 (fun i => nI (sd i)) (fun i => nI (sh i)) (fun i => nI (sr i)) ths (nI S) T3 mby vby T0) (mw (nI H) (nI R) dy (nI S) (nI L) po rh rr (nI S8) (nI S2) kd' th' mc wn (fun i => nI (sd i)) (fun i => nI (5 * sh i + sr i)) ths tx' rk rt rm2 rw2 row past pu pin rows kept) 83 134 [] := by
  obtain ⟨⟨h2, h6, r2, r5⟩, ⟨hL, htx⟩, nr, pi8, pi2, hS, hsd, hsh⟩ := id cc
  obtain ⟨hk, he, hb, hm, hw, hM⟩ := id nr
  have hp := pi8.2.1
  have hq := pi2.2.1
  have hS8 := pi8.1
  have hS2 := pi2.1
  have h0 : 0 < H := by omega
  have r1 : 0 < R := by omega
  have hM64 : M < 64 := Nat.lt_of_lt_of_le hM (Nat.le_trans (Nat.pow_le_pow_right (by omega) h6) (by decide))
  have hb' : bnd H R th' := hb.eq he
  unfold SG
  obtain ⟨e1, e2, e3, e4⟩ := rd_both (rk := rk) (rt := rt) (T := T1) htx
  have ho : psOK (rdG tx L 200 0 (T1.1, T1.2.1, fun _ => 10, 0, 0, 0)).2 := rdG_ok 200 0 _ ⟨Nat.zero_le _, Nat.zero_le _, Nat.zero_lt_succ 63⟩
  have hB : psB (rdG tx L 200 0 (T1.1, T1.2.1, fun _ => 10, 0, 0, 0)).2 := rd_b 200 0 _ ⟨fun k => ⟨10, Nat.le_refl _, rfl⟩, Nat.one_pos, fun a ha => absurd ha (Nat.not_lt_zero a), Or.inl rfl⟩
  refine x_lay hp hS8 hq hS2 hL (fun c => ?_) (fun c c2 => ?_)
  · refine ⟨_, rfl, xc_mk hp hq, ?_⟩
    refine y_lay hL (fun d1 d2 po rm2 rw2 hr => ?_) (fun d1 po rh rr rk rt rm2 rw2 => ?_)
    · exact absurd ⟨e1.trans d1, by rw [e2]; exact d2⟩ c
    · exact ⟨rfl, rw_mk cc⟩
  · refine ⟨_, rfl, xc_mk hp hq, ?_⟩
    refine y_lay hL (fun d1 d2 po rm2 rw2 hr => ?_) (fun d1 po rh rr rk rt rm2 rw2 => ?_)
    · generalize (rdG tx' L 200 0 (rk, rt, fun _ => 10, 0, 0, 0)) = g' at e1 e2 e3 e4 d1 d2 hr ⊢
      generalize (rdG tx L 200 0 (T1.1, T1.2.1, fun _ => 10, 0, 0, 0)) = g at e1 e2 e3 e4 ho hB c c2 ⊢
      obtain ⟨ga, gk, gt, gw, gh, gr, gm⟩ := g
      obtain ⟨ga', gk', gt', g3⟩ := g'
      have e2 : (gw, gh, gr, gm) = g3 := e2
      subst e2
      have c2 : ¬ gh < 2 := fun z => c2 (nI_lt (b := 2) z (by omega))
      have hB4 : gh = 0 ∨ 2 ≤ gr := hB.2.2.2
      have hg6 : gh ≤ 6 := ho.1
      have hg5 : gr ≤ 5 := ho.2.1
      refine ⟨rfl, rw_mk (S := 0) (S8 := 0) (S2 := 0) (H := gh) (R := gr) (M := gm) ⟨⟨by omega, hg6, by omega, hg5⟩, ⟨hL, htx⟩, ⟨e3, e4, hB.2.2.1, fun a ha => hr.1 a (by omega), fun k hk2 => ⟨hB.1 k, hr.2 k (by omega)⟩, hB.2.1⟩, pi8.none, pi2.none, Nat.zero_le _, hsd, fun i hi => absurd hi (Nat.not_lt_zero i)⟩⟩
    · exact absurd ⟨e1.symm.trans c, by rw [← e2]; exact c2⟩ d1
theorem sg_4 (cc : (CC tx tx' H R M L S S8 S2 kd th wi kd' th' mc wn p8 P8 past p2 P2 kept sd sh sr)) : SG (xw tx (nI L) (kd, th, wi, nI H, nI R, nI M, dy) T1 (gP 13 8 p8) (nI S8) P8 (gP 47 2 p2) (nI S2) P2 (fun i => nI (sd i)) (fun i => nI (sh i)) (fun i => nI (sr i)) ths (nI S) T3 mby vby T0) (mw (nI H) (nI R) dy (nI S) (nI L) po rh rr (nI S8) (nI S2) kd' th' mc wn (fun i => nI (sd i)) (fun i => nI (5 * sh i + sr i)) ths tx' rk rt rm2 rw2 row past pu pin rows kept) 84 135 [.int x, .int y] := by
  obtain ⟨⟨h2, h6, r2, r5⟩, ⟨hL, htx⟩, nr, pi8, pi2, hS, hsd, hsh⟩ := id cc
  obtain ⟨hk, he, hb, hm, hw, hM⟩ := id nr
  have hp := pi8.2.1
  have hq := pi2.2.1
  have hS8 := pi8.1
  have hS2 := pi2.1
  have h0 : 0 < H := by omega
  have r1 : 0 < R := by omega
  have hM64 : M < 64 := Nat.lt_of_lt_of_le hM (Nat.le_trans (Nat.pow_le_pow_right (by omega) h6) (by decide))
  have hb' : bnd H R th' := hb.eq he
  unfold SG
  refine x_room h6 r5 (fun a b ha hb2 ea eb => ?_) (fun c => ?_)
  · subst ea eb
    refine ⟨_, rfl, xc_mk hp hq, ?_⟩
    refine y_room h6 h0 r5 r1 (fun a' b' ha' hb' ea' eb' => ?_) (fun c => absurd ⟨inR_nI ha (by omega), inR_nI hb2 (by omega)⟩ c)
    obtain rfl := nE ea' (by omega) (by omega)
    obtain rfl := nE eb' (by omega) (by omega)
    exact ⟨by rw [he a ha b hb2], rw_mk cc⟩
  · refine ⟨_, rfl, xc_mk hp hq, ?_⟩
    refine y_room h6 h0 r5 r1 (fun a' b' ha' hb' ea' eb' => ?_) (fun c => ?_)
    · subst ea' eb'
      exact absurd ⟨inR_nI ha' (by omega), inR_nI hb' (by omega)⟩ c
    · exact ⟨rfl, rw_mk cc⟩
theorem sg_5 (cc : (CC tx tx' H R M L S S8 S2 kd th wi kd' th' mc wn p8 P8 past p2 P2 kept sd sh sr)) : SG (xw tx (nI L) (kd, th, wi, nI H, nI R, nI M, dy) T1 (gP 13 8 p8) (nI S8) P8 (gP 47 2 p2) (nI S2) P2 (fun i => nI (sd i)) (fun i => nI (sh i)) (fun i => nI (sr i)) ths (nI S) T3 mby vby T0) (mw (nI H) (nI R) dy (nI S) (nI L) po rh rr (nI S8) (nI S2) kd' th' mc wn (fun i => nI (sd i)) (fun i => nI (5 * sh i + sr i)) ths tx' rk rt rm2 rw2 row past pu pin rows kept) 85 136 [.int x, .int y] := by
  obtain ⟨⟨h2, h6, r2, r5⟩, ⟨hL, htx⟩, nr, pi8, pi2, hS, hsd, hsh⟩ := id cc
  obtain ⟨hk, he, hb, hm, hw, hM⟩ := id nr
  have hp := pi8.2.1
  have hq := pi2.2.1
  have hS8 := pi8.1
  have hS2 := pi2.1
  have h0 : 0 < H := by omega
  have r1 : 0 < R := by omega
  have hM64 : M < 64 := Nat.lt_of_lt_of_le hM (Nat.le_trans (Nat.pow_le_pow_right (by omega) h6) (by decide))
  have hb' : bnd H R th' := hb.eq he
  unfold SG
  refine x_house h6 hM64 (fun a ha ea ey => ?_) (fun a ha ea ey => ?_) (fun c => ?_)
  · subst ea ey
    refine ⟨_, rfl, xc_mk hp hq, ?_⟩
    refine y_house h6 h0 (fun a' ha' ea' ey' => ?_) (fun a' ha' ea' ey' => absurd ey' (by decide)) (fun c => absurd ⟨inR_nI ha (by omega), by decide, by decide⟩ c)
    obtain rfl := nE ea' (by omega) (by omega)
    exact ⟨by rw [hk a ha], rw_mk cc⟩
  · subst ea ey
    refine ⟨_, rfl, xc_mk hp hq, ?_⟩
    refine y_house h6 h0 (fun a' ha' ea' ey' => absurd ey' (by decide)) (fun a' ha' ea' ey' => ?_) (fun c => absurd ⟨inR_nI ha (by omega), by decide, by decide⟩ c)
    obtain rfl := nE ea' (by omega) (by omega)
    refine ⟨?_, rw_mk cc⟩
    rw [hm a ha]
    split <;> rfl
  · refine ⟨_, rfl, xc_mk hp hq, ?_⟩
    refine y_house h6 h0 (fun a' ha' ea' ey' => ?_) (fun a' ha' ea' ey' => ?_) (fun c => ?_)
    · subst ea' ey'
      exact absurd ⟨inR_nI ha' (by omega), by decide, by decide⟩ c
    · subst ea' ey'
      exact absurd ⟨inR_nI ha' (by omega), by decide, by decide⟩ c
    · exact ⟨rfl, rw_mk cc⟩
theorem sg_6 (cc : (CC tx tx' H R M L S S8 S2 kd th wi kd' th' mc wn p8 P8 past p2 P2 kept sd sh sr)) : SG (xw tx (nI L) (kd, th, wi, nI H, nI R, nI M, dy) T1 (gP 13 8 p8) (nI S8) P8 (gP 47 2 p2) (nI S2) P2 (fun i => nI (sd i)) (fun i => nI (sh i)) (fun i => nI (sr i)) ths (nI S) T3 mby vby T0) (mw (nI H) (nI R) dy (nI S) (nI L) po rh rr (nI S8) (nI S2) kd' th' mc wn (fun i => nI (sd i)) (fun i => nI (5 * sh i + sr i)) ths tx' rk rt rm2 rw2 row past pu pin rows kept) 86 137 [.int x] := by
  obtain ⟨⟨h2, h6, r2, r5⟩, ⟨hL, htx⟩, nr, pi8, pi2, hS, hsd, hsh⟩ := id cc
  obtain ⟨hk, he, hb, hm, hw, hM⟩ := id nr
  have hp := pi8.2.1
  have hq := pi2.2.1
  have hS8 := pi8.1
  have hS2 := pi2.1
  have h0 : 0 < H := by omega
  have r1 : 0 < R := by omega
  have hM64 : M < 64 := Nat.lt_of_lt_of_le hM (Nat.le_trans (Nat.pow_le_pow_right (by omega) h6) (by decide))
  have hb' : bnd H R th' := hb.eq he
  unfold SG
  refine x_wanted r5 (fun a ha ea => ?_) (fun c => ?_)
  · subst ea
    refine ⟨_, rfl, xc_mk hp hq, ?_⟩
    refine y_wanted r5 r1 (fun a' ha' ea' => ?_) (fun c => absurd (inR_nI ha (by omega)) c)
    obtain rfl := nE ea' (by omega) (by omega)
    refine ⟨?_, rw_mk cc⟩
    rw [(hw a ha).2]
    rfl
  · refine ⟨_, rfl, xc_mk hp hq, ?_⟩
    refine y_wanted r5 r1 (fun a' ha' ea' => ?_) (fun c => ?_)
    · subst ea'
      exact absurd (inR_nI ha' (by omega)) c
    · exact ⟨rfl, rw_mk cc⟩
theorem sg_7 (cc : (CC tx tx' H R M L S S8 S2 kd th wi kd' th' mc wn p8 P8 past p2 P2 kept sd sh sr)) : SG (xw tx (nI L) (kd, th, wi, nI H, nI R, nI M, dy) T1 (gP 13 8 p8) (nI S8) P8 (gP 47 2 p2) (nI S2) P2 (fun i => nI (sd i)) (fun i => nI (sh i)) (fun i => nI (sr i)) ths (nI S) T3 mby vby T0) (mw (nI H) (nI R) dy (nI S) (nI L) po rh rr (nI S8) (nI S2) kd' th' mc wn (fun i => nI (sd i)) (fun i => nI (5 * sh i + sr i)) ths tx' rk rt rm2 rw2 row past pu pin rows kept) 87 147 [.int x] := by
  obtain ⟨⟨h2, h6, r2, r5⟩, ⟨hL, htx⟩, nr, pi8, pi2, hS, hsd, hsh⟩ := id cc
  obtain ⟨hk, he, hb, hm, hw, hM⟩ := id nr
  have hp := pi8.2.1
  have hq := pi2.2.1
  have hS8 := pi8.1
  have hS2 := pi2.1
  have h0 : 0 < H := by omega
  have r1 : 0 < R := by omega
  have hM64 : M < 64 := Nat.lt_of_lt_of_le hM (Nat.le_trans (Nat.pow_le_pow_right (by omega) h6) (by decide))
  have hb' : bnd H R th' := hb.eq he
  unfold SG
  refine x_pass hp hS8 h6 r5 h0 hM64 (fun c => ?_) (fun n n1 n2 en c => ?_) (fun n n1 n2 en c => ?_)
  · refine ⟨_, rfl, xc_mk hp hq, ?_⟩
    refine y_pass hS8 h6 h0 r5 hm (fun c => ?_) (fun n n1 n2 en _ => ?_) (fun n n1 n2 en _ => ?_)
    · exact ⟨rfl, rw_mk cc⟩
    · subst en
      exact absurd ⟨nI_nlt (b := 1) (by omega) (by omega), nI_nlt (a := 20) (by omega) (by omega)⟩ c
    · subst en
      exact absurd ⟨nI_nlt (b := 1) (by omega) (by omega), nI_nlt (a := 20) (by omega) (by omega)⟩ c
  · subst en
    refine ⟨_, rfl, xc_mk hp hq, ?_⟩
    refine y_pass hS8 h6 h0 r5 hm (fun c => ?_) (fun n' n1 n2 en' c2 => ?_) (fun n' n1 n2 en' c2 row => ?_)
    · exact absurd ⟨nI_nlt (b := 1) (by omega) (by omega), nI_nlt (a := 20) (by omega) (by omega)⟩ c
    · exact ⟨rfl, rw_mk cc⟩
    · obtain rfl := nE en' (by omega) (by omega)
      exact absurd c c2
  · subst en
    refine ⟨_, rfl, xc_mk (pm_lt hp) hq, ?_⟩
    refine y_pass hS8 h6 h0 r5 hm (fun c => ?_) (fun n' n1 n2 en' c2 => ?_) (fun n' n1 n2 en' c2 row => ?_)
    · exact absurd ⟨nI_nlt (b := 1) (by omega) (by omega), nI_nlt (a := 20) (by omega) (by omega)⟩ c
    · obtain rfl := nE en' (by omega) (by omega)
      exact absurd c2 c
    · obtain rfl := nE en' (by omega) (by omega)
      exact ⟨rfl, rw_mk ⟨⟨h2, h6, r2, r5⟩, ⟨hL, htx⟩, ⟨hk, eqR_it r5 hk n _ _ he, bnd_it r5 n _ hb, hm, hw, hM⟩, pi_push h6 r5 pi8 nr, pi2, hS, hsd, hsh⟩⟩
theorem sg_8 (cc : (CC tx tx' H R M L S S8 S2 kd th wi kd' th' mc wn p8 P8 past p2 P2 kept sd sh sr)) : SG (xw tx (nI L) (kd, th, wi, nI H, nI R, nI M, dy) T1 (gP 13 8 p8) (nI S8) P8 (gP 47 2 p2) (nI S2) P2 (fun i => nI (sd i)) (fun i => nI (sh i)) (fun i => nI (sr i)) ths (nI S) T3 mby vby T0) (mw (nI H) (nI R) dy (nI S) (nI L) po rh rr (nI S8) (nI S2) kd' th' mc wn (fun i => nI (sd i)) (fun i => nI (5 * sh i + sr i)) ths tx' rk rt rm2 rw2 row past pu pin rows kept) 88 148 [.int x, .int y, .int v] := by
  obtain ⟨⟨h2, h6, r2, r5⟩, ⟨hL, htx⟩, nr, pi8, pi2, hS, hsd, hsh⟩ := id cc
  obtain ⟨hk, he, hb, hm, hw, hM⟩ := id nr
  have hp := pi8.2.1
  have hq := pi2.2.1
  have hS8 := pi8.1
  have hS2 := pi2.1
  have h0 : 0 < H := by omega
  have r1 : 0 < R := by omega
  have hM64 : M < 64 := Nat.lt_of_lt_of_le hM (Nat.le_trans (Nat.pow_le_pow_right (by omega) h6) (by decide))
  have hb' : bnd H R th' := hb.eq he
  unfold SG
  refine x_pin hp hS8 h6 r5 (fun c => ?_) (fun a b ha hb2 ea eb ev c => ?_) (fun a b ha hb2 ea eb ev c => ?_)
  · refine ⟨_, rfl, xc_mk hp hq, ?_⟩
    refine y_pin hS8 h6 h0 r5 r1 (fun c => ?_) (fun a b ha hb2 ea eb ev _ => ?_) (fun a b ha hb2 ea eb ev _ => ?_)
    · exact ⟨rfl, rw_mk cc⟩
    · subst ea eb
      exact absurd ⟨inR_nI ha (by omega), inR_nI hb2 (by omega), ev⟩ c
    · subst ea eb
      exact absurd ⟨inR_nI ha (by omega), inR_nI hb2 (by omega), ev⟩ c
  · subst ea eb
    refine ⟨_, rfl, xc_mk hp hq, ?_⟩
    refine y_pin hS8 h6 h0 r5 r1 (fun c => absurd ⟨inR_nI ha (by omega), inR_nI hb2 (by omega), ev⟩ c) (fun a' b' ha' hb' ea' eb' ev' c2 => ?_) (fun a' b' ha' hb' ea' eb' ev' c2 => ?_)
    · exact ⟨rfl, rw_mk cc⟩
    · obtain rfl := nE ea' (by omega) (by omega)
      obtain rfl := nE eb' (by omega) (by omega)
      exact absurd ((he a ha b hb2).symm.trans c) c2
  · subst ea eb
    obtain ⟨z, hz, rfl⟩ := nI_of2 (M := 9) (n := 9) rfl ev.1 (Int32.not_lt.mp ev.2)
    refine ⟨_, rfl, xc_mk (pm_lt hp) hq, ?_⟩
    refine y_pin hS8 h6 h0 r5 r1 (fun c => absurd ⟨inR_nI ha (by omega), inR_nI hb2 (by omega), ev⟩ c) (fun a' b' ha' hb' ea' eb' ev' c2 => ?_) (fun a' b' ha' hb' ea' eb' ev' c2 => ?_)
    · obtain rfl := nE ea' (by omega) (by omega)
      obtain rfl := nE eb' (by omega) (by omega)
      exact absurd ((he a ha b hb2).trans c2) c
    · obtain rfl := nE ea' (by omega) (by omega)
      obtain rfl := nE eb' (by omega) (by omega)
      exact ⟨by rw [he a ha b hb2], rw_mk ⟨⟨h2, h6, r2, r5⟩, ⟨hL, htx⟩, ⟨hk, eqR_upd he, bnd_upd (by omega) hb, hm, hw, hM⟩, pi_push h6 r5 pi8 nr, pi2, hS, hsd, hsh⟩⟩
theorem sg_9 (cc : (CC tx tx' H R M L S S8 S2 kd th wi kd' th' mc wn p8 P8 past p2 P2 kept sd sh sr)) : SG (xw tx (nI L) (kd, th, wi, nI H, nI R, nI M, dy) T1 (gP 13 8 p8) (nI S8) P8 (gP 47 2 p2) (nI S2) P2 (fun i => nI (sd i)) (fun i => nI (sh i)) (fun i => nI (sr i)) ths (nI S) T3 mby vby T0) (mw (nI H) (nI R) dy (nI S) (nI L) po rh rr (nI S8) (nI S2) kd' th' mc wn (fun i => nI (sd i)) (fun i => nI (5 * sh i + sr i)) ths tx' rk rt rm2 rw2 row past pu pin rows kept) 89 150 [.int x] := by
  obtain ⟨⟨h2, h6, r2, r5⟩, ⟨hL, htx⟩, nr, pi8, pi2, hS, hsd, hsh⟩ := id cc
  obtain ⟨hk, he, hb, hm, hw, hM⟩ := id nr
  have hp := pi8.2.1
  have hq := pi2.2.1
  have hS8 := pi8.1
  have hS2 := pi2.1
  have h0 : 0 < H := by omega
  have r1 : 0 < R := by omega
  have hM64 : M < 64 := Nat.lt_of_lt_of_le hM (Nat.le_trans (Nat.pow_le_pow_right (by omega) h6) (by decide))
  have hb' : bnd H R th' := hb.eq he
  unfold SG
  refine x_sneeze hp hS8 h6 r5 r1 (fun c => ?_) (fun a ha ea => ?_)
  · refine ⟨_, rfl, xc_mk hp hq, ?_⟩
    refine y_sneeze hS8 h6 h0 r5 r1 (fun c => ?_) (fun a ha ea => ?_)
    · exact ⟨rfl, rw_mk cc⟩
    · subst ea
      exact absurd (inR_nI ha (by omega)) c
  · subst ea
    refine ⟨_, rfl, xc_mk (pm_lt hp) hq, ?_⟩
    refine y_sneeze hS8 h6 h0 r5 r1 (fun c => absurd (inR_nI ha (by omega)) c) (fun a' ha' ea' => ?_)
    obtain rfl := nE ea' (by omega) (by omega)
    have hsn := eqR_sh r5 ha he
    refine ⟨?_, rw_mk ⟨⟨h2, h6, r2, r5⟩, ⟨hL, htx⟩, ⟨hk, hsn, bnd_sh r5 ha hb, hm, hw, hM⟩, pi_push h6 r5 pi8 nr, pi2, hS, hsd, hsh⟩⟩
    have e := hsn a ha 0 r1
    rw [e, Nat.add_zero]
theorem sg_10 (cc : (CC tx tx' H R M L S S8 S2 kd th wi kd' th' mc wn p8 P8 past p2 P2 kept sd sh sr)) : SG (xw tx (nI L) (kd, th, wi, nI H, nI R, nI M, dy) T1 (gP 13 8 p8) (nI S8) P8 (gP 47 2 p2) (nI S2) P2 (fun i => nI (sd i)) (fun i => nI (sh i)) (fun i => nI (sr i)) ths (nI S) T3 mby vby T0) (mw (nI H) (nI R) dy (nI S) (nI L) po rh rr (nI S8) (nI S2) kd' th' mc wn (fun i => nI (sd i)) (fun i => nI (5 * sh i + sr i)) ths tx' rk rt rm2 rw2 row past pu pin rows kept) 90 152 [.int x] := by
  obtain ⟨⟨h2, h6, r2, r5⟩, ⟨hL, htx⟩, nr, pi8, pi2, hS, hsd, hsh⟩ := id cc
  obtain ⟨hk, he, hb, hm, hw, hM⟩ := id nr
  have hp := pi8.2.1
  have hq := pi2.2.1
  have hS8 := pi8.1
  have hS2 := pi2.1
  have h0 : 0 < H := by omega
  have r1 : 0 < R := by omega
  have hM64 : M < 64 := Nat.lt_of_lt_of_le hM (Nat.le_trans (Nat.pow_le_pow_right (by omega) h6) (by decide))
  have hb' : bnd H R th' := hb.eq he
  unfold SG
  refine x_mouse hp hS8 hq hS2 h6 hM64 (fun c => ?_) (fun a ha ea c => ?_) (fun a ha ea c => ?_)
  · refine ⟨_, rfl, xc_mk hp hq, ?_⟩
    refine y_mouse hS8 h6 h0 hm (fun c => ?_) (fun a ha ea _ => ?_) (fun a ha ea _ => ?_)
    · exact ⟨rfl, rw_mk cc⟩
    · subst ea
      exact absurd (inR_nI ha (by omega)) c
    · subst ea
      exact absurd (inR_nI ha (by omega)) c
  · subst ea
    refine ⟨_, rfl, xc_mk hp hq, ?_⟩
    refine y_mouse hS8 h6 h0 hm (fun c => absurd (inR_nI ha (by omega)) c) (fun a' ha' ea' c2 => ?_) (fun a' ha' ea' c2 => ?_)
    · exact ⟨rfl, rw_mk cc⟩
    · obtain rfl := nE ea' (by omega) (by omega)
      exact absurd c c2
  · subst ea
    refine ⟨_, rfl, xc_mk (pm_lt hp) hq, ?_⟩
    refine y_mouse hS8 h6 h0 hm (fun c => absurd (inR_nI ha (by omega)) c) (fun a' ha' ea' c2 => ?_) (fun a' ha' ea' c2 => ?_)
    · obtain rfl := nE ea' (by omega) (by omega)
      exact absurd c2 c
    · obtain rfl := nE ea' (by omega) (by omega)
      have hlt := xor_lt hM ha
      have hv : (1 : Int32) = nI (if M.testBit a = true then 0 else 1) := by
        by_cases t : M.testBit a = true
        · rw [if_pos t]
          exact absurd ⟨fun _ => rfl, fun _ => t⟩ c
        · rw [if_neg t]
          rfl
      refine ⟨by rw [ma_pop H (by omega) _ hlt], rw_mk ⟨⟨h2, h6, r2, r5⟩, ⟨hL, htx⟩, ⟨hk, he, hb, xor_bit hm hv, hw, hlt⟩, pi_push h6 r5 pi8 nr, pi2, hS, hsd, hsh⟩⟩
theorem sg_11 (cc : (CC tx tx' H R M L S S8 S2 kd th wi kd' th' mc wn p8 P8 past p2 P2 kept sd sh sr)) : SG (xw tx (nI L) (kd, th, wi, nI H, nI R, nI M, dy) T1 (gP 13 8 p8) (nI S8) P8 (gP 47 2 p2) (nI S2) P2 (fun i => nI (sd i)) (fun i => nI (sh i)) (fun i => nI (sr i)) ths (nI S) T3 mby vby T0) (mw (nI H) (nI R) dy (nI S) (nI L) po rh rr (nI S8) (nI S2) kd' th' mc wn (fun i => nI (sd i)) (fun i => nI (5 * sh i + sr i)) ths tx' rk rt rm2 rw2 row past pu pin rows kept) 91 153 [.int x] := by
  obtain ⟨⟨h2, h6, r2, r5⟩, ⟨hL, htx⟩, nr, pi8, pi2, hS, hsd, hsh⟩ := id cc
  obtain ⟨hk, he, hb, hm, hw, hM⟩ := id nr
  have hp := pi8.2.1
  have hq := pi2.2.1
  have hS8 := pi8.1
  have hS2 := pi2.1
  have h0 : 0 < H := by omega
  have r1 : 0 < R := by omega
  have hM64 : M < 64 := Nat.lt_of_lt_of_le hM (Nat.le_trans (Nat.pow_le_pow_right (by omega) h6) (by decide))
  have hb' : bnd H R th' := hb.eq he
  unfold SG
  refine x_chase hp hS8 hq hS2 h6 hM64 (fun c => ?_) (fun a ha ea c => ?_) (fun a ha ea c => ?_)
  · refine ⟨_, rfl, xc_mk hp hq, ?_⟩
    refine y_chase hS8 h6 h0 hm (fun c => ?_) (fun a ha ea _ => ?_) (fun a ha ea _ => ?_)
    · exact ⟨rfl, rw_mk cc⟩
    · subst ea
      exact absurd (inR_nI ha (by omega)) c
    · subst ea
      exact absurd (inR_nI ha (by omega)) c
  · subst ea
    refine ⟨_, rfl, xc_mk hp hq, ?_⟩
    refine y_chase hS8 h6 h0 hm (fun c => absurd (inR_nI ha (by omega)) c) (fun a' ha' ea' c2 => ?_) (fun a' ha' ea' c2 => ?_)
    · exact ⟨rfl, rw_mk cc⟩
    · obtain rfl := nE ea' (by omega) (by omega)
      exact absurd c c2
  · subst ea
    refine ⟨_, rfl, xc_mk (pm_lt hp) hq, ?_⟩
    refine y_chase hS8 h6 h0 hm (fun c => absurd (inR_nI ha (by omega)) c) (fun a' ha' ea' c2 => ?_) (fun a' ha' ea' c2 => ?_)
    · obtain rfl := nE ea' (by omega) (by omega)
      exact absurd c2 c
    · obtain rfl := nE ea' (by omega) (by omega)
      have hlt := xor_lt hM ha
      have hv : (0 : Int32) = nI (if M.testBit a = true then 0 else 1) := by
        by_cases t : M.testBit a = true
        · rw [if_pos t]
          rfl
        · rw [if_neg t]
          exact absurd ⟨fun z => absurd z t, fun z => absurd z (by decide)⟩ c
      refine ⟨by rw [ma_pop H (by omega) _ hlt], rw_mk ⟨⟨h2, h6, r2, r5⟩, ⟨hL, htx⟩, ⟨hk, he, hb, xor_bit hm hv, hw, hlt⟩, pi_push h6 r5 pi8 nr, pi2, hS, hsd, hsh⟩⟩
theorem sg_12 (cc : (CC tx tx' H R M L S S8 S2 kd th wi kd' th' mc wn p8 P8 past p2 P2 kept sd sh sr)) : SG (xw tx (nI L) (kd, th, wi, nI H, nI R, nI M, dy) T1 (gP 13 8 p8) (nI S8) P8 (gP 47 2 p2) (nI S2) P2 (fun i => nI (sd i)) (fun i => nI (sh i)) (fun i => nI (sr i)) ths (nI S) T3 mby vby T0) (mw (nI H) (nI R) dy (nI S) (nI L) po rh rr (nI S8) (nI S2) kd' th' mc wn (fun i => nI (sd i)) (fun i => nI (5 * sh i + sr i)) ths tx' rk rt rm2 rw2 row past pu pin rows kept) 92 154 [.int x, .int y] := by
  obtain ⟨⟨h2, h6, r2, r5⟩, ⟨hL, htx⟩, nr, pi8, pi2, hS, hsd, hsh⟩ := id cc
  obtain ⟨hk, he, hb, hm, hw, hM⟩ := id nr
  have hp := pi8.2.1
  have hq := pi2.2.1
  have hS8 := pi8.1
  have hS2 := pi2.1
  have h0 : 0 < H := by omega
  have r1 : 0 < R := by omega
  have hM64 : M < 64 := Nat.lt_of_lt_of_le hM (Nat.le_trans (Nat.pow_le_pow_right (by omega) h6) (by decide))
  have hb' : bnd H R th' := hb.eq he
  unfold SG
  refine x_want hp hS8 r5 (fun c => ?_) (fun a ha ea ey => ?_)
  · refine ⟨_, rfl, xc_mk hp hq, ?_⟩
    refine y_want hS8 r5 r1 (fun c => ?_) (fun a ha ea ey => ?_)
    · exact ⟨rfl, rw_mk cc⟩
    · subst ea
      exact absurd ⟨inR_nI ha (by omega), ey⟩ c
  · subst ea
    refine ⟨_, rfl, xc_mk (pm_lt hp) hq, ?_⟩
    refine y_want hS8 r5 r1 (fun c => absurd ⟨inR_nI ha (by omega), ey⟩ c) (fun a' ha' ea' ey' => ?_)
    obtain rfl := nE ea' (by omega) (by omega)
    obtain ⟨z, hz, rfl⟩ := nI_of2 (M := 10) (n := 10) rfl ey.1 (Int32.not_lt.mp ey.2)
    have hw2 : wok R (upd wi a (nI z)) (upd wn a (if nI z = 10 then -4 else nI z)) := by
      intro k hk2
      by_cases e : k = a
      · rw [e, up_s, up_s]
        exact ⟨⟨z, hz, rfl⟩, rfl⟩
      · rw [up_n _ _ e, up_n _ _ e]
        exact hw k hk2
    refine ⟨?_, rw_mk ⟨⟨h2, h6, r2, r5⟩, ⟨hL, htx⟩, ⟨hk, he, hb, hm, hw2, hM⟩, pi_push h6 r5 pi8 nr, pi2, hS, hsd, hsh⟩⟩
    rw [(hw a ha).2]
    rfl
theorem sg_13 (cc : (CC tx tx' H R M L S S8 S2 kd th wi kd' th' mc wn p8 P8 past p2 P2 kept sd sh sr)) : SG (xw tx (nI L) (kd, th, wi, nI H, nI R, nI M, dy) T1 (gP 13 8 p8) (nI S8) P8 (gP 47 2 p2) (nI S2) P2 (fun i => nI (sd i)) (fun i => nI (sh i)) (fun i => nI (sr i)) ths (nI S) T3 mby vby T0) (mw (nI H) (nI R) dy (nI S) (nI L) po rh rr (nI S8) (nI S2) kd' th' mc wn (fun i => nI (sd i)) (fun i => nI (5 * sh i + sr i)) ths tx' rk rt rm2 rw2 row past pu pin rows kept) 93 155 [] := by
  obtain ⟨⟨h2, h6, r2, r5⟩, ⟨hL, htx⟩, nr, pi8, pi2, hS, hsd, hsh⟩ := id cc
  obtain ⟨hk, he, hb, hm, hw, hM⟩ := id nr
  have hp := pi8.2.1
  have hq := pi2.2.1
  have hS8 := pi8.1
  have hS2 := pi2.1
  have h0 : 0 < H := by omega
  have r1 : 0 < R := by omega
  have hM64 : M < 64 := Nat.lt_of_lt_of_le hM (Nat.le_trans (Nat.pow_le_pow_right (by omega) h6) (by decide))
  have hb' : bnd H R th' := hb.eq he
  unfold SG
  refine x_undo hp hS8 (fun c => ?_) (fun c => ?_)
  · obtain ⟨kd2, th2, wi2, M2, dy2, e1, e2, nr2⟩ := pi8.2.2.2 (S8 - 1) (by omega)
    rw [e1]
    refine ⟨_, rfl, xc_mk hp hq, ?_⟩
    refine y_undo hS8 (fun _ => ?_) (fun c2 => absurd c c2)
    rw [e2]
    exact ⟨rfl, rw_mk ⟨⟨h2, h6, r2, r5⟩, ⟨hL, htx⟩, nr2, pi8.less (by omega), pi2, hS, hsd, hsh⟩⟩
  · refine ⟨_, rfl, xc_mk hp hq, ?_⟩
    refine y_undo hS8 (fun c2 => absurd c2 c) (fun _ => ?_)
    exact ⟨rfl, rw_mk cc⟩
end SA
