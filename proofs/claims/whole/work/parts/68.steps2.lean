/-! EACH CALL: questions -/
theorem up_I {f : Nat → Nat} {S n : Nat} : upd (fun i => nI (f i)) S (nI n) = fun i => nI (if i = S then n else f i) := by
  funext i
  by_cases e : i = S
  · rw [e, up_s, if_pos rfl]
  · rw [up_n _ _ e, if_neg e]
theorem cy_lt {kd f : Nat → Int32} {H R Z M : Nat} (h0 : 0 < H) (hM : M < 2 ^ H) : ∀ k, (cyS kd H R Z (f, M) k).2 < 2 ^ H
  | 0 => hM
  | k + 1 => by
    have ih := cy_lt (kd := kd) (f := f) (R := R) (Z := Z) h0 hM k
    show (acS H R (drN Z k) (cyS kd H R Z (f, M) k)).2 < 2 ^ H
    unfold acS
    split
    · exact ih
    · split
      · exact ih
      · split
        · exact xor_lt ih (Nat.mod_lt _ h0)
        · exact ih
section SB
variable {x y v w u : Int32} {tx tx' kd th wi kd' th' mc wn rk rt rm2 rw2 row past pu pin rows kept ths mby vby : Nat → Int32} {H R M L S S8 S2 : Nat} {dy po rh rr : Int32} {T1 T3 T0 : NV} {p8 p2 sd sh sr : Nat → Nat} {P8 P2 : Nat → NV}
theorem sg_14 (cc : (CC tx tx' H R M L S S8 S2 kd th wi kd' th' mc wn p8 P8 past p2 P2 kept sd sh sr)) : SG (xw tx (nI L) (kd, th, wi, nI H, nI R, nI M, dy) T1 (gP 13 8 p8) (nI S8) P8 (gP 47 2 p2) (nI S2) P2 (fun i => nI (sd i)) (fun i => nI (sh i)) (fun i => nI (sr i)) ths (nI S) T3 mby vby T0) (mw (nI H) (nI R) dy (nI S) (nI L) po rh rr (nI S8) (nI S2) kd' th' mc wn (fun i => nI (sd i)) (fun i => nI (5 * sh i + sr i)) ths tx' rk rt rm2 rw2 row past pu pin rows kept) 94 158 [.int x, .int y, .int v] := by
  obtain ⟨⟨h2, h6, r2, r5⟩, ⟨hL, htx⟩, nr, pi8, pi2, hS, hsd, hsh⟩ := id cc
  obtain ⟨hk, he, hb, hm, hw, hM⟩ := id nr
  have hp := pi8.2.1
  have hq := pi2.2.1
  have hS8 := pi8.1
  have hS2 := pi2.1
  have h0 : 0 < H := by omega
  have r1 : 0 < R := by omega
  have hM64 : M < 64 := Nat.lt_of_lt_of_le hM (Nat.le_trans (Nat.pow_le_pow_right (by omega) h6) (by decide))
  have hb' : bnd H R th' := hb.eq he
  unfold SG
  refine x_behind h6 r5 h0 hM64 (fun n a b hn ha hb2 en ea eb T3 => ?_) (fun c => ?_)
  · subst en ea eb
    refine ⟨_, rfl, xc_mk hp hq, ?_⟩
    refine y_behind h6 h0 r5 r1 hm (fun n' a' b' hn' ha' hb' en' ea' eb' row pu => ?_) (fun c => absurd ⟨⟨nI_pos (by omega), nI_nlt (a := 40) (by omega) (by omega)⟩, inR_nI ha (by omega), inR_nI hb2 (by omega)⟩ c)
    obtain rfl := nE en' (by omega) (by omega)
    obtain rfl := nE ea' (by omega) (by omega)
    obtain rfl := nE eb' (by omega) (by omega)
    exact ⟨by rw [eqR_it r5 hk n _ _ he a ha b hb2], rw_mk cc⟩
  · refine ⟨_, rfl, xc_mk hp hq, ?_⟩
    refine y_behind h6 h0 r5 r1 hm (fun n' a' b' hn' ha' hb' en' ea' eb' row pu => ?_) (fun c => ?_)
    · subst en' ea' eb'
      exact absurd ⟨⟨nI_pos (by omega), nI_nlt (a := 40) (by omega) (by omega)⟩, inR_nI ha' (by omega), inR_nI hb' (by omega)⟩ c
    · exact ⟨rfl, rw_mk cc⟩
theorem sg_15 (cc : (CC tx tx' H R M L S S8 S2 kd th wi kd' th' mc wn p8 P8 past p2 P2 kept sd sh sr)) : SG (xw tx (nI L) (kd, th, wi, nI H, nI R, nI M, dy) T1 (gP 13 8 p8) (nI S8) P8 (gP 47 2 p2) (nI S2) P2 (fun i => nI (sd i)) (fun i => nI (sh i)) (fun i => nI (sr i)) ths (nI S) T3 mby vby T0) (mw (nI H) (nI R) dy (nI S) (nI L) po rh rr (nI S8) (nI S2) kd' th' mc wn (fun i => nI (sd i)) (fun i => nI (5 * sh i + sr i)) ths tx' rk rt rm2 rw2 row past pu pin rows kept) 95 159 [.int x, .int y] := by
  obtain ⟨⟨h2, h6, r2, r5⟩, ⟨hL, htx⟩, nr, pi8, pi2, hS, hsd, hsh⟩ := id cc
  obtain ⟨hk, he, hb, hm, hw, hM⟩ := id nr
  have hp := pi8.2.1
  have hq := pi2.2.1
  have hS8 := pi8.1
  have hS2 := pi2.1
  have h0 : 0 < H := by omega
  have r1 : 0 < R := by omega
  have hM64 : M < 64 := Nat.lt_of_lt_of_le hM (Nat.le_trans (Nat.pow_le_pow_right (by omega) h6) (by decide))
  have hb' : bnd H R th' := hb.eq he
  unfold SG
  refine x_when h6 r5 h0 hM64 (fun b hb2 eb ey T3 => ?_) (fun c => ?_)
  · subst eb
    refine ⟨_, rfl, xc_mk hp hq, ?_⟩
    refine y_when h6 h0 r5 r1 hm (fun b' hb' eb' ey' row pu => ?_) (fun c => absurd ⟨inR_nI hb2 (by omega), ey⟩ c)
    obtain rfl := nE eb' (by omega) (by omega)
    exact ⟨by rw [fdG_c r5 h0 hb2 hk 41 0 _ _ he], rw_mk cc⟩
  · refine ⟨_, rfl, xc_mk hp hq, ?_⟩
    refine y_when h6 h0 r5 r1 hm (fun b' hb' eb' ey' row pu => ?_) (fun c => ?_)
    · subst eb'
      exact absurd ⟨inR_nI hb' (by omega), ey'⟩ c
    · exact ⟨rfl, rw_mk cc⟩
theorem sg_16 (cc : (CC tx tx' H R M L S S8 S2 kd th wi kd' th' mc wn p8 P8 past p2 P2 kept sd sh sr)) : SG (xw tx (nI L) (kd, th, wi, nI H, nI R, nI M, dy) T1 (gP 13 8 p8) (nI S8) P8 (gP 47 2 p2) (nI S2) P2 (fun i => nI (sd i)) (fun i => nI (sh i)) (fun i => nI (sr i)) ths (nI S) T3 mby vby T0) (mw (nI H) (nI R) dy (nI S) (nI L) po rh rr (nI S8) (nI S2) kd' th' mc wn (fun i => nI (sd i)) (fun i => nI (5 * sh i + sr i)) ths tx' rk rt rm2 rw2 row past pu pin rows kept) 96 160 [] := by
  obtain ⟨⟨h2, h6, r2, r5⟩, ⟨hL, htx⟩, nr, pi8, pi2, hS, hsd, hsh⟩ := id cc
  obtain ⟨hk, he, hb, hm, hw, hM⟩ := id nr
  have hp := pi8.2.1
  have hq := pi2.2.1
  have hS8 := pi8.1
  have hS2 := pi2.1
  have h0 : 0 < H := by omega
  have r1 : 0 < R := by omega
  have hM64 : M < 64 := Nat.lt_of_lt_of_le hM (Nat.le_trans (Nat.pow_le_pow_right (by omega) h6) (by decide))
  have hb' : bnd H R th' := hb.eq he
  unfold SG
  refine x_rest h6 r5 h0 hM64 (fun T3 => ?_)
  refine ⟨_, rfl, xc_mk hp hq, ?_⟩
  refine y_rest h6 h0 r5 hm (fun row pu => ?_)
  exact ⟨by rw [fqG_c r5 hk 41 0 _ _ he], rw_mk cc⟩
theorem sg_17 (cc : (CC tx tx' H R M L S S8 S2 kd th wi kd' th' mc wn p8 P8 past p2 P2 kept sd sh sr)) : SG (xw tx (nI L) (kd, th, wi, nI H, nI R, nI M, dy) T1 (gP 13 8 p8) (nI S8) P8 (gP 47 2 p2) (nI S2) P2 (fun i => nI (sd i)) (fun i => nI (sh i)) (fun i => nI (sr i)) ths (nI S) T3 mby vby T0) (mw (nI H) (nI R) dy (nI S) (nI L) po rh rr (nI S8) (nI S2) kd' th' mc wn (fun i => nI (sd i)) (fun i => nI (5 * sh i + sr i)) ths tx' rk rt rm2 rw2 row past pu pin rows kept) 97 162 [.int x] := by
  obtain ⟨⟨h2, h6, r2, r5⟩, ⟨hL, htx⟩, nr, pi8, pi2, hS, hsd, hsh⟩ := id cc
  obtain ⟨hk, he, hb, hm, hw, hM⟩ := id nr
  have hp := pi8.2.1
  have hq := pi2.2.1
  have hS8 := pi8.1
  have hS2 := pi2.1
  have h0 : 0 < H := by omega
  have r1 : 0 < R := by omega
  have hM64 : M < 64 := Nat.lt_of_lt_of_le hM (Nat.le_trans (Nat.pow_le_pow_right (by omega) h6) (by decide))
  have hb' : bnd H R th' := hb.eq he
  unfold SG
  refine x_met h6 r5 h0 hM64 (fun n hn en T3 => ?_) (fun c => ?_)
  · subst en
    refine ⟨_, rfl, xc_mk hp hq, ?_⟩
    refine y_met (wi := wi) h6 h0 r5 r1 hm (fun n' hn' en' row pu => ?_) (fun n _ => hw_of h0 hw (bnd_it r5 n _ hb')) (fun c => absurd ⟨nI_pos (by omega), nI_nlt (a := 40) (by omega) (by omega)⟩ c)
    obtain rfl := nE en' (by omega) (by omega)
    exact ⟨by rw [metN_c ((eqR_it r5 hk n _ _ he).top h0)], rw_mk cc⟩
  · refine ⟨_, rfl, xc_mk hp hq, ?_⟩
    refine y_met (wi := wi) h6 h0 r5 r1 hm (fun n' hn' en' row pu => ?_) (fun n _ => hw_of h0 hw (bnd_it r5 n _ hb')) (fun c => ?_)
    · subst en'
      exact absurd ⟨nI_pos (by omega), nI_nlt (a := 40) (by omega) (by omega)⟩ c
    · exact ⟨rfl, rw_mk cc⟩
theorem sg_18 (cc : (CC tx tx' H R M L S S8 S2 kd th wi kd' th' mc wn p8 P8 past p2 P2 kept sd sh sr)) : SG (xw tx (nI L) (kd, th, wi, nI H, nI R, nI M, dy) T1 (gP 13 8 p8) (nI S8) P8 (gP 47 2 p2) (nI S2) P2 (fun i => nI (sd i)) (fun i => nI (sh i)) (fun i => nI (sr i)) ths (nI S) T3 mby vby T0) (mw (nI H) (nI R) dy (nI S) (nI L) po rh rr (nI S8) (nI S2) kd' th' mc wn (fun i => nI (sd i)) (fun i => nI (5 * sh i + sr i)) ths tx' rk rt rm2 rw2 row past pu pin rows kept) 98 164 [.int x, .int y] := by
  obtain ⟨⟨h2, h6, r2, r5⟩, ⟨hL, htx⟩, nr, pi8, pi2, hS, hsd, hsh⟩ := id cc
  obtain ⟨hk, he, hb, hm, hw, hM⟩ := id nr
  have hp := pi8.2.1
  have hq := pi2.2.1
  have hS8 := pi8.1
  have hS2 := pi2.1
  have h0 : 0 < H := by omega
  have r1 : 0 < R := by omega
  have hM64 : M < 64 := Nat.lt_of_lt_of_le hM (Nat.le_trans (Nat.pow_le_pow_right (by omega) h6) (by decide))
  have hb' : bnd H R th' := hb.eq he
  unfold SG
  refine x_pins hM64 h0 h6 r5 (fun n n1 hn en hy T3 mby => ?_) (fun c => ?_)
  · subst en
    refine ⟨_, rfl, xc_mk hp hq, ?_⟩
    refine y_pins (wi := wi) h6 h0 r5 r1 hm (fun j z hz n => hw_of h0 hw (bnd_it r5 n _ (bnd_upd hz hb'))) (fun n => hw_of h0 hw (bnd_it r5 n _ hb')) (fun n' n1' hn' en' hy' row pu => ?_) (fun c => absurd ⟨⟨nI_nlt (b := 1) (by omega) (by omega), nI_nlt (a := 40) (by omega) (by omega)⟩, hy⟩ c)
    obtain rfl := nE en' (by omega) (by omega)
    refine ⟨?_, rw_mk cc⟩
    have e := pins_eq (kd := kd) (th := th) (M := M) (n := n) (pin := cpT pin (fun b => th' (5 * (H - 1) + b)) 0 R) r5 r1 h0 hw hy (fun b hb2 => by rw [cp0 hb2, he (H - 1) (by omega) b hb2])
    rw [e, pfR_c r5 r1 h0 hk he R 0 0 _ (by omega), metN_c ((eqR_it r5 hk n _ _ he).top h0), cdN_c hk (H - 1) (by omega)]
  · refine ⟨_, rfl, xc_mk hp hq, ?_⟩
    refine y_pins (wi := wi) h6 h0 r5 r1 hm (fun j z hz n => hw_of h0 hw (bnd_it r5 n _ (bnd_upd hz hb'))) (fun n => hw_of h0 hw (bnd_it r5 n _ hb')) (fun n' n1' hn' en' hy' row pu => ?_) (fun c => ?_)
    · subst en'
      exact absurd ⟨⟨nI_nlt (b := 1) (by omega) (by omega), nI_nlt (a := 40) (by omega) (by omega)⟩, hy'⟩ c
    · exact ⟨rfl, rw_mk cc⟩
theorem sg_19 (cc : (CC tx tx' H R M L S S8 S2 kd th wi kd' th' mc wn p8 P8 past p2 P2 kept sd sh sr)) : SG (xw tx (nI L) (kd, th, wi, nI H, nI R, nI M, dy) T1 (gP 13 8 p8) (nI S8) P8 (gP 47 2 p2) (nI S2) P2 (fun i => nI (sd i)) (fun i => nI (sh i)) (fun i => nI (sr i)) ths (nI S) T3 mby vby T0) (mw (nI H) (nI R) dy (nI S) (nI L) po rh rr (nI S8) (nI S2) kd' th' mc wn (fun i => nI (sd i)) (fun i => nI (5 * sh i + sr i)) ths tx' rk rt rm2 rw2 row past pu pin rows kept) 99 165 [.int x, .int y] := by
  obtain ⟨⟨h2, h6, r2, r5⟩, ⟨hL, htx⟩, nr, pi8, pi2, hS, hsd, hsh⟩ := id cc
  obtain ⟨hk, he, hb, hm, hw, hM⟩ := id nr
  have hp := pi8.2.1
  have hq := pi2.2.1
  have hS8 := pi8.1
  have hS2 := pi2.1
  have h0 : 0 < H := by omega
  have r1 : 0 < R := by omega
  have hM64 : M < 64 := Nat.lt_of_lt_of_le hM (Nat.le_trans (Nat.pow_le_pow_right (by omega) h6) (by decide))
  have hb' : bnd H R th' := hb.eq he
  unfold SG
  refine x_one hM64 h0 h6 r5 (fun n hn en hy T3 mby => ?_) (fun c => ?_)
  · subst en
    refine ⟨_, rfl, xc_mk hp hq, ?_⟩
    refine y_one (wi := wi) h6 h0 r5 hm (fun j z hz n => hw_of h0 hw (bnd_it r5 n _ (bnd_upd hz hb'))) (fun n' hn' en' hy' row pu => ?_) (fun c => absurd ⟨⟨nI_pos (by omega), nI_nlt (a := 40) (by omega) (by omega)⟩, hy⟩ c)
    obtain rfl := nE en' (by omega) (by omega)
    refine ⟨?_, rw_mk cc⟩
    have e := one_eq (kd := kd) (th := th) (wi := wi) (M := M) (n := n) r5 r1 h0
    rw [e.1, e.2, onR_c r5 h0 hk he (100 * H) 0 (-4, -1) (by omega)]
  · refine ⟨_, rfl, xc_mk hp hq, ?_⟩
    refine y_one (wi := wi) h6 h0 r5 hm (fun j z hz n => hw_of h0 hw (bnd_it r5 n _ (bnd_upd hz hb'))) (fun n' hn' en' hy' row pu => ?_) (fun c => ?_)
    · subst en'
      exact absurd ⟨⟨nI_pos (by omega), nI_nlt (a := 40) (by omega) (by omega)⟩, hy'⟩ c
    · exact ⟨rfl, rw_mk cc⟩
theorem sg_20 (cc : (CC tx tx' H R M L S S8 S2 kd th wi kd' th' mc wn p8 P8 past p2 P2 kept sd sh sr)) : SG (xw tx (nI L) (kd, th, wi, nI H, nI R, nI M, dy) T1 (gP 13 8 p8) (nI S8) P8 (gP 47 2 p2) (nI S2) P2 (fun i => nI (sd i)) (fun i => nI (sh i)) (fun i => nI (sr i)) ths (nI S) T3 mby vby T0) (mw (nI H) (nI R) dy (nI S) (nI L) po rh rr (nI S8) (nI S2) kd' th' mc wn (fun i => nI (sd i)) (fun i => nI (5 * sh i + sr i)) ths tx' rk rt rm2 rw2 row past pu pin rows kept) 100 166 [.int x, .int y] := by
  obtain ⟨⟨h2, h6, r2, r5⟩, ⟨hL, htx⟩, nr, pi8, pi2, hS, hsd, hsh⟩ := id cc
  obtain ⟨hk, he, hb, hm, hw, hM⟩ := id nr
  have hp := pi8.2.1
  have hq := pi2.2.1
  have hS8 := pi8.1
  have hS2 := pi2.1
  have h0 : 0 < H := by omega
  have r1 : 0 < R := by omega
  have hM64 : M < 64 := Nat.lt_of_lt_of_le hM (Nat.le_trans (Nat.pow_le_pow_right (by omega) h6) (by decide))
  have hb' : bnd H R th' := hb.eq he
  unfold SG
  refine x_harm hM64 h0 h6 r5 (fun n hn en hy T3 => ?_) (fun c => ?_)
  · subst en
    refine ⟨_, rfl, xc_mk hp hq, ?_⟩
    refine y_harm (wi := wi) h6 h0 r5 hm (fun M2 n => hw_of h0 hw (bnd_it (M := M2) r5 n _ hb')) (fun n' hn' en' hy' row pu => ?_) (fun c => absurd ⟨⟨nI_pos (by omega), nI_nlt (a := 40) (by omega) (by omega)⟩, hy⟩ c)
    obtain rfl := nE en' (by omega) (by omega)
    exact ⟨by rw [harm_eq r5 h0 h6 hk he], rw_mk cc⟩
  · refine ⟨_, rfl, xc_mk hp hq, ?_⟩
    refine y_harm (wi := wi) h6 h0 r5 hm (fun M2 n => hw_of h0 hw (bnd_it (M := M2) r5 n _ hb')) (fun n' hn' en' hy' row pu => ?_) (fun c => ?_)
    · subst en'
      exact absurd ⟨⟨nI_pos (by omega), nI_nlt (a := 40) (by omega) (by omega)⟩, hy'⟩ c
    · exact ⟨rfl, rw_mk cc⟩
theorem sg_21 (cc : (CC tx tx' H R M L S S8 S2 kd th wi kd' th' mc wn p8 P8 past p2 P2 kept sd sh sr)) : SG (xw tx (nI L) (kd, th, wi, nI H, nI R, nI M, dy) T1 (gP 13 8 p8) (nI S8) P8 (gP 47 2 p2) (nI S2) P2 (fun i => nI (sd i)) (fun i => nI (sh i)) (fun i => nI (sr i)) ths (nI S) T3 mby vby T0) (mw (nI H) (nI R) dy (nI S) (nI L) po rh rr (nI S8) (nI S2) kd' th' mc wn (fun i => nI (sd i)) (fun i => nI (5 * sh i + sr i)) ths tx' rk rt rm2 rw2 row past pu pin rows kept) 101 167 [.int x, .int y, .int v, .int w] := by
  obtain ⟨⟨h2, h6, r2, r5⟩, ⟨hL, htx⟩, nr, pi8, pi2, hS, hsd, hsh⟩ := id cc
  obtain ⟨hk, he, hb, hm, hw, hM⟩ := id nr
  have hp := pi8.2.1
  have hq := pi2.2.1
  have hS8 := pi8.1
  have hS2 := pi2.1
  have h0 : 0 < H := by omega
  have r1 : 0 < R := by omega
  have hM64 : M < 64 := Nat.lt_of_lt_of_le hM (Nat.le_trans (Nat.pow_le_pow_right (by omega) h6) (by decide))
  have hb' : bnd H R th' := hb.eq he
  unfold SG
  refine x_seen hS (fun cx cy cv cw cs => ?_) (fun cx cy cv cw cs => ?_) (fun c => ?_)
  · obtain ⟨n, hn, rfl⟩ := nI_of2 (M := 20) (n := 20) rfl cx.1 (Int32.not_lt.mp cx.2)
    obtain ⟨a, ha, rfl⟩ := inR_of cy (by omega)
    obtain ⟨b, hb2, rfl⟩ := inR_of cv (by omega)
    rw [up_I, up_I, up_I]
    refine ⟨_, rfl, xc_mk hp hq, ?_⟩
    refine y_seen h6 h0 r5 r1 hS (fun a' b' ha' hb' cx' ea' eb' cw' cs' => ?_) (fun cx' cy' cv' cw' cs' => absurd cs cs') (fun c => absurd ⟨cx, cy, cv, cw⟩ c)
    obtain rfl := nE ea' (by omega) (by omega)
    obtain rfl := nE eb' (by omega) (by omega)
    have e1 : upd (fun i => nI (5 * sh i + sr i)) S (nI (5 * a + b)) = fun i => nI (5 * (if i = S then a else sh i) + (if i = S then b else sr i)) := by
      funext i
      by_cases e : i = S
      · rw [e, up_s, if_pos rfl, if_pos rfl]
      · rw [up_n _ _ e, if_neg e, if_neg e]
    rw [up_I, e1]
    refine ⟨rfl, rw_mk (sd := fun i => if i = S then n else sd i) (sh := fun i => if i = S then a else sh i) (sr := fun i => if i = S then b else sr i) ⟨⟨h2, h6, r2, r5⟩, ⟨hL, htx⟩, nr, pi8, pi2, cs, fun i => ?_, fun i hi => ?_⟩⟩
    · by_cases e : i = S
      · show (if i = S then n else sd i) ≤ 20
        rw [if_pos e]
        exact hn
      · show (if i = S then n else sd i) ≤ 20
        rw [if_neg e]
        exact hsd i
    · show (if i = S then a else sh i) < H ∧ (if i = S then b else sr i) < R
      by_cases e : i = S
      · rw [if_pos e, if_pos e]
        exact ⟨ha, hb2⟩
      · rw [if_neg e, if_neg e]
        exact hsh i (by omega)
  · refine ⟨_, rfl, xc_mk hp hq, ?_⟩
    refine y_seen h6 h0 r5 r1 hS (fun a' b' ha' hb' cx' ea' eb' cw' cs' => absurd cs' cs) (fun cx' cy' cv' cw' cs' => ?_) (fun c => absurd ⟨cx, cy, cv, cw⟩ c)
    exact ⟨rfl, rw_mk cc⟩
  · refine ⟨_, rfl, xc_mk hp hq, ?_⟩
    refine y_seen h6 h0 r5 r1 hS (fun a' b' ha' hb' cx' ea' eb' cw' cs' => ?_) (fun cx' cy' cv' cw' cs' => absurd ⟨cx', cy', cv', cw'⟩ c) (fun c => ?_)
    · subst ea' eb'
      exact absurd ⟨cx', inR_nI ha' (by omega), inR_nI hb' (by omega), cw'⟩ c
    · exact ⟨rfl, rw_mk cc⟩
theorem sg_22 (cc : (CC tx tx' H R M L S S8 S2 kd th wi kd' th' mc wn p8 P8 past p2 P2 kept sd sh sr)) : SG (xw tx (nI L) (kd, th, wi, nI H, nI R, nI M, dy) T1 (gP 13 8 p8) (nI S8) P8 (gP 47 2 p2) (nI S2) P2 (fun i => nI (sd i)) (fun i => nI (sh i)) (fun i => nI (sr i)) ths (nI S) T3 mby vby T0) (mw (nI H) (nI R) dy (nI S) (nI L) po rh rr (nI S8) (nI S2) kd' th' mc wn (fun i => nI (sd i)) (fun i => nI (5 * sh i + sr i)) ths tx' rk rt rm2 rw2 row past pu pin rows kept) 102 168 [] := by
  obtain ⟨⟨h2, h6, r2, r5⟩, ⟨hL, htx⟩, nr, pi8, pi2, hS, hsd, hsh⟩ := id cc
  obtain ⟨hk, he, hb, hm, hw, hM⟩ := id nr
  have hp := pi8.2.1
  have hq := pi2.2.1
  have hS8 := pi8.1
  have hS2 := pi2.1
  have h0 : 0 < H := by omega
  have r1 : 0 < R := by omega
  have hM64 : M < 64 := Nat.lt_of_lt_of_le hM (Nat.le_trans (Nat.pow_le_pow_right (by omega) h6) (by decide))
  have hb' : bnd H R th' := hb.eq he
  unfold SG
  refine x_forget ?_
  refine ⟨_, rfl, xc_mk hp hq, ?_⟩
  refine y_forget ?_
  exact ⟨rfl, rw_mk (S := 0) ⟨⟨h2, h6, r2, r5⟩, ⟨hL, htx⟩, nr, pi8, pi2, Nat.zero_le _, hsd, fun i hi => absurd hi (Nat.not_lt_zero i)⟩⟩
theorem sg_23 (cc : (CC tx tx' H R M L S S8 S2 kd th wi kd' th' mc wn p8 P8 past p2 P2 kept sd sh sr)) : SG (xw tx (nI L) (kd, th, wi, nI H, nI R, nI M, dy) T1 (gP 13 8 p8) (nI S8) P8 (gP 47 2 p2) (nI S2) P2 (fun i => nI (sd i)) (fun i => nI (sh i)) (fun i => nI (sr i)) ths (nI S) T3 mby vby T0) (mw (nI H) (nI R) dy (nI S) (nI L) po rh rr (nI S8) (nI S2) kd' th' mc wn (fun i => nI (sd i)) (fun i => nI (5 * sh i + sr i)) ths tx' rk rt rm2 rw2 row past pu pin rows kept) 103 170 [.int x] := by
  obtain ⟨⟨h2, h6, r2, r5⟩, ⟨hL, htx⟩, nr, pi8, pi2, hS, hsd, hsh⟩ := id cc
  obtain ⟨hk, he, hb, hm, hw, hM⟩ := id nr
  have hp := pi8.2.1
  have hq := pi2.2.1
  have hS8 := pi8.1
  have hS2 := pi2.1
  have h0 : 0 < H := by omega
  have r1 : 0 < R := by omega
  have hM64 : M < 64 := Nat.lt_of_lt_of_le hM (Nat.le_trans (Nat.pow_le_pow_right (by omega) h6) (by decide))
  have hb' : bnd H R th' := hb.eq he
  unfold SG
  by_cases hx : inR x H
  · obtain ⟨a, ha, rfl⟩ := inR_of hx (by omega)
    refine x_kinds (c := fun k => @decide (ASO (upd kd a (nI k)) M H R sd sh sr ths S th) (Classical.propDecidable _)) hM64 h0 h6 r5 hS hsd (fun i hi => Nat.lt_of_lt_of_le (hsh i hi).1 h6) (fun i hi => Nat.lt_of_lt_of_le (hsh i hi).2 r5) (fun a' ha' ea' k hk4 => ?_) (fun _ T1 => ?_) (fun c => absurd hx c)
    · obtain rfl := nE ea' (by omega) (by omega)
      exact @decide_eq_true_iff _ (Classical.propDecidable _)
    · refine ⟨_, rfl, xc_mk hp hq, ?_⟩
      refine y_kinds (c := fun k => @decide (ASO (upd kd a (nI k)) M H R sd sh sr ths S th) (Classical.propDecidable _)) h6 h0 r5 hm hS (fun i _ => hsd i) (fun i hi => Nat.lt_of_lt_of_le (hsh i hi).1 h6) (fun i hi => Nat.lt_of_lt_of_le (hsh i hi).2 r5) (fun a' ha' ea' k hk4 => ?_) (fun _ row pu => ?_) (fun c => absurd hx c)
      · obtain rfl := nE ea' (by omega) (by omega)
        refine (@decide_eq_true_iff _ (Classical.propDecidable _)).trans (aso_c r5 (fun j hj => ?_) he hsh)
        by_cases e : j = a
        · rw [e, up_s, up_s]
        · rw [up_n _ _ e, up_n _ _ e]
          exact hk j hj
      · exact ⟨rfl, rw_mk cc⟩
  · refine x_kinds (c := fun _ => false) hM64 h0 h6 r5 hS hsd (fun i hi => Nat.lt_of_lt_of_le (hsh i hi).1 h6) (fun i hi => Nat.lt_of_lt_of_le (hsh i hi).2 r5) (fun a' ha' ea' k hk4 => absurd (by rw [ea']; exact inR_nI ha' (by omega)) hx) (fun c T1 => absurd c hx) (fun c => ?_)
    refine ⟨_, rfl, xc_mk hp hq, ?_⟩
    refine y_kinds (c := fun _ => false) h6 h0 r5 hm hS (fun i _ => hsd i) (fun i hi => Nat.lt_of_lt_of_le (hsh i hi).1 h6) (fun i hi => Nat.lt_of_lt_of_le (hsh i hi).2 r5) (fun a' ha' ea' k hk4 => absurd (by rw [ea']; exact inR_nI ha' (by omega)) hx) (fun c => absurd c hx) (fun c => ?_)
    exact ⟨rfl, rw_mk cc⟩
theorem sg_24 (cc : (CC tx tx' H R M L S S8 S2 kd th wi kd' th' mc wn p8 P8 past p2 P2 kept sd sh sr)) : SG (xw tx (nI L) (kd, th, wi, nI H, nI R, nI M, dy) T1 (gP 13 8 p8) (nI S8) P8 (gP 47 2 p2) (nI S2) P2 (fun i => nI (sd i)) (fun i => nI (sh i)) (fun i => nI (sr i)) ths (nI S) T3 mby vby T0) (mw (nI H) (nI R) dy (nI S) (nI L) po rh rr (nI S8) (nI S2) kd' th' mc wn (fun i => nI (sd i)) (fun i => nI (5 * sh i + sr i)) ths tx' rk rt rm2 rw2 row past pu pin rows kept) 104 171 [.int x] := by
  obtain ⟨⟨h2, h6, r2, r5⟩, ⟨hL, htx⟩, nr, pi8, pi2, hS, hsd, hsh⟩ := id cc
  obtain ⟨hk, he, hb, hm, hw, hM⟩ := id nr
  have hp := pi8.2.1
  have hq := pi2.2.1
  have hS8 := pi8.1
  have hS2 := pi2.1
  have h0 : 0 < H := by omega
  have r1 : 0 < R := by omega
  have hM64 : M < 64 := Nat.lt_of_lt_of_le hM (Nat.le_trans (Nat.pow_le_pow_right (by omega) h6) (by decide))
  have hb' : bnd H R th' := hb.eq he
  unfold SG
  by_cases hx : inR x R
  · obtain ⟨b, hb2, rfl⟩ := inR_of hx (by omega)
    refine x_stood (c := fun k => @decide (ASO kd M H R sd sh sr ths S (upd th (5 * (H - 1) + b) (nI k))) (Classical.propDecidable _)) hM64 h0 h6 r5 hS hsd (fun i hi => Nat.lt_of_lt_of_le (hsh i hi).1 h6) (fun i hi => Nat.lt_of_lt_of_le (hsh i hi).2 r5) (fun a' ha' ea' k hk4 => ?_) (fun _ T1 => ?_) (fun c => absurd hx c)
    · obtain rfl := nE ea' (by omega) (by omega)
      exact @decide_eq_true_iff _ (Classical.propDecidable _)
    · refine ⟨_, rfl, xc_mk hp hq, ?_⟩
      refine y_stood (c := fun k => @decide (ASO kd M H R sd sh sr ths S (upd th (5 * (H - 1) + b) (nI k))) (Classical.propDecidable _)) h6 h0 r5 r1 hm hS (fun i _ => hsd i) (fun i hi => Nat.lt_of_lt_of_le (hsh i hi).1 h6) (fun i hi => Nat.lt_of_lt_of_le (hsh i hi).2 r5) (fun a' ha' ea' k hk4 => ?_) (fun _ row pu => ?_) (fun c => absurd hx c)
      · obtain rfl := nE ea' (by omega) (by omega)
        exact (@decide_eq_true_iff _ (Classical.propDecidable _)).trans (aso_c r5 hk (eqR_upd he) hsh)
      · exact ⟨rfl, rw_mk cc⟩
  · refine x_stood (c := fun _ => false) hM64 h0 h6 r5 hS hsd (fun i hi => Nat.lt_of_lt_of_le (hsh i hi).1 h6) (fun i hi => Nat.lt_of_lt_of_le (hsh i hi).2 r5) (fun a' ha' ea' k hk4 => absurd (by rw [ea']; exact inR_nI ha' (by omega)) hx) (fun c T1 => absurd c hx) (fun c => ?_)
    refine ⟨_, rfl, xc_mk hp hq, ?_⟩
    refine y_stood (c := fun _ => false) h6 h0 r5 r1 hm hS (fun i _ => hsd i) (fun i hi => Nat.lt_of_lt_of_le (hsh i hi).1 h6) (fun i hi => Nat.lt_of_lt_of_le (hsh i hi).2 r5) (fun a' ha' ea' k hk4 => absurd (by rw [ea']; exact inR_nI ha' (by omega)) hx) (fun c => absurd c hx) (fun c => ?_)
    exact ⟨rfl, rw_mk cc⟩
theorem sg_25 (cc : (CC tx tx' H R M L S S8 S2 kd th wi kd' th' mc wn p8 P8 past p2 P2 kept sd sh sr)) : SG (xw tx (nI L) (kd, th, wi, nI H, nI R, nI M, dy) T1 (gP 13 8 p8) (nI S8) P8 (gP 47 2 p2) (nI S2) P2 (fun i => nI (sd i)) (fun i => nI (sh i)) (fun i => nI (sr i)) ths (nI S) T3 mby vby T0) (mw (nI H) (nI R) dy (nI S) (nI L) po rh rr (nI S8) (nI S2) kd' th' mc wn (fun i => nI (sd i)) (fun i => nI (5 * sh i + sr i)) ths tx' rk rt rm2 rw2 row past pu pin rows kept) 105 174 [.int x, .int y, .int v] := by
  obtain ⟨⟨h2, h6, r2, r5⟩, ⟨hL, htx⟩, nr, pi8, pi2, hS, hsd, hsh⟩ := id cc
  obtain ⟨hk, he, hb, hm, hw, hM⟩ := id nr
  have hp := pi8.2.1
  have hq := pi2.2.1
  have hS8 := pi8.1
  have hS2 := pi2.1
  have h0 : 0 < H := by omega
  have r1 : 0 < R := by omega
  have hM64 : M < 64 := Nat.lt_of_lt_of_le hM (Nat.le_trans (Nat.pow_le_pow_right (by omega) h6) (by decide))
  have hb' : bnd H R th' := hb.eq he
  unfold SG
  by_cases hx : (¬ x < 0 ∧ ¬ 20 < x) ∧ inR y H
  · obtain ⟨n, hn, rfl⟩ := nI_of2 (M := 20) (n := 20) rfl hx.1.1 (Int32.not_lt.mp hx.1.2)
    obtain ⟨a, ha, rfl⟩ := inR_of hx.2 (by omega)
    obtain ⟨vl, hvl⟩ := vl_ex (kd := kd) (M := M) (n := n) r5 h0 ha hb
    refine x_tells (vl := vl) hM64 h0 h6 r5 (fun n' a' hn' ha' en' ea' => ?_) (fun n' a' hn' ha' en' ea' hv T3 vby => ?_) (fun c => ?_)
    · obtain rfl := nE en' (by omega) (by omega)
      obtain rfl := nE ea' (by omega) (by omega)
      exact hvl
    · refine ⟨_, rfl, xc_mk hp hq, ?_⟩
      refine y_tells h6 h0 r5 hm (fun n2 a2 hn2 ha2 en2 ea2 hv2 row pu rows => ?_) (fun c => absurd ⟨hx.1, hx.2, hv⟩ c)
      obtain rfl := nE en2 (by omega) (by omega)
      obtain rfl := nE ea2 (by omega) (by omega)
      refine ⟨?_, rw_mk cc⟩
      have e := tells_eq (kd := kd) (th := th) (M := M) (n := n) r5 ha hb hvl
      have e2 : (fun r => ulN (ukG kd th M H R n a r) 10) = (fun r => ulN (ukG kd' th' M H R n a r) 10) := by
        funext r
        rw [uk_c r5 ha hk he]
      rw [e, e2]
    · refine ⟨_, rfl, xc_mk hp hq, ?_⟩
      refine y_tells h6 h0 r5 hm (fun n2 a2 hn2 ha2 en2 ea2 hv2 row pu rows => absurd ⟨hx.1, hx.2, hv2⟩ c) (fun c => ?_)
      exact ⟨rfl, rw_mk cc⟩
  · refine x_tells (vl := fun _ _ => 0) hM64 h0 h6 r5 (fun n' a' hn' ha' en' ea' => ?_) (fun n' a' hn' ha' en' ea' hv T3 vby => ?_) (fun c => ?_)
    · subst en' ea'
      exact absurd ⟨⟨nI_pos (by omega), nI_nlt (a := 20) (by omega) (by omega)⟩, inR_nI ha' (by omega)⟩ hx
    · subst en' ea'
      exact absurd ⟨⟨nI_pos (by omega), nI_nlt (a := 20) (by omega) (by omega)⟩, inR_nI ha' (by omega)⟩ hx
    · refine ⟨_, rfl, xc_mk hp hq, ?_⟩
      refine y_tells h6 h0 r5 hm (fun n2 a2 hn2 ha2 en2 ea2 hv2 row pu rows => ?_) (fun c => ?_)
      · subst en2 ea2
        exact absurd ⟨⟨nI_pos (by omega), nI_nlt (a := 20) (by omega) (by omega)⟩, inR_nI ha2 (by omega)⟩ hx
      · exact ⟨rfl, rw_mk cc⟩
theorem sg_26 (cc : (CC tx tx' H R M L S S8 S2 kd th wi kd' th' mc wn p8 P8 past p2 P2 kept sd sh sr)) : SG (xw tx (nI L) (kd, th, wi, nI H, nI R, nI M, dy) T1 (gP 13 8 p8) (nI S8) P8 (gP 47 2 p2) (nI S2) P2 (fun i => nI (sd i)) (fun i => nI (sh i)) (fun i => nI (sr i)) ths (nI S) T3 mby vby T0) (mw (nI H) (nI R) dy (nI S) (nI L) po rh rr (nI S8) (nI S2) kd' th' mc wn (fun i => nI (sd i)) (fun i => nI (5 * sh i + sr i)) ths tx' rk rt rm2 rw2 row past pu pin rows kept) 106 176 [.int x, .int y, .int v, .int w, .int u] := by
  obtain ⟨⟨h2, h6, r2, r5⟩, ⟨hL, htx⟩, nr, pi8, pi2, hS, hsd, hsh⟩ := id cc
  obtain ⟨hk, he, hb, hm, hw, hM⟩ := id nr
  have hp := pi8.2.1
  have hq := pi2.2.1
  have hS8 := pi8.1
  have hS2 := pi2.1
  have h0 : 0 < H := by omega
  have r1 : 0 < R := by omega
  have hM64 : M < 64 := Nat.lt_of_lt_of_le hM (Nat.le_trans (Nat.pow_le_pow_right (by omega) h6) (by decide))
  have hb' : bnd H R th' := hb.eq he
  unfold SG
  refine x_likely hM64 h0 h6 r5 r1 h2 (fun n b hn hb2 en eb cv cw cu T0 => ?_) (fun c => ?_)
  · subst en eb
    obtain ⟨Xv, hX, rfl⟩ := nI_of2 (M := 10) (n := 10) rfl cw.1 (Int32.not_lt.mp cw.2)
    refine ⟨_, rfl, xc_mk hp hq, ?_⟩
    refine y_likely h6 h0 r5 r1 hm (fun n' b' X' hn' hb' hX' en' eb' cv' eX' cu' row pu => ?_) (fun c => absurd ⟨⟨nI_pos (by omega), nI_nlt (a := 8) (by omega) (by omega)⟩, inR_nI hb2 (by omega), cv, cw, cu⟩ c)
    obtain rfl := nE en' (by omega) (by omega)
    obtain rfl := nE eb' (by omega) (by omega)
    obtain rfl := nE eX' (by omega) (by omega)
    exact ⟨by rw [likely_eq r5 h2 hb2 hX hn, lkS_c r5 h0 hb2 hk he], rw_mk cc⟩
  · refine ⟨_, rfl, xc_mk hp hq, ?_⟩
    refine y_likely h6 h0 r5 r1 hm (fun n' b' X' hn' hb' hX' en' eb' cv' eX' cu' row pu => ?_) (fun c => ?_)
    · subst en' eb' eX'
      exact absurd ⟨⟨nI_pos (by omega), nI_nlt (a := 8) (by omega) (by omega)⟩, inR_nI hb' (by omega), cv', ⟨nI_pos (by omega), nI_nlt (a := 10) (by omega) (by omega)⟩, cu'⟩ c
    · exact ⟨rfl, rw_mk cc⟩
theorem sg_27 (cc : (CC tx tx' H R M L S S8 S2 kd th wi kd' th' mc wn p8 P8 past p2 P2 kept sd sh sr)) : SG (xw tx (nI L) (kd, th, wi, nI H, nI R, nI M, dy) T1 (gP 13 8 p8) (nI S8) P8 (gP 47 2 p2) (nI S2) P2 (fun i => nI (sd i)) (fun i => nI (sh i)) (fun i => nI (sr i)) ths (nI S) T3 mby vby T0) (mw (nI H) (nI R) dy (nI S) (nI L) po rh rr (nI S8) (nI S2) kd' th' mc wn (fun i => nI (sd i)) (fun i => nI (5 * sh i + sr i)) ths tx' rk rt rm2 rw2 row past pu pin rows kept) 107 177 [.int x, .int y, .int v] := by
  obtain ⟨⟨h2, h6, r2, r5⟩, ⟨hL, htx⟩, nr, pi8, pi2, hS, hsd, hsh⟩ := id cc
  obtain ⟨hk, he, hb, hm, hw, hM⟩ := id nr
  have hp := pi8.2.1
  have hq := pi2.2.1
  have hS8 := pi8.1
  have hS2 := pi2.1
  have h0 : 0 < H := by omega
  have r1 : 0 < R := by omega
  have hM64 : M < 64 := Nat.lt_of_lt_of_le hM (Nat.le_trans (Nat.pow_le_pow_right (by omega) h6) (by decide))
  have hb' : bnd H R th' := hb.eq he
  unfold SG
  refine x_century hM64 h0 h6 r5 r1 (fun Z n hZ n1 hn eZ en hv T1 => ?_) (fun c => ?_)
  · subst eZ en
    refine ⟨_, rfl, xc_mk hp hq, ?_⟩
    refine y_century (wi := wi) h6 h0 r5 r1 hM64 hm (fun Z n => hw_of h0 hw (bnd_cy (s := (th', M)) r5 h0 hb' n)) (fun Z' n' hZ' n1' hn' eZ' en' hv' row pu => ?_) (fun c => absurd ⟨⟨nI_pos (by omega), nI_nlt (a := 9999) (by omega) (by omega)⟩, ⟨nI_nlt (b := 1) (by omega) (by omega), nI_nlt (a := 60) (by omega) (by omega)⟩, hv⟩ c)
    obtain rfl := nE eZ' (by omega) (by omega)
    obtain rfl := nE en' (by omega) (by omega)
    refine ⟨?_, rw_mk cc⟩
    obtain ⟨e1, e2⟩ := eqR_cy (Z := Z) (M := M) r5 h0 hk he n
    have e3 : (cyS kd H R Z (th, M) n).1 (5 * 0 + 0) = (cyS kd' H R Z (th', M) n).1 0 := e1 0 h0 0 r1
    rw [metN_c (e1.top h0), e2, e3, ma_pop H (by omega) _ (cy_lt h0 hM n)]
  · refine ⟨_, rfl, xc_mk hp hq, ?_⟩
    refine y_century (wi := wi) h6 h0 r5 r1 hM64 hm (fun Z n => hw_of h0 hw (bnd_cy (s := (th', M)) r5 h0 hb' n)) (fun Z' n' hZ' n1' hn' eZ' en' hv' row pu => ?_) (fun c => ?_)
    · subst eZ' en'
      exact absurd ⟨⟨nI_pos (by omega), nI_nlt (a := 9999) (by omega) (by omega)⟩, ⟨nI_nlt (b := 1) (by omega) (by omega), nI_nlt (a := 60) (by omega) (by omega)⟩, hv'⟩ c
    · exact ⟨rfl, rw_mk cc⟩
theorem sg_28 (cc : (CC tx tx' H R M L S S8 S2 kd th wi kd' th' mc wn p8 P8 past p2 P2 kept sd sh sr)) : SG (xw tx (nI L) (kd, th, wi, nI H, nI R, nI M, dy) T1 (gP 13 8 p8) (nI S8) P8 (gP 47 2 p2) (nI S2) P2 (fun i => nI (sd i)) (fun i => nI (sh i)) (fun i => nI (sr i)) ths (nI S) T3 mby vby T0) (mw (nI H) (nI R) dy (nI S) (nI L) po rh rr (nI S8) (nI S2) kd' th' mc wn (fun i => nI (sd i)) (fun i => nI (5 * sh i + sr i)) ths tx' rk rt rm2 rw2 row past pu pin rows kept) 108 178 [] := by
  obtain ⟨⟨h2, h6, r2, r5⟩, ⟨hL, htx⟩, nr, pi8, pi2, hS, hsd, hsh⟩ := id cc
  obtain ⟨hk, he, hb, hm, hw, hM⟩ := id nr
  have hp := pi8.2.1
  have hq := pi2.2.1
  have hS8 := pi8.1
  have hS2 := pi2.1
  have h0 : 0 < H := by omega
  have r1 : 0 < R := by omega
  have hM64 : M < 64 := Nat.lt_of_lt_of_le hM (Nat.le_trans (Nat.pow_le_pow_right (by omega) h6) (by decide))
  have hb' : bnd H R th' := hb.eq he
  unfold SG
  refine x_keep hq hS2 (fun c => ?_) (fun c => ?_)
  · refine ⟨_, rfl, xc_mk hp hq, ?_⟩
    refine y_keep hS2 (fun _ => ?_) (fun c2 => absurd c c2)
    exact ⟨rfl, rw_mk ⟨⟨h2, h6, r2, r5⟩, ⟨hL, htx⟩, nr, pi8, pi_keep h6 r5 pi2 c nr, hS, hsd, hsh⟩⟩
  · refine ⟨_, rfl, xc_mk hp hq, ?_⟩
    refine y_keep hS2 (fun c2 => absurd c2 c) (fun _ => ?_)
    exact ⟨rfl, rw_mk cc⟩
theorem sg_29 (cc : (CC tx tx' H R M L S S8 S2 kd th wi kd' th' mc wn p8 P8 past p2 P2 kept sd sh sr)) : SG (xw tx (nI L) (kd, th, wi, nI H, nI R, nI M, dy) T1 (gP 13 8 p8) (nI S8) P8 (gP 47 2 p2) (nI S2) P2 (fun i => nI (sd i)) (fun i => nI (sh i)) (fun i => nI (sr i)) ths (nI S) T3 mby vby T0) (mw (nI H) (nI R) dy (nI S) (nI L) po rh rr (nI S8) (nI S2) kd' th' mc wn (fun i => nI (sd i)) (fun i => nI (5 * sh i + sr i)) ths tx' rk rt rm2 rw2 row past pu pin rows kept) 109 179 [] := by
  obtain ⟨⟨h2, h6, r2, r5⟩, ⟨hL, htx⟩, nr, pi8, pi2, hS, hsd, hsh⟩ := id cc
  obtain ⟨hk, he, hb, hm, hw, hM⟩ := id nr
  have hp := pi8.2.1
  have hq := pi2.2.1
  have hS8 := pi8.1
  have hS2 := pi2.1
  have h0 : 0 < H := by omega
  have r1 : 0 < R := by omega
  have hM64 : M < 64 := Nat.lt_of_lt_of_le hM (Nat.le_trans (Nat.pow_le_pow_right (by omega) h6) (by decide))
  have hb' : bnd H R th' := hb.eq he
  unfold SG
  refine x_back hp hS8 hq hS2 (fun c => ?_) (fun c => ?_)
  · obtain ⟨kd2, th2, wi2, M2, dy2, e1, e2, nr2⟩ := pi2.2.2.2 (S2 - 1) (by omega)
    rw [e1]
    refine ⟨_, rfl, xc_mk hp hq, ?_⟩
    refine y_back hS2 (fun _ => ?_) (fun c2 => absurd c c2)
    rw [e2]
    exact ⟨rfl, rw_mk (S8 := 0) ⟨⟨h2, h6, r2, r5⟩, ⟨hL, htx⟩, nr2, pi8.none, pi2.less (by omega), hS, hsd, hsh⟩⟩
  · refine ⟨_, rfl, xc_mk hp hq, ?_⟩
    refine y_back hS2 (fun c2 => absurd c2 c) (fun _ => ?_)
    exact ⟨rfl, rw_mk cc⟩
theorem sg_30 (cc : (CC tx tx' H R M L S S8 S2 kd th wi kd' th' mc wn p8 P8 past p2 P2 kept sd sh sr)) : SG (xw tx (nI L) (kd, th, wi, nI H, nI R, nI M, dy) T1 (gP 13 8 p8) (nI S8) P8 (gP 47 2 p2) (nI S2) P2 (fun i => nI (sd i)) (fun i => nI (sh i)) (fun i => nI (sr i)) ths (nI S) T3 mby vby T0) (mw (nI H) (nI R) dy (nI S) (nI L) po rh rr (nI S8) (nI S2) kd' th' mc wn (fun i => nI (sd i)) (fun i => nI (5 * sh i + sr i)) ths tx' rk rt rm2 rw2 row past pu pin rows kept) 110 180 [.int x] := by
  obtain ⟨⟨h2, h6, r2, r5⟩, ⟨hL, htx⟩, nr, pi8, pi2, hS, hsd, hsh⟩ := id cc
  obtain ⟨hk, he, hb, hm, hw, hM⟩ := id nr
  have hp := pi8.2.1
  have hq := pi2.2.1
  have hS8 := pi8.1
  have hS2 := pi2.1
  have h0 : 0 < H := by omega
  have r1 : 0 < R := by omega
  have hM64 : M < 64 := Nat.lt_of_lt_of_le hM (Nat.le_trans (Nat.pow_le_pow_right (by omega) h6) (by decide))
  have hb' : bnd H R th' := hb.eq he
  unfold SG
  refine x_count hp hS8 hq hS2 r5 hM64 (fun c => ?_) (fun e => ?_) (fun e => ?_) (fun e => ?_) (fun e => ?_) (fun e => ?_) (fun e => ?_) (fun e => ?_) (fun e => ?_) (fun e => ?_) (fun e => ?_)
  · refine ⟨_, rfl, xc_mk hp hq, ?_⟩
    refine y_count (wi := wi) h6 h0 r5 hm (hw_of h0 hw hb') (fun c => ?_) (fun e => absurd (by rw [e]; decide) c) (fun e => absurd (by rw [e]; decide) c) (fun e => absurd (by rw [e]; decide) c) (fun e => absurd (by rw [e]; decide) c) (fun e => absurd (by rw [e]; decide) c) (fun e => absurd (by rw [e]; decide) c) (fun e => absurd (by rw [e]; decide) c) (fun e => absurd (by rw [e]; decide) c) (fun e => absurd (by rw [e]; decide) c) (fun e => absurd (by rw [e]; decide) c)
    exact ⟨rfl, rw_mk cc⟩
  · subst e
    refine ⟨_, rfl, xc_mk hp hq, ?_⟩
    refine y_count (wi := wi) h6 h0 r5 hm (hw_of h0 hw hb') (fun c => absurd (by decide) c) (fun e => ?_) (fun e => absurd e (by decide)) (fun e => absurd e (by decide)) (fun e => absurd e (by decide)) (fun e => absurd e (by decide)) (fun e => absurd e (by decide)) (fun e => absurd e (by decide)) (fun e => absurd e (by decide)) (fun e => absurd e (by decide)) (fun e => absurd e (by decide))
    exact ⟨rfl, rw_mk cc⟩
  · subst e
    refine ⟨_, rfl, xc_mk hp hq, ?_⟩
    refine y_count (wi := wi) h6 h0 r5 hm (hw_of h0 hw hb') (fun c => absurd (by decide) c) (fun e => absurd e (by decide)) (fun e => ?_) (fun e => absurd e (by decide)) (fun e => absurd e (by decide)) (fun e => absurd e (by decide)) (fun e => absurd e (by decide)) (fun e => absurd e (by decide)) (fun e => absurd e (by decide)) (fun e => absurd e (by decide)) (fun e => absurd e (by decide))
    exact ⟨rfl, rw_mk cc⟩
  · subst e
    refine ⟨_, rfl, xc_mk hp hq, ?_⟩
    refine y_count (wi := wi) h6 h0 r5 hm (hw_of h0 hw hb') (fun c => absurd (by decide) c) (fun e => absurd e (by decide)) (fun e => absurd e (by decide)) (fun e => ?_) (fun e => absurd e (by decide)) (fun e => absurd e (by decide)) (fun e => absurd e (by decide)) (fun e => absurd e (by decide)) (fun e => absurd e (by decide)) (fun e => absurd e (by decide)) (fun e => absurd e (by decide))
    exact ⟨rfl, rw_mk cc⟩
  · subst e
    refine ⟨_, rfl, xc_mk hp hq, ?_⟩
    refine y_count (wi := wi) h6 h0 r5 hm (hw_of h0 hw hb') (fun c => absurd (by decide) c) (fun e => absurd e (by decide)) (fun e => absurd e (by decide)) (fun e => absurd e (by decide)) (fun e => ?_) (fun e => absurd e (by decide)) (fun e => absurd e (by decide)) (fun e => absurd e (by decide)) (fun e => absurd e (by decide)) (fun e => absurd e (by decide)) (fun e => absurd e (by decide))
    exact ⟨by rw [ma_pop H (by omega) _ hM], rw_mk cc⟩
  · subst e
    refine ⟨_, rfl, xc_mk hp hq, ?_⟩
    refine y_count (wi := wi) h6 h0 r5 hm (hw_of h0 hw hb') (fun c => absurd (by decide) c) (fun e => absurd e (by decide)) (fun e => absurd e (by decide)) (fun e => absurd e (by decide)) (fun e => absurd e (by decide)) (fun e => ?_) (fun e => absurd e (by decide)) (fun e => absurd e (by decide)) (fun e => absurd e (by decide)) (fun e => absurd e (by decide)) (fun e => absurd e (by decide))
    exact ⟨by rw [wa_ws hw r5 R (Nat.le_refl _)], rw_mk cc⟩
  · subst e
    refine ⟨_, rfl, xc_mk hp hq, ?_⟩
    refine y_count (wi := wi) h6 h0 r5 hm (hw_of h0 hw hb') (fun c => absurd (by decide) c) (fun e => absurd e (by decide)) (fun e => absurd e (by decide)) (fun e => absurd e (by decide)) (fun e => absurd e (by decide)) (fun e => absurd e (by decide)) (fun e => ?_) (fun e => absurd e (by decide)) (fun e => absurd e (by decide)) (fun e => absurd e (by decide)) (fun e => absurd e (by decide))
    exact ⟨by rw [metN_c (he.top h0)], rw_mk cc⟩
  · subst e
    refine ⟨_, rfl, xc_mk hp hq, ?_⟩
    refine y_count (wi := wi) h6 h0 r5 hm (hw_of h0 hw hb') (fun c => absurd (by decide) c) (fun e => absurd e (by decide)) (fun e => absurd e (by decide)) (fun e => absurd e (by decide)) (fun e => absurd e (by decide)) (fun e => absurd e (by decide)) (fun e => absurd e (by decide)) (fun e => ?_) (fun e => absurd e (by decide)) (fun e => absurd e (by decide)) (fun e => absurd e (by decide))
    exact ⟨rfl, rw_mk cc⟩
  · subst e
    refine ⟨_, rfl, xc_mk hp hq, ?_⟩
    refine y_count (wi := wi) h6 h0 r5 hm (hw_of h0 hw hb') (fun c => absurd (by decide) c) (fun e => absurd e (by decide)) (fun e => absurd e (by decide)) (fun e => absurd e (by decide)) (fun e => absurd e (by decide)) (fun e => absurd e (by decide)) (fun e => absurd e (by decide)) (fun e => absurd e (by decide)) (fun e => ?_) (fun e => absurd e (by decide)) (fun e => absurd e (by decide))
    exact ⟨rfl, rw_mk cc⟩
  · subst e
    refine ⟨_, rfl, xc_mk hp hq, ?_⟩
    refine y_count (wi := wi) h6 h0 r5 hm (hw_of h0 hw hb') (fun c => absurd (by decide) c) (fun e => absurd e (by decide)) (fun e => absurd e (by decide)) (fun e => absurd e (by decide)) (fun e => absurd e (by decide)) (fun e => absurd e (by decide)) (fun e => absurd e (by decide)) (fun e => absurd e (by decide)) (fun e => absurd e (by decide)) (fun e => ?_) (fun e => absurd e (by decide))
    exact ⟨rfl, rw_mk cc⟩
  · subst e
    refine ⟨_, rfl, xc_mk hp hq, ?_⟩
    refine y_count (wi := wi) h6 h0 r5 hm (hw_of h0 hw hb') (fun c => absurd (by decide) c) (fun e => absurd e (by decide)) (fun e => absurd e (by decide)) (fun e => absurd e (by decide)) (fun e => absurd e (by decide)) (fun e => absurd e (by decide)) (fun e => absurd e (by decide)) (fun e => absurd e (by decide)) (fun e => absurd e (by decide)) (fun e => absurd e (by decide)) (fun e => ?_)
    exact ⟨rfl, rw_mk cc⟩
end SB
