/-! PINS: rooms at the bottom and rooms at the top are told by each other -/
theorem up_cd {kd : Nat → Int32} {R : Nat} (h1 : 0 < R) : ∀ (n b : Nat), b < R → upA kd R 0 n b = (b + (R - cdN kd n % R)) % R
  | 0, b, hb => by
    rw [upA, cdN, Nat.zero_mod, Nat.sub_zero, Nat.add_mod_right, Nat.mod_eq_of_lt hb]
  | n + 1, b, hb => by
    rw [upA, cdN, Nat.zero_add]
    have hc : cdN kd n % R < R := Nat.mod_lt _ h1
    by_cases k3 : kd n = 3
    · rw [if_pos k3, if_pos k3, up_cd h1 n _ (by split <;> omega), Nat.add_mod (cdN kd n) 1 R]
      generalize cdN kd n % R = c at hc ⊢
      by_cases hR1 : R = 1
      · subst hR1
        omega
      · rw [Nat.mod_eq_of_lt (show 1 < R by omega)]
        by_cases c1 : c + 1 = R
        · rw [c1, Nat.mod_self]
          split
          · rw [show b - 1 + (R - c) = b by omega, Nat.mod_eq_of_lt hb, Nat.sub_zero, Nat.add_mod_right, Nat.mod_eq_of_lt hb]
          · rw [show R - 1 + (R - c) = R by omega, Nat.mod_self, show b = 0 by omega]
            simp
        · rw [Nat.mod_eq_of_lt (show c + 1 < R by omega)]
          split
          · rw [show b - 1 + (R - c) = b + (R - (c + 1)) by omega]
          · rw [show R - 1 + (R - c) = (b + (R - (c + 1))) + R by omega, Nat.add_mod_right]
    · rw [if_neg k3, if_neg k3, up_cd h1 n b hb, Nat.add_zero]
theorem rot_a {R b c : Nat} (h1 : 0 < R) (hb : b < R) : ((b + (R - c % R)) % R + c) % R = b := by
  have hc : c % R < R := Nat.mod_lt _ h1
  rw [Nat.add_mod, Nat.mod_mod]
  generalize c % R = d at hc
  by_cases q : b + (R - d) < R
  · rw [Nat.mod_eq_of_lt q, show b + (R - d) + d = b + R by omega, Nat.add_mod_right, Nat.mod_eq_of_lt hb]
  · rw [show b + (R - d) = (b - d) + R by omega, Nat.add_mod_right, Nat.mod_eq_of_lt (show b - d < R by omega), show b - d + d = b by omega, Nat.mod_eq_of_lt hb]
theorem rot_b {R r c : Nat} (h1 : 0 < R) (hr : r < R) : ((r + c) % R + (R - c % R)) % R = r := by
  have hc : c % R < R := Nat.mod_lt _ h1
  rw [Nat.add_mod r c R, Nat.mod_eq_of_lt hr]
  generalize c % R = d at hc
  by_cases q : r + d < R
  · rw [Nat.mod_eq_of_lt q, show r + d + (R - d) = r + R by omega, Nat.add_mod_right, Nat.mod_eq_of_lt hr]
  · rw [show r + d = (r + d - R) + R by omega, Nat.add_mod_right, Nat.mod_eq_of_lt (show r + d - R < R by omega), show r + d - R + (R - d) = r by omega, Nat.mod_eq_of_lt hr]
def lsF (g : Nat → Bool) : Nat → Nat → Int32 → Int32
  | 0, _, b => b
  | f + 1, v, b => if g v = true then nI v else lsF g f (v + 1) b
theorem lsF_s {g : Nat → Bool} : ∀ (k v : Nat) (b : Int32), lsF g (k + 1) v b = lsF g k v (if g (v + k) = true then nI (v + k) else b)
  | 0, v, b => by rw [lsF, lsF, lsF, Nat.add_zero]
  | k + 1, v, b => by
    rw [lsF, lsF_s k (v + 1) b, lsF, show v + 1 + k = v + (k + 1) by omega]
theorem pb_ls {g : Nat → Bool} : ∀ (k : Nat) (b : Int32), pbG g k b = lsF g k 0 b
  | 0, b => rfl
  | k + 1, b => by rw [pbG, pb_ls k, lsF_s, Nat.zero_add]
theorem ls_ls {m : Nat → Nat} {top : Nat} : ∀ (f v : Nat), lstG m top f v = lsF (fun v => (m v).testBit top) f v (-4)
  | 0, v => rfl
  | f + 1, v => by rw [lstG, lsF, ls_ls f (v + 1)]
theorem lsF_c {g g' : Nat → Bool} {b : Int32} : ∀ (f v : Nat), (∀ w, v ≤ w → w < v + f → g w = g' w) → lsF g f v b = lsF g' f v b
  | 0, _, _ => rfl
  | f + 1, v, h => by rw [lsF, lsF, h v (Nat.le_refl _) (by omega), lsF_c f (v + 1) (fun w h1 h2 => h w (by omega) (by omega))]
theorem pfB_eq {kd th wi : Nat → Int32} {M H R n r : Nat} (hR : R ≤ 5) (h1 : 0 < R) (h0 : 0 < H) (hr : r < R) : pfB kd th wi M H R n ((r + cdN kd (H - 1)) % R) r = lstG (tyM kd th wi M H R n (H - 1)) r 10 0 := by
  unfold pfB
  rw [pb_ls, ls_ls]
  refine lsF_c 10 0 (fun w _ hw => ?_)
  have hj : (r + cdN kd (H - 1)) % R < R := Nat.mod_lt _ h1
  rw [met_one hR (by omega) hj, up_cd h1 _ _ hj, rot_b h1 hr, mx_tb _ (by omega) r (by omega) _ (metN_32 hR) _ (metN_32 hR), if_pos rfl]
/-- how many -/
def cnU (g : Nat → Bool) : Nat → Nat → Nat
  | 0, _ => 0
  | f + 1, b => (if g b = true then 1 else 0) + cnU g f (b + 1)
theorem cnU_c {g g' : Nat → Bool} : ∀ (f b : Nat), (∀ w, b ≤ w → w < b + f → g w = g' w) → cnU g f b = cnU g' f b
  | 0, _, _ => rfl
  | f + 1, b, h => by rw [cnU, cnU, h b (Nat.le_refl _) (by omega), cnU_c f (b + 1) (fun w h1 h2 => h w (by omega) (by omega))]
theorem cn_rot : ∀ R, R < 6 → 0 < R → ∀ s, s ≤ R → ∀ m, m < 32 → cnU (fun b => m.testBit ((b + s) % R)) R 0 = cnU (fun r => m.testBit r) R 0 := by decide +kernel
theorem bt_tb {c : Nat → Bool} : ∀ (R k : Nat), k < R → (btN c R).testBit k = c k
  | 0, k, h => absurd h (Nat.not_lt_zero k)
  | R + 1, k, h => by
    have hlt := btN_lt (c := c) R
    rw [btN]
    by_cases q : k = R
    · subst q
      by_cases e : c k = true
      · rw [if_pos e, Nat.add_comm, Nat.testBit_two_pow_add_eq, Nat.testBit_lt_two_pow hlt, e]
        rfl
      · rw [if_neg e, Nat.testBit_lt_two_pow hlt]
        simpa using e
    · have ih := bt_tb (c := c) R k (by omega)
      split
      · rw [Nat.add_comm, Nat.testBit_two_pow_add_gt (by omega), ih]
      · exact ih
section PN
variable {kd wi wn th : Nat → Int32} {R H M n met c : Nat} {m : Nat → Nat} {r : Int32} {U : Nat → Bool} {Ls : Nat → Int32} {top : Nat → Nat}
theorem fp_bad (hU : ∀ b, U (upA kd R 0 (H - 1) b) = true → (¬ wi (upA kd R 0 (H - 1) b) = 10 ∧ ¬ met.testBit (upA kd R 0 (H - 1) b) = true)) : ∀ (f b mv : Nat) (st : Int32), (∃ b', b ≤ b' ∧ b' < b + f ∧ U (upA kd R 0 (H - 1) b') = true ∧ lstG m (upA kd R 0 (H - 1) b') 10 0 = -4) → fpR kd wi R H met m r f b mv st = -4
  | 0, b, mv, st, h => by
    obtain ⟨b', h1, h2, -⟩ := h
    omega
  | f + 1, b, mv, st, h => by
    obtain ⟨b', h1, h2, h3, h4⟩ := h
    rw [fpR]
    by_cases e : b' = b
    · subst e
      rw [if_neg (hU _ h3).1, if_neg (hU _ h3).2, if_pos h4]
    · have ih := fun mv st => fp_bad hU f (b + 1) mv st ⟨b', by omega, by omega, h3, h4⟩
      rw [ih, ih]
      split
      · rfl
      · split
        · rfl
        · split <;> rfl
theorem fp_good (hU : ∀ b, U (upA kd R 0 (H - 1) b) = decide (¬ wi (upA kd R 0 (H - 1) b) = 10 ∧ ¬ met.testBit (upA kd R 0 (H - 1) b) = true)) : ∀ (f b mv : Nat) (st : Int32), (∀ b', b ≤ b' → b' < b + f → U (upA kd R 0 (H - 1) b') = true → ¬ lstG m (upA kd R 0 (H - 1) b') 10 0 = -4) → (r < 0 → fpR kd wi R H met m r f b mv st = nI (mv + cnU (fun b => U (upA kd R 0 (H - 1) b)) f b)) ∧ ∀ b0, b0 < 1000 → b + f ≤ 1000 → r = nI b0 → fpR kd wi R H met m r f b mv st = if (b ≤ b0 ∧ b0 < b + f) ∧ U (upA kd R 0 (H - 1) b0) = true then lstG m (upA kd R 0 (H - 1) b0) 10 0 else st
  | 0, b, mv, st, h => by
    rw [fpR, cnU]
    refine ⟨fun hr => by rw [if_pos hr, Nat.add_zero], fun b0 hb0 hf e => ?_⟩
    rw [if_neg (by rw [e]; exact nI_pos (by omega)), if_neg (by omega)]
  | f + 1, b, mv, st, h => by
    have hb := hU b
    rw [fpR, cnU]
    by_cases c : U (upA kd R 0 (H - 1) b) = true
    · have c' := c
      rw [hb] at c'
      have c2 := of_decide_eq_true c'
      rw [if_neg c2.1, if_neg c2.2, if_neg (h b (Nat.le_refl _) (by omega) c), if_pos c]
      obtain ⟨i1, i2⟩ := fp_good hU f (b + 1) (mv + 1) (if nI b = r then lstG m (upA kd R 0 (H - 1) b) 10 0 else st) (fun b' h1 h2 => h b' (by omega) (by omega))
      refine ⟨fun hr => by rw [i1 hr, show mv + 1 + cnU (fun b => U (upA kd R 0 (H - 1) b)) f (b + 1) = mv + (1 + cnU (fun b => U (upA kd R 0 (H - 1) b)) f (b + 1)) by omega], fun b0 hb0 hf e => ?_⟩
      rw [i2 b0 hb0 (by omega) e]
      by_cases q : b0 = b
      · subst q
        rw [if_neg (by omega), if_pos e.symm, if_pos ⟨⟨Nat.le_refl _, by omega⟩, c⟩]
      · rw [if_neg (show ¬ nI b = r from fun z => q ((nI_eq (by omega) (by omega)).mp (by rw [z, e])))]
        by_cases w : (b + 1 ≤ b0 ∧ b0 < b + 1 + f) ∧ U (upA kd R 0 (H - 1) b0) = true
        · rw [if_pos w, if_pos ⟨by omega, w.2⟩]
        · rw [if_neg w, if_neg (fun z => w ⟨by omega, z.2⟩)]
    · have c' := c
      rw [hb] at c'
      have c2 : ¬ (¬ wi (upA kd R 0 (H - 1) b) = 10 ∧ ¬ met.testBit (upA kd R 0 (H - 1) b) = true) := fun z => c' (decide_eq_true z)
      obtain ⟨i1, i2⟩ := fp_good hU f (b + 1) mv st (fun b' h1 h2 => h b' (by omega) (by omega))
      rw [if_neg c, Nat.zero_add]
      have e0 : (if wi (upA kd R 0 (H - 1) b) = 10 then fpR kd wi R H met m r f (b + 1) mv st else if met.testBit (upA kd R 0 (H - 1) b) = true then fpR kd wi R H met m r f (b + 1) mv st else if lstG m (upA kd R 0 (H - 1) b) 10 0 = -4 then -4 else fpR kd wi R H met m r f (b + 1) (mv + 1) (if nI b = r then lstG m (upA kd R 0 (H - 1) b) 10 0 else st)) = fpR kd wi R H met m r f (b + 1) mv st := by
        by_cases w1 : wi (upA kd R 0 (H - 1) b) = 10
        · rw [if_pos w1]
        · rw [if_neg w1]
          by_cases w2 : met.testBit (upA kd R 0 (H - 1) b) = true
          · rw [if_pos w2]
          · exact absurd ⟨w1, w2⟩ c2
      rw [e0]
      refine ⟨i1, fun b0 hb0 hf e => ?_⟩
      rw [i2 b0 hb0 (by omega) e]
      by_cases w : (b + 1 ≤ b0 ∧ b0 < b + 1 + f) ∧ U (upA kd R 0 (H - 1) b0) = true
      · rw [if_pos w, if_pos ⟨by omega, w.2⟩]
      · rw [if_neg w, if_neg (fun z => w ⟨⟨by
          rcases Nat.lt_or_ge b b0 with q | q
          · exact q
          · have : b0 = b := by omega
            subst this
            exact absurd z.2 c, by omega⟩, z.2⟩)]
theorem pf_bad (hU : ∀ r, U r = true → (¬ wn r = -4 ∧ ¬ met.testBit r = true)) (hB : ∀ r, r < R → pfB kd th wi M H R n ((r + c) % R) r = Ls r) : ∀ (f r mv : Nat) (pin : Nat → Int32), r + f ≤ R → (∃ r', r ≤ r' ∧ r' < r + f ∧ U r' = true ∧ Ls r' = -4) → (pfR kd th wi wn M H R n met c f r mv pin).1 = -4
  | 0, r, mv, pin, _, h => by
    obtain ⟨b', h1, h2, -⟩ := h
    omega
  | f + 1, r, mv, pin, hf, h => by
    obtain ⟨b', h1, h2, h3, h4⟩ := h
    rw [pfR, hB r (by omega)]
    by_cases e : b' = r
    · subst e
      rw [if_neg (hU _ h3).1, if_neg (hU _ h3).2, if_pos h4]
    · have ih := fun mv pin => pf_bad hU hB f (r + 1) mv pin (by omega) ⟨b', by omega, by omega, h3, h4⟩
      split
      · exact ih _ _
      · split
        · exact ih _ _
        · split
          · rfl
          · exact ih _ _
theorem pf_good (h1 : 0 < R) (hU : ∀ r, r < R → U r = decide (¬ wn r = -4 ∧ ¬ met.testBit r = true)) (hB : ∀ r, r < R → pfB kd th wi M H R n ((r + c) % R) r = Ls r) : ∀ (f r mv : Nat) (pin : Nat → Int32), r + f ≤ R → (∀ r', r ≤ r' → r' < r + f → U r' = true → ¬ Ls r' = -4) → (pfR kd th wi wn M H R n met c f r mv pin).1 = nI (mv + cnU U f r) ∧ ∀ b0, b0 < R → (pfR kd th wi wn M H R n met c f r mv pin).2 b0 = if (r ≤ (b0 + (R - c % R)) % R ∧ (b0 + (R - c % R)) % R < r + f) ∧ U ((b0 + (R - c % R)) % R) = true then Ls ((b0 + (R - c % R)) % R) else pin b0
  | 0, r, mv, pin, _, h => by
    rw [pfR, cnU]
    refine ⟨by rw [Nat.add_zero], fun b0 hb0 => ?_⟩
    rw [if_neg (by omega)]
  | f + 1, r, mv, pin, hf, h => by
    have hb := hU r (by omega)
    rw [pfR, cnU, hB r (by omega)]
    by_cases q : U r = true
    · have c' := q
      rw [hb] at c'
      have c2 := of_decide_eq_true c'
      rw [if_neg c2.1, if_neg c2.2, if_neg (h r (Nat.le_refl _) (by omega) q), if_pos q]
      obtain ⟨i1, i2⟩ := pf_good h1 hU hB f (r + 1) (mv + 1) (upd pin ((r + c) % R) (Ls r)) (by omega) (fun b' g1 g2 => h b' (by omega) (by omega))
      refine ⟨by rw [i1, show mv + 1 + cnU U f (r + 1) = mv + (1 + cnU U f (r + 1)) by omega], fun b0 hb0 => ?_⟩
      rw [i2 b0 hb0]
      have ra := rot_a (c := c) h1 hb0
      generalize ht : (b0 + (R - c % R)) % R = t at ra ⊢
      by_cases w : t = r
      · subst w
        rw [if_neg (by omega), ra, up_s, if_pos ⟨⟨Nat.le_refl _, by omega⟩, q⟩]
      · have nb : b0 ≠ (r + c) % R := by
          intro z
          apply w
          rw [← ht, z]
          exact rot_b h1 (by omega)
        rw [up_n _ _ nb]
        by_cases v : (r + 1 ≤ t ∧ t < r + 1 + f) ∧ U t = true
        · rw [if_pos v, if_pos ⟨by omega, v.2⟩]
        · rw [if_neg v, if_neg (fun z => v ⟨by omega, z.2⟩)]
    · have c' := q
      rw [hb] at c'
      have c2 : ¬ (¬ wn r = -4 ∧ ¬ met.testBit r = true) := fun z => c' (decide_eq_true z)
      obtain ⟨i1, i2⟩ := pf_good h1 hU hB f (r + 1) mv pin (by omega) (fun b' g1 g2 => h b' (by omega) (by omega))
      rw [if_neg q, Nat.zero_add]
      have e0 : (if wn r = -4 then pfR kd th wi wn M H R n met c f (r + 1) mv pin else if met.testBit r = true then pfR kd th wi wn M H R n met c f (r + 1) mv pin else if Ls r = -4 then (-4, pin) else pfR kd th wi wn M H R n met c f (r + 1) (mv + 1) (upd pin ((r + c) % R) (Ls r))) = pfR kd th wi wn M H R n met c f (r + 1) mv pin := by
        by_cases w1 : wn r = -4
        · rw [if_pos w1]
        · rw [if_neg w1]
          by_cases w2 : met.testBit r = true
          · rw [if_pos w2]
          · exact absurd ⟨w1, w2⟩ c2
      rw [e0]
      refine ⟨i1, fun b0 hb0 => ?_⟩
      rw [i2 b0 hb0]
      generalize (b0 + (R - c % R)) % R = t
      by_cases w : (r + 1 ≤ t ∧ t < r + 1 + f) ∧ U t = true
      · rw [if_pos w, if_pos ⟨by omega, w.2⟩]
      · rw [if_neg w, if_neg (fun z => w ⟨⟨by
          rcases Nat.lt_or_ge r t with g | g
          · exact g
          · have : t = r := by omega
            subst this
            exact absurd z.2 q, by omega⟩, z.2⟩)]
end PN
theorem wn_iff {R k : Nat} {wi wn : Nat → Int32} (hw : wok R wi wn) (hk : k < R) : wn k = -4 ↔ wi k = 10 := by
  obtain ⟨⟨j, hj, ej⟩, e⟩ := hw k hk
  rw [e]
  unfold wnf
  by_cases c : wi k = 10
  · rw [if_pos c]
    exact ⟨fun _ => c, fun _ => rfl⟩
  · rw [if_neg c]
    refine ⟨fun z => ?_, fun z => absurd z c⟩
    rw [ej] at z
    exact absurd (show nI j < 0 by rw [z]; decide) (nI_pos (by omega))
theorem pins_eq {kd th wi wn pin : Nat → Int32} {M H R n : Nat} {y : Int32} (hR : R ≤ 5) (h1 : 0 < R) (h0 : 0 < H) (hw : wok R wi wn) (hy : y = -1 ∨ inR y R) (hp : ∀ b, b < R → pin b = th (5 * (H - 1) + b)) : fpR kd wi R H (metN wi (itT kd M H R n th) R) (tyM kd th wi M H R n (H - 1)) y R 0 0 (if y < 0 then -4 else th (5 * (H - 1) + y.toNatClampNeg)) = (if (pfR kd th wi wn M H R n (metN wi (itT kd M H R n th) R) (cdN kd (H - 1)) R 0 0 pin).1 = -4 then (pfR kd th wi wn M H R n (metN wi (itT kd M H R n th) R) (cdN kd (H - 1)) R 0 0 pin).1 else if y < 0 then (pfR kd th wi wn M H R n (metN wi (itT kd M H R n th) R) (cdN kd (H - 1)) R 0 0 pin).1 else (pfR kd th wi wn M H R n (metN wi (itT kd M H R n th) R) (cdN kd (H - 1)) R 0 0 pin).2 y.toNatClampNeg) := by
  generalize hmet : metN wi (itT kd M H R n th) R = met
  have hUx : ∀ b, (fun t => decide (¬ wi t = 10 ∧ ¬ met.testBit t = true)) (upA kd R 0 (H - 1) b) = decide (¬ wi (upA kd R 0 (H - 1) b) = 10 ∧ ¬ met.testBit (upA kd R 0 (H - 1) b) = true) := fun _ => rfl
  have hUm : ∀ r, r < R → (fun t => decide (¬ wi t = 10 ∧ ¬ met.testBit t = true)) r = decide (¬ wn r = -4 ∧ ¬ met.testBit r = true) := fun r hr => by
    have e := wn_iff hw hr
    exact decide_eq_decide.mpr ⟨fun z => ⟨fun q => z.1 (e.mp q), z.2⟩, fun z => ⟨fun q => z.1 (e.mpr q), z.2⟩⟩
  have hB : ∀ r, r < R → pfB kd th wi M H R n ((r + cdN kd (H - 1)) % R) r = lstG (tyM kd th wi M H R n (H - 1)) r 10 0 := fun r hr => pfB_eq hR h1 h0 hr
  generalize hU : (fun t => decide (¬ wi t = 10 ∧ ¬ met.testBit t = true)) = U at hUx hUm
  have hup : ∀ b, b < R → upA kd R 0 (H - 1) b = (b + (R - cdN kd (H - 1) % R)) % R := fun b hb => up_cd h1 _ _ hb
  by_cases bad : ∃ r', r' < R ∧ U r' = true ∧ lstG (tyM kd th wi M H R n (H - 1)) r' 10 0 = -4
  · obtain ⟨r', g1, g2, g3⟩ := bad
    have hj : (r' + cdN kd (H - 1)) % R < R := Nat.mod_lt _ h1
    have ej : upA kd R 0 (H - 1) ((r' + cdN kd (H - 1)) % R) = r' := by rw [hup _ hj, rot_b h1 g1]
    rw [fp_bad (U := U) (fun b hb => of_decide_eq_true (by rw [← hUx]; exact hb)) R 0 0 _ ⟨(r' + cdN kd (H - 1)) % R, Nat.zero_le _, by omega, by rw [ej]; exact g2, by rw [ej]; exact g3⟩]
    have : (pfR kd th wi wn M H R n met (cdN kd (H - 1)) R 0 0 pin).1 = -4 := by
      refine pf_bad (U := fun r => decide (r < R) && U r) (Ls := fun r => lstG (tyM kd th wi M H R n (H - 1)) r 10 0) (fun r hr => ?_) hB R 0 0 pin (by omega) ⟨r', Nat.zero_le _, by omega, by simp [g1, g2], g3⟩
      have hr2 : r < R ∧ U r = true := by simpa using hr
      exact of_decide_eq_true (by rw [← hUm r hr2.1]; exact hr2.2)
    rw [if_pos this, this]
  · obtain ⟨i1, i2⟩ := pf_good (kd := kd) (th := th) (wi := wi) (M := M) (H := H) (n := n) (Ls := fun r => lstG (tyM kd th wi M H R n (H - 1)) r 10 0) h1 hUm hB R 0 0 pin (by omega) (fun r' _ g1 g2 g3 => bad ⟨r', by omega, g2, g3⟩)
    obtain ⟨j1, j2⟩ := fp_good (r := y) (m := tyM kd th wi M H R n (H - 1)) hUx R 0 0 (if y < 0 then -4 else th (5 * (H - 1) + y.toNatClampNeg)) (fun b' _ g1 g2 g3 => bad ⟨_, upA_lt _ _ (by omega), g2, g3⟩)
    have hcn : cnU (fun b => U (upA kd R 0 (H - 1) b)) R 0 = cnU U R 0 := by
      have hlt : btN U R < 32 := Nat.lt_of_lt_of_le (btN_lt R) (Nat.pow_le_pow_right (by omega) hR)
      have e1 : cnU (fun b => U (upA kd R 0 (H - 1) b)) R 0 = cnU (fun b => (btN U R).testBit ((b + (R - cdN kd (H - 1) % R)) % R)) R 0 := cnU_c R 0 (fun w _ hw2 => by
        rw [hup w (by omega), bt_tb R _ (Nat.mod_lt _ h1)])
      have e2 : cnU U R 0 = cnU (fun r => (btN U R).testBit r) R 0 := cnU_c R 0 (fun w _ hw2 => by rw [bt_tb R w (by omega)])
      rw [e1, e2, cn_rot R (by omega) h1 _ (Nat.sub_le _ _) _ hlt]
    have hc5 : cnU U R 0 < 2 ^ 31 := by
      have key : ∀ f b, cnU U f b ≤ f := by
        intro f
        induction f with
        | zero => intro b; exact Nat.le_refl _
        | succ f ih =>
          intro b
          have := ih (b + 1)
          rw [cnU]
          split <;> omega
      have := key R 0
      omega
    have hne : ¬ (pfR kd th wi wn M H R n met (cdN kd (H - 1)) R 0 0 pin).1 = -4 := by
      rw [i1, Nat.zero_add]
      exact fun z => absurd (show nI (cnU U R 0) < 0 by rw [z]; decide) (nI_pos hc5)
    rw [if_neg hne]
    rcases hy with rfl | hy
    · have hz : (-1 : Int32) < 0 := by decide
      rw [j1 hz, if_pos hz, i1, hcn]
    · obtain ⟨b0, hb0, rfl⟩ := inR_of hy (by omega)
      have hn : ¬ nI b0 < 0 := nI_pos (by omega)
      rw [j2 b0 (by omega) (by omega) rfl, if_neg hn, if_neg hn, nI_clamp (by omega), i2 b0 hb0, hp b0 hb0, hup b0 hb0]
      have ht : (b0 + (R - cdN kd (H - 1) % R)) % R < R := Nat.mod_lt _ h1
      generalize (b0 + (R - cdN kd (H - 1) % R)) % R = t at ht ⊢
      by_cases w : U t = true
      · rw [if_pos ⟨by omega, w⟩, if_pos ⟨by omega, w⟩]
      · rw [if_neg (fun z => w z.2), if_neg (fun z => w z.2)]
theorem cdN_c {kd kd' : Nat → Int32} {H : Nat} (hk : ∀ a, a < H → kd a = kd' a) : ∀ k, k ≤ H → cdN kd k = cdN kd' k
  | 0, _ => rfl
  | k + 1, h => by rw [cdN, cdN, cdN_c hk k (by omega), hk k (by omega)]
theorem pfR_c {kd kd' th th' wi wn : Nat → Int32} {M H R n met c : Nat} (hR : R ≤ 5) (h1 : 0 < R) (h0 : 0 < H) (hk : ∀ a, a < H → kd a = kd' a) (h : eqR H R th th') : ∀ (f r mv : Nat) (pin : Nat → Int32), r + f ≤ R → pfR kd th wi wn M H R n met c f r mv pin = pfR kd' th' wi wn M H R n met c f r mv pin
  | 0, _, _, _, _ => rfl
  | f + 1, r, mv, pin, hf => by
    have e : pfB kd th wi M H R n ((r + c) % R) r = pfB kd' th' wi M H R n ((r + c) % R) r := by
      unfold pfB
      rw [pb_ls, pb_ls]
      refine lsF_c 10 0 (fun w _ _ => ?_)
      rw [metN_c ((eqR_it hR hk n _ _ (eqR_upd h)).top h0)]
    rw [pfR, pfR, e, pfR_c hR h1 h0 hk h f (r + 1) mv pin (by omega), pfR_c hR h1 h0 hk h f (r + 1) (mv + 1) _ (by omega)]
