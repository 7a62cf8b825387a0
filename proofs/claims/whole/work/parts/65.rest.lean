/-! READING, HARM, COUNTS: both sides -/
theorem lt_c {tx tx' : Nat → Int32} {L : Nat} (h : ∀ k, k < L → tx k = tx' k) : ltA tx L = ltA tx' L := by
  funext k
  unfold ltA
  by_cases c : k < L
  · rw [if_pos c, if_pos c, h k c]
  · rw [if_neg c, if_neg c]
theorem fg_c {tx tx' : Nat → Int32} {L : Nat} (h : ltA tx L = ltA tx' L) : fgA tx L = fgA tx' L := by
  funext k
  unfold fgA
  rw [h]
theorem ff_c {tx tx' : Nat → Int32} {L : Nat} (h : fgA tx L = fgA tx' L) : ∀ p f k, ffR tx L p f k = ffR tx' L p f k
  | p, 0, k => rfl
  | p, f + 1, k => by rw [ffR, ffR, h, ff_c h p f (k + 1)]
theorem hs_c {tx tx' : Nat → Int32} {L p H : Nat} {th : Nat → Int32} (h : fgA tx L = fgA tx' L) : ∀ k, hsR tx L p th H k = hsR tx' L p th H k
  | 0 => rfl
  | k + 1 => by rw [hsR, hsR, h, hs_c h k]
theorem itm_tx {tx tx' : Nat → Int32} {L : Nat} (h : ∀ k, k < L → tx k = tx' k) (p : Nat) (s : PS) : itm tx L p s = itm tx' L p s := by
  have h1 := lt_c h
  have h2 := fg_c h1
  have h3 : ∀ p, hsW tx L p = hsW tx' L p := fun p => ff_c h2 (p + 3) 5 0
  have h4 : ∀ th H k, hsR tx L p th H k = hsR tx' L p th H k := fun th H k => hs_c h2 k
  unfold itm hsOK
  rw [h1, h2]
  simp only [h3, h4]
theorem rd_tx {tx tx' : Nat → Int32} {L : Nat} (h : ∀ k, k < L → tx k = tx' k) : ∀ f p s, rdG tx L f p s = rdG tx' L f p s
  | 0, _, _ => rfl
  | f + 1, p, s => by
    rw [rdG, rdG, itm_tx h]
    split
    · split
      · rfl
      · exact rd_tx h f _ _
    · rfl
/-- two readings that are alike -/
def psR (s s' : PS) : Prop := s.2.2 = s'.2.2 ∧ (∀ a, a < s.2.2.2.1 → s.1 a = s'.1 a) ∧ eqR s.2.2.2.1 s.2.2.2.2.1 s.2.1 s'.2.1
def psB (s : PS) : Prop := (∀ k, ∃ j, j ≤ 10 ∧ s.2.2.1 k = nI j) ∧ s.2.2.2.2.2 < 2 ^ s.2.2.2.1 ∧ bnd s.2.2.2.1 s.2.2.2.2.1 s.2.1 ∧ (s.2.2.2.1 = 0 ∨ 2 ≤ s.2.2.2.2.1)
theorem hsR_at {tx : Nat → Int32} {L p H : Nat} {th : Nat → Int32} : ∀ (k j : Nat), hsR tx L p th H k j = if 5 * H ≤ j ∧ j < 5 * H + k then fgA tx L (p + 3 + (j - 5 * H)) else th j
  | 0, j => by rw [hsR, if_neg (by omega)]
  | k + 1, j => by
    rw [hsR]
    by_cases e : j = 5 * H + k
    · rw [e, up_s, if_pos (by omega), show 5 * H + k - 5 * H = k by omega]
    · rw [up_n _ _ e, hsR_at k j]
      by_cases q : 5 * H ≤ j ∧ j < 5 * H + k
      · rw [if_pos q, if_pos (by omega)]
      · rw [if_neg q, if_neg (by omega)]
theorem ff_ne {tx : Nat → Int32} {L p : Nat} : ∀ (f k j : Nat), k ≤ j → j < ffR tx L p f k → ¬ fgA tx L (p + j) = -4
  | 0, k, j, h1, h2 => by
    rw [ffR] at h2
    omega
  | f + 1, k, j, h1, h2 => by
    rw [ffR] at h2
    by_cases c : fgA tx L (p + k) = -4
    · rw [if_pos c] at h2
      omega
    · rw [if_neg c] at h2
      by_cases e : j = k
      · rw [e]
        exact c
      · exact ff_ne f (k + 1) j (by omega) h2
theorem fg_dig {tx : Nat → Int32} {L k : Nat} (h : ¬ fgA tx L k = -4) : ∃ j, j < 10 ∧ fgA tx L k = nI j := by
  unfold fgA at h ⊢
  by_cases c : isF (ltA tx L k)
  · rw [if_pos c]
    have := isF_in.mpr c
    obtain ⟨j, hj, e⟩ := nI_of2 (M := 9) (n := 9) rfl this.1 (Int32.not_lt.mp this.2)
    exact ⟨j, by omega, e⟩
  · rw [if_neg c] at h
    exact absurd rfl h
theorem xor_lt {M H a : Nat} (hM : M < 2 ^ H) (ha : a < H) : M ^^^ 2 ^ a < 2 ^ H := Nat.xor_lt_two_pow hM (Nat.pow_lt_pow_right (by omega) ha)
theorem itm_ps {tx : Nat → Int32} {L p : Nat} {s s' : PS} (ho : psOK s) (h : psR s s') : (itm tx L p s = none ∧ itm tx L p s' = none) ∨ ∃ q q', itm tx L p s = some q ∧ itm tx L p s' = some q' ∧ q.1 = q'.1 ∧ psR q.2 q'.2 := by
  obtain ⟨kd, th, wi, H, R, M⟩ := s
  obtain ⟨kd', th', w'⟩ := s'
  obtain ⟨e, hk, hq⟩ := h
  have e : (wi, H, R, M) = w' := e
  subst e
  have hR : R ≤ 5 := ho.2.1
  unfold itm
  by_cases c1 : ltA tx L p = 104
  · rw [if_pos c1, if_pos c1]
    by_cases c2 : hsOK tx L p H R
    · rw [if_pos c2, if_pos c2]
      refine Or.inr ⟨_, _, rfl, rfl, rfl, rfl, fun a ha => ?_, fun a ha b hb => ?_⟩
      · show upd kd H _ a = upd kd' H _ a
        have ha : a < H + 1 := ha
        by_cases z : a = H
        · rw [z, up_s, up_s]
        · rw [up_n _ _ z, up_n _ _ z]
          exact hk a (show a < H by omega)
      · have ha : a < H + 1 := ha
        have hb : b < hsW tx L p := hb
        have hw5 : hsW tx L p ≤ 5 := Nat.le_trans (ffR_le 5 0) (by omega)
        show hsR tx L p th H (hsW tx L p) (5 * a + b) = hsR tx L p th' H (hsW tx L p) (5 * a + b)
        rw [hsR_at, hsR_at]
        by_cases z : a = H
        · rw [if_pos (by omega), if_pos (by omega)]
        · rw [if_neg (by omega), if_neg (by omega)]
          have hw : hsW tx L p = R := by
            rcases c2.2.2.2 with q | q
            · omega
            · exact q
          exact hq a (show a < H by omega) b (show b < R by omega)
    · rw [if_neg c2, if_neg c2]
      exact Or.inl ⟨rfl, rfl⟩
  · rw [if_neg c1, if_neg c1]
    by_cases c2 : ltA tx L p = 109
    · rw [if_pos c2, if_pos c2]
      by_cases c3 : (¬ fgA tx L (p + 1) < 0 ∧ fgA tx L (p + 1) < nI H) ∧ ltA tx L (p + 2) = 59
      · rw [if_pos c3, if_pos c3]
        exact Or.inr ⟨_, _, rfl, rfl, rfl, rfl, hk, hq⟩
      · rw [if_neg c3, if_neg c3]
        exact Or.inl ⟨rfl, rfl⟩
    · rw [if_neg c2, if_neg c2]
      by_cases c4 : ltA tx L p = 113
      · rw [if_pos c4, if_pos c4]
        by_cases c3 : ((¬ fgA tx L (p + 1) < 0 ∧ fgA tx L (p + 1) < nI R) ∧ ltA tx L (p + 2) = 44) ∧ (¬ fgA tx L (p + 3) < 0 ∧ ¬ 9 < fgA tx L (p + 3)) ∧ ltA tx L (p + 4) = 59
        · rw [if_pos c3, if_pos c3]
          exact Or.inr ⟨_, _, rfl, rfl, rfl, rfl, hk, hq⟩
        · rw [if_neg c3, if_neg c3]
          exact Or.inl ⟨rfl, rfl⟩
      · rw [if_neg c4, if_neg c4]
        exact Or.inl ⟨rfl, rfl⟩
theorem itm_b {tx : Nat → Int32} {L p : Nat} {s : PS} {q : Nat × PS} (hb : psB s) (h : itm tx L p s = some q) : psB q.2 := by
  obtain ⟨kd, th, wi, H, R, M⟩ := s
  obtain ⟨b1, b2, b3, b4⟩ := hb
  unfold itm at h
  by_cases c1 : ltA tx L p = 104
  · rw [if_pos c1] at h
    by_cases c2 : hsOK tx L p H R
    · rw [if_pos c2] at h
      cases h
      have hf := c2.2
      refine ⟨b1, ?_, fun a ha b hb => ?_, Or.inr hf.2.1⟩
      · show M < 2 ^ (H + 1)
        have b2 : M < 2 ^ H := b2
        rw [Nat.pow_succ]
        omega
      · have ha : a < H + 1 := ha
        have hb : b < hsW tx L p := hb
        show ∃ j, j < 10 ∧ hsR tx L p th H (hsW tx L p) (5 * a + b) = nI j
        rw [hsR_at]
        have hw5 : hsW tx L p ≤ 5 := Nat.le_trans (ffR_le 5 0) (by omega)
        by_cases z : a = H
        · subst z
          rw [if_pos (by omega), show 5 * a + b - 5 * a = b by omega]
          exact fg_dig (ff_ne 5 0 b (Nat.zero_le _) hb)
        · rw [if_neg (by omega)]
          have hw : hsW tx L p = R := by
            rcases hf.2.2 with q | q
            · omega
            · exact q
          exact b3 a (show a < H by omega) b (show b < R by omega)
    · rw [if_neg c2] at h
      cases h
  · rw [if_neg c1] at h
    by_cases c2 : ltA tx L p = 109
    · rw [if_pos c2] at h
      by_cases c3 : (¬ fgA tx L (p + 1) < 0 ∧ fgA tx L (p + 1) < nI H) ∧ ltA tx L (p + 2) = 59
      · rw [if_pos c3] at h
        cases h
        refine ⟨b1, ?_, b3, b4⟩
        have b2 : M < 2 ^ H := b2
        show (if M.testBit (fgA tx L (p + 1)).toNatClampNeg = true then M else M ^^^ 2 ^ (fgA tx L (p + 1)).toNatClampNeg) < 2 ^ H
        split
        · exact b2
        · refine xor_lt b2 ?_
          by_cases h31 : H < 2 ^ 31
          · obtain ⟨a, ha, e⟩ := inR_of (x := fgA tx L (p + 1)) (n := H) c3.1 h31
            rw [e, nI_clamp (by omega)]
            exact ha
          · have hne : ¬ fgA tx L (p + 1) = -4 := fun z => c3.1.1 (by rw [z]; decide)
            obtain ⟨j, hj, e⟩ := fg_dig hne
            rw [e, nI_clamp (by omega)]
            omega
      · rw [if_neg c3] at h
        cases h
    · rw [if_neg c2] at h
      by_cases c4 : ltA tx L p = 113
      · rw [if_pos c4] at h
        by_cases c3 : ((¬ fgA tx L (p + 1) < 0 ∧ fgA tx L (p + 1) < nI R) ∧ ltA tx L (p + 2) = 44) ∧ (¬ fgA tx L (p + 3) < 0 ∧ ¬ 9 < fgA tx L (p + 3)) ∧ ltA tx L (p + 4) = 59
        · rw [if_pos c3] at h
          cases h
          refine ⟨fun k => ?_, b2, b3, b4⟩
          show ∃ j, j ≤ 10 ∧ upd wi (fgA tx L (p + 1)).toNatClampNeg (fgA tx L (p + 3)) k = nI j
          by_cases z : k = (fgA tx L (p + 1)).toNatClampNeg
          · rw [z, up_s]
            obtain ⟨j, hj, e⟩ := fg_dig (tx := tx) (L := L) (k := p + 3) (fun z => c3.2.1.1 (by rw [z]; decide))
            exact ⟨j, by omega, e⟩
          · rw [up_n _ _ z]
            exact b1 k
        · rw [if_neg c3] at h
          cases h
      · rw [if_neg c4] at h
        cases h
theorem rd_ps {tx : Nat → Int32} {L : Nat} : ∀ (f p : Nat) (s s' : PS), psOK s → psR s s' → (rdG tx L f p s).1 = (rdG tx L f p s').1 ∧ psR (rdG tx L f p s).2 (rdG tx L f p s').2
  | 0, _, _, _, _, h => ⟨rfl, h⟩
  | f + 1, p, s, s', ho, h => by
    rw [rdG, rdG]
    by_cases c : p < L
    · rw [if_pos c, if_pos c]
      rcases itm_ps (tx := tx) (L := L) (p := p) ho h with ⟨e1, e2⟩ | ⟨q, q', e1, e2, e3, e4⟩
      · rw [e1, e2]
        exact ⟨rfl, h⟩
      · rw [e1, e2]
        show (rdG tx L f q.1 q.2).1 = (rdG tx L f q'.1 q'.2).1 ∧ psR (rdG tx L f q.1 q.2).2 (rdG tx L f q'.1 q'.2).2
        rw [← e3]
        exact rd_ps f q.1 q.2 q'.2 (itm_ok ho (p' := q.1) (s' := q.2) e1).1 e4
    · rw [if_neg c, if_neg c]
      exact ⟨rfl, h⟩
theorem rd_b {tx : Nat → Int32} {L : Nat} : ∀ (f p : Nat) (s : PS), psB s → psB (rdG tx L f p s).2
  | 0, _, _, h => h
  | f + 1, p, s, h => by
    rw [rdG]
    by_cases c : p < L
    · rw [if_pos c]
      cases e : itm tx L p s with
      | none => exact h
      | some q => exact rd_b f q.1 q.2 (itm_b h e)
    · rw [if_neg c]
      exact h
/-! harm -/
theorem pop_5 : ∀ m, m < 32 → pop 10 m ≤ 5 := by decide +kernel
theorem wm_rel {kd kd' th th' wi : Nat → Int32} {M H R n : Nat} (hR : R ≤ 5) (h0 : 0 < H) (hH : H ≤ 6) (hk : ∀ a, a < H → kd a = kd' a) (he : eqR H R th th') : ∀ (f h : Nat) (s s' : Int32 × Int32), h + f ≤ H → ((s = (6, -4) ∧ s' = (1048576, -4)) ∨ (s = s' ∧ ¬ s.2 = -4)) → ((wmR kd th wi M H R n f h s).2 = -4 ∧ (wmR kd' th' wi M H R n f h s').2 = -4) ∨ (wmR kd th wi M H R n f h s = wmR kd' th' wi M H R n f h s' ∧ ¬ (wmR kd th wi M H R n f h s).2 = -4)
  | 0, _, s, s', _, h => by
    rcases h with ⟨rfl, rfl⟩ | h
    · exact Or.inl ⟨rfl, rfl⟩
    · exact Or.inr h
  | f + 1, h, s, s', hf, hs => by
    rw [wmR, wmR]
    have e : metN wi (itT kd (M ^^^ 2 ^ h) H R n th) R = metN wi (itT kd' (M ^^^ 2 ^ h) H R n th') R := metN_c ((eqR_it hR hk n _ _ he).top h0)
    refine wm_rel hR h0 hH hk he f (h + 1) _ _ (by omega) ?_
    rw [e]
    by_cases c : M.testBit h = true
    · rw [if_pos c, if_pos c]
      exact hs
    · rw [if_neg c, if_neg c]
      have hp := pop_5 _ (metN_32 (wi := wi) (th := itT kd' (M ^^^ 2 ^ h) H R n th') hR)
      generalize pop 10 (metN wi (itT kd' (M ^^^ 2 ^ h) H R n th') R) = z at hp ⊢
      have hh : ¬ nI h = -4 := fun q => absurd (show nI h < 0 by rw [q]; decide) (nI_pos (by omega))
      rcases hs with ⟨rfl, rfl⟩ | ⟨rfl, hs⟩
      · rw [if_pos (show nI z < 6 from nI_lt (b := 6) (by omega) (by omega)), if_pos (show nI z < 1048576 from nI_lt (b := 1048576) (by omega) (by omega))]
        exact Or.inr ⟨rfl, hh⟩
      · by_cases q : nI z < s.1
        · rw [if_pos q]
          exact Or.inr ⟨rfl, hh⟩
        · rw [if_neg q]
          exact Or.inr ⟨rfl, hs⟩
theorem harm_eq {kd kd' th th' wi : Nat → Int32} {M H R n : Nat} {y : Int32} (hR : R ≤ 5) (h0 : 0 < H) (hH : H ≤ 6) (hk : ∀ a, a < H → kd a = kd' a) (he : eqR H R th th') : (if y = 0 then (wmR kd th wi M H R n H 0 (6, -4)).2 else (if (wmR kd th wi M H R n H 0 (6, -4)).2 = -4 then (wmR kd th wi M H R n H 0 (6, -4)).2 else (wmR kd th wi M H R n H 0 (6, -4)).1)) = (if (wmR kd' th' wi M H R n H 0 (1048576, -4)).2 = -4 then (wmR kd' th' wi M H R n H 0 (1048576, -4)).2 else if y = 0 then (wmR kd' th' wi M H R n H 0 (1048576, -4)).2 else (wmR kd' th' wi M H R n H 0 (1048576, -4)).1) := by
  rcases wm_rel (wi := wi) (M := M) (n := n) hR h0 hH hk he H 0 (6, -4) (1048576, -4) (by omega) (Or.inl ⟨rfl, rfl⟩) with ⟨e1, e2⟩ | ⟨e1, e2⟩
  · rw [e1, e2, if_pos rfl, if_pos rfl, ite_self]
  · rw [← e1, if_neg e2, if_neg e2]
/-! counts -/
theorem pop_add : ∀ k, k < 5 → ∀ m, m < 2 ^ k → pop 10 (m + 2 ^ k) = pop 10 m + 1 := by decide +kernel
theorem wa_ws {wi wn : Nat → Int32} {R : Nat} (hw : wok R wi wn) (hR : R ≤ 5) : ∀ k, k ≤ R → pop 10 (waN wn k) = wsN wi k
  | 0, _ => by
    rw [waN, wsN]
    decide
  | k + 1, hk => by
    rw [waN, wsN]
    have e := wn_iff hw (show k < R by omega)
    have ih := wa_ws hw hR k (by omega)
    by_cases c : wi k = 10
    · rw [if_pos (e.mpr c), if_pos c, ih]
    · rw [if_neg (fun z => c (e.mp z)), if_neg c, pop_add k (by omega) _ (waN_lt k), ih]
theorem ma_pop : ∀ H, H < 7 → ∀ M, M < 2 ^ H → maN M H = pop 10 M := by decide +kernel
theorem aso_c {kd kd' th th' ths : Nat → Int32} {M H R S : Nat} {sd sh sr : Nat → Nat} (hR : R ≤ 5) (hk : ∀ a, a < H → kd a = kd' a) (he : eqR H R th th') (hh : ∀ i, i < S → sh i < H ∧ sr i < R) : ASO kd M H R sd sh sr ths S th ↔ ASO kd' M H R sd sh sr ths S th' := by
  unfold ASO
  constructor
  · intro z i hi
    rw [← eqR_it hR hk (sd i) _ _ he (sh i) (hh i hi).1 (sr i) (hh i hi).2]
    exact z i hi
  · intro z i hi
    rw [eqR_it hR hk (sd i) _ _ he (sh i) (hh i hi).1 (sr i) (hh i hi).2]
    exact z i hi
