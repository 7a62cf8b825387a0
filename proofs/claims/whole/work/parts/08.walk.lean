/-! walking: on to the next branch, call, end, or to a loop's head out of S -/
def runS (K : aK) (tb : List (Nat × aI)) (Q : aR) (S : List Nat) : Nat → aP
  | 0 => wp K tb Q
  | n + 1 => fun pc lo st h c s => match tb.lookup pc with
    | some i => i K (fun pc lo st h c s => match S.contains pc with
      | true => wp K tb Q pc lo st h c s
      | false => runS K tb Q S n pc lo st h c s) Q pc lo st h c s
    | none => False
theorem runS_wp {K : aK} {tb : List (Nat × aI)} {Q : aR} {S : List Nat} (hm : ∀ e ∈ tb, Mono e.2) (hC : MonoC K.2.2) : ∀ (n : Nat) (pc : Nat) (lo : List (Option Value)) (st : List Value) (h : List aC) (c s : Nat), runS K tb Q S n pc lo st h c s → wp K tb Q pc lo st h c s
  | 0, _, _, _, _, _, _, w => w
  | n + 1, pc, lo, st, h, c, s, w => by
    unfold runS at w
    cases e : tb.lookup pc with
    | none => rw [e] at w; exact w.elim
    | some i =>
      rw [e] at w
      refine wp_step hm hC e (hm _ (lookup_mem e) K _ _ Q Q hC (fun pc lo st h c s z => ?_) (fun _ _ _ _ q => q) _ _ _ _ _ _ w)
      split at z
      · exact z
      · exact runS_wp hm hC n _ _ _ _ _ _ z
theorem gs {mc ms d y : Nat} {Q : aR} (S : List Nat) {pc : Nat} {lo : List (Option Value)} {st : List Value} {h : List aC} {c s : Nat} (w : runS (mc, ms, callok d) (mcode y) Q S 400 pc lo st h c s) : wp (mc, ms, callok d) (mcode y) Q pc lo st h c s := runS_wp (mono_y y) (monoC d) 400 pc lo st h c s w
theorem fin0 {c : Nat} {P : Prop} (h : P) : 0 = 0 ∧ c ≤ c ∧ P := ⟨rfl, Nat.le_refl _, h⟩
/-- numbers -/
theorem i5 (a b : Nat) : nI a * 5 + nI b = nI (5 * a + b) := by rw [show (5 : Int32) = nI 5 from rfl, pk_mul, nI_add, Nat.mul_comm]
theorem lt_nI {a b : Nat} (ha : a < 2 ^ 31) (hb : b < 2 ^ 31) : nI a < nI b ↔ a < b := nI_ltI ha hb
/-! cells of a nursery at b -/
abbrev nc (b : Nat) (kd th wi : Nat → Int32) (hs rm mb dy : Int32) : List aC := [ao 2 [.ref (b + 1), .ref (b + 2), .ref (b + 3), .int hs, .int rm, .int mb, .int dy], ai 6 kd, ai 30 th, ai 5 wi]
theorem t_thing {d : Nat} {kd th wi : Nat → Int32} {hs rm mb dy : Int32} {a b : Nat} (ha : a < 6) (hb : b < 5) {Q : Option Value → List aC → Prop} (hQ : Q (some (.int (th (5 * a + b)))) (nc 0 kd th wi hs rm mb dy)) : callok (d + 1) 30 0 0 [.ref 0, .int (nI a), .int (nI b)] (nc 0 kd th wi hs rm mb dy) Q := by
  refine beg rfl (gs [] ?_)
  refine And.intro (fun c => ?_) (fun _ => ?_)
  · exact absurd (show nI a * 5 + nI b < 0 from c) (by rw [i5]; exact nI_pos (by omega))
  · refine And.intro (fun _ => ?_) (fun c => ?_)
    · refine And.intro (show vp_in (nI a * 5 + nI b) 30 by rw [i5]; exact vp_in_nI (by omega) (by omega)) ?_
      refine fin0 ?_
      have e : (nI a * 5 + nI b).toNatClampNeg = 5 * a + b := by rw [i5]; exact nI_clamp (by omega)
      show Q (some (.int (th (nI a * 5 + nI b).toNatClampNeg))) _
      rw [e]
      exact hQ
    · exact absurd (show nI a * 5 + nI b < nI 30 by rw [i5]; exact nI_lt (by omega) (by omega)) c
def metB (wi th : Nat → Int32) : Nat → Int32
  | 0 => 0
  | k + 1 => if wi k = th k then metB wi th k ||| ((1 : Int32) <<< (nI k &&& 31)) else metB wi th k
theorem l_metRooms {d : Nat} {kd th wi : Nat → Int32} {hs mb dy : Int32} {R : Nat} (hR : R ≤ 5) {Q : aR} (hQ : Q (some (.int (metB wi th R))) (nc 0 kd th wi hs (nI R) mb dy) 0 0) : ∀ n k, k + n = R → wp (0, 0, callok (d + 1)) (mcode 41) Q 4 [some (.ref 0), some (.int (metB wi th k)), some (.int (nI k))] [] (nc 0 kd th wi hs (nI R) mb dy) 0 0 := by
  intro n
  induction n with
  | zero =>
    intro k hk
    refine gs [4] ?_
    refine And.intro (fun c => ?_) (fun _ => ?_)
    · exact absurd (show nI k < nI R from c) (nI_nlt (by omega) (by omega))
    · have e : k = R := by omega
      subst e
      exact hQ
  | succ n ih =>
    intro k hk
    refine gs [4] ?_
    refine And.intro (fun _ => ?_) (fun c => ?_)
    · refine And.intro (show vp_in (nI k) 5 from vp_in_nI (by omega) (by omega)) ?_
      refine Exists.intro [0, 1, 2, 3] (Exists.intro [.ref 0, .int (nI 0), .int (nI k)] (Exists.intro (nc 0 kd th wi hs (nI R) mb dy) (Exists.intro 0 (Exists.intro 0 (And.intro ⟨rfl, rfl, Nat.le_of_ble_eq_true rfl, rfl, rfl, rfl, ⟨0, _, rfl, rfl⟩⟩ (And.intro (Nat.le_refl _) (And.intro (Nat.le_refl _) ?_)))))))
      refine t_thing (by omega) (by omega) ?_
      have ec : (nI k).toNatClampNeg = k := nI_clamp (by omega)
      refine And.intro (fun c => ?_) (fun c => ?_)
      · have c' : wi k = th k := by
          have := (show wi (nI k).toNatClampNeg = th (5 * 0 + k) from c)
          rw [ec] at this
          simpa using this
        have h9 := ih (k + 1) (by omega)
        rw [metB, if_pos c', nI_succ] at h9
        exact h9
      · have c' : ¬ wi k = th k := by
          have := (show ¬ wi (nI k).toNatClampNeg = th (5 * 0 + k) from c)
          rw [ec] at this
          simpa using this
        have h9 := ih (k + 1) (by omega)
        rw [metB, if_neg c', nI_succ] at h9
        exact h9
    · exact absurd (show nI k < nI R from nI_lt (by omega) (by omega)) c
theorem t_metRooms {d : Nat} {kd th wi : Nat → Int32} {hs mb dy : Int32} {R : Nat} (hR : R ≤ 5) {Q : Option Value → List aC → Prop} (hQ : Q (some (.int (metB wi th R))) (nc 0 kd th wi hs (nI R) mb dy)) : callok (d + 2) 41 0 0 [.ref 0] (nc 0 kd th wi hs (nI R) mb dy) Q := by
  refine beg rfl (gs [4] ?_)
  exact l_metRooms hR (fin0 hQ) R 0 (by omega)
