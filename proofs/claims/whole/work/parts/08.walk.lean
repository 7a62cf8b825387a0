/-! walking: on to the next branch, call, end, or to a loop's head out of S -/
def runS (K : aK) (tb : List (Nat × aI)) (Q : aR) (S : List Nat) : Nat → aP
  | 0 => wp K tb Q
  | n + 1 => fun pc lo st h c s => match tb.lookup pc with
    | some i => i K (fun pc lo st h c s => match S.contains pc with
      | true => wp K tb Q pc lo st h c s
      | false => runS K tb Q S n pc lo st h c s) Q pc lo st h c s
    | none => False
theorem runS_wp {K : aK} {tb : List (Nat × aI)} {Q : aR} {S : List Nat} (hm : ∀ e ∈ tb, Mono e.2) (hC : MonoC K.2.2) : ∀ (n : Nat) (pc : Nat) (lo : List (Option Value)) (st : List Value) (h : List aC) (c s : Nat), runS K tb Q S n pc lo st h c s → wp K tb Q pc lo st h c s
  | 0, _, _, _, _, _, _, w => w
  | n + 1, pc, lo, st, h, c, s, w => by
    unfold runS at w
    cases e : tb.lookup pc with
    | none => rw [e] at w; exact w.elim
    | some i =>
      rw [e] at w
      refine wp_step hm hC e (hm _ (lookup_mem e) K _ _ Q Q hC (fun pc lo st h c s z => ?_) (fun _ _ _ _ q => q) _ _ _ _ _ _ w)
      split at z
      · exact z
      · exact runS_wp hm hC n _ _ _ _ _ _ z
theorem gs {mc ms d y : Nat} {Q : aR} (S : List Nat) {pc : Nat} {lo : List (Option Value)} {st : List Value} {h : List aC} {c s : Nat} (w : runS (mc, ms, callok d) (mcode y) Q S 400 pc lo st h c s) : wp (mc, ms, callok d) (mcode y) Q pc lo st h c s := runS_wp (mono_y y) (monoC d) 400 pc lo st h c s w
abbrev qE (mc ms : Nat) (Q : Option Value → List aC → Prop) : aR := fun v h' c s => c = mc ∧ s ≤ ms ∧ ∃ h'', hE h' h'' ∧ Q v h''
theorem fin0 {Q : Option Value → List aC → Prop} {v : Option Value} {h : List aC} (w : Q v h) : 0 = 0 ∧ 0 ≤ 0 ∧ ∃ h'', hE h h'' ∧ Q v h'' := ⟨rfl, Nat.le_refl _, h, hE_rf h, w⟩
theorem finE {Q : Option Value → List aC → Prop} {v : Option Value} {h h' : List aC} (e : hE h h') (w : Q v h') : 0 = 0 ∧ 0 ≤ 0 ∧ ∃ h'', hE h h'' ∧ Q v h'' := ⟨rfl, Nat.le_refl _, h', e, w⟩
/-- a loop that counts up -/
theorem up {W : Nat → Prop} (n : Nat) (h : W n) (hs : ∀ k, k < n → W (k + 1) → W k) : W 0 := by
  have key : ∀ m, m ≤ n → W (n - m) := by
    intro m
    induction m with
    | zero => intro _; exact h
    | succ m ih =>
      intro hm
      have h1 := ih (by omega)
      rw [show n - m = (n - (m + 1)) + 1 by omega] at h1
      exact hs _ (by omega) h1
  have := key n (Nat.le_refl n)
  rwa [Nat.sub_self] at this
/-- a loop that counts down -/
theorem dn {W : Nat → Prop} (h : W 0) (hs : ∀ k, W k → W (k + 1)) : ∀ n, W n
  | 0 => h
  | n + 1 => hs n (dn h hs n)
/-- numbers -/
theorem i5 (a b : Nat) : nI a * 5 + nI b = nI (5 * a + b) := by rw [show (5 : Int32) = nI 5 from rfl, pk_mul, nI_add, Nat.mul_comm]
def inR (x : Int32) (n : Nat) : Prop := ¬ x < 0 ∧ x < nI n
theorem inR_nI {a n : Nat} (h : a < n) (hn : n < 2 ^ 31) : inR (nI a) n := ⟨nI_pos (by omega), nI_lt h hn⟩
theorem inR_of {x : Int32} {n : Nat} (h : inR x n) (hn : n < 2 ^ 31) : ∃ a, a < n ∧ x = nI a := by
  obtain ⟨j, hj, rfl⟩ := nI_of h.1
  exact ⟨j, (nI_ltI hj hn).mp h.2, rfl⟩
theorem up_s (f : Nat → Int32) (k : Nat) (x : Int32) : upd f k x k = x := by simp [upd]
theorem up_n (f : Nat → Int32) {k j : Nat} (x : Int32) (h : j ≠ k) : upd f k x j = f j := by simp [upd, h]
