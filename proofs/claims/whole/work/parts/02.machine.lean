/-! THE PURE MACHINE: cells as rows and objects with addresses counted from 0 within a method's own world; an instruction is a transformer of predicates -/
abbrev aC : Type := (Nat × (Nat → Int32)) ⊕ ((Nat × (Nat → Option Nat)) ⊕ (Nat × List Value))
abbrev ai (n : Nat) (f : Nat → Int32) : aC := .inl (n, f)
abbrev aq (n : Nat) (g : Nat → Option Nat) : aC := .inr (.inl (n, g))
abbrev ao (ci : Nat) (fs : List Value) : aC := .inr (.inr (ci, fs))
/-- a value under a renaming of its world's addresses -/
def rv (f : Nat → Nat) : Value → Value
  | .ref k => .ref (f k)
  | .int x => .int x
  | .long x => .long x
  | .float x => .float x
  | .double x => .double x
  | .null => .null
  | .retAddr x => .retAddr x
/-- the machine's own value: what lies outside the world (the script, a text) is told by retAddr -/
def tv (ad ex : Nat → Nat) : Value → Value
  | .ref k => .ref (ad k)
  | .int x => .int x
  | .long x => .long x
  | .float x => .float x
  | .double x => .double x
  | .null => .null
  | .retAddr x => .ref (ex x)
def rc (f : Nat → Nat) : aC → aC
  | .inl a => .inl a
  | .inr (.inl (n, g)) => .inr (.inl (n, fun i => (g i).map f))
  | .inr (.inr (ci, fs)) => .inr (.inr (ci, fs.map (rv f)))
def tc (cI cN : ClassId) (ad ex : Nat → Nat) : aC → va_E
  | .inl (n, f) => .inl (cI, n, .inl f)
  | .inr (.inl (n, g)) => .inl (cN, n, .inr (.inr (.inr (.inr (fun i => (g i).map ad)))))
  | .inr (.inr (ci, fs)) => .inr (ci, fs.map (tv ad ex))
theorem tv_comp (ad ex r : Nat → Nat) (v : Value) : tv (fun k => ad (r k)) ex v = tv ad ex (rv r v) := by cases v <;> rfl
theorem tc_comp (cI cN : ClassId) (ad ex r : Nat → Nat) (c : aC) : tc cI cN (fun k => ad (r k)) ex c = tc cI cN ad ex (rc r c) := by
  rcases c with ⟨n, f⟩ | ⟨n, g⟩ | ⟨ci, fs⟩
  · rfl
  · simp only [tc, rc, Option.map_map]
    rfl
  · simp only [tc, rc, List.map_map]
    congr 2
    exact List.map_congr_left (fun v _ => tv_comp ad ex r v)
def wF (cI cN : ClassId) (ad ex : Nat → Nat) (h : List aC) : va_W := h.mapIdx (fun k c => (ad k, tc cI cN ad ex c))
theorem wF_get {cI cN : ClassId} {ad ex : Nat → Nat} {h : List aC} {k : Nat} : (wF cI cN ad ex h)[k]? = (h[k]?).map (fun c => (ad k, tc cI cN ad ex c)) := by
  simp [wF, List.getElem?_mapIdx]
theorem wF_at {cI cN : ClassId} {ad ex : Nat → Nat} {h : List aC} {k : Nat} {c : aC} (hk : h[k]? = some c) : (wF cI cN ad ex h)[k]? = some (ad k, tc cI cN ad ex c) := by
  rw [wF_get, hk]; rfl
theorem wF_set {cI cN : ClassId} {ad ex : Nat → Nat} {h : List aC} {k : Nat} {c : aC} : wF cI cN ad ex (h.set k c) = (wF cI cN ad ex h).set k (ad k, tc cI cN ad ex c) := by
  apply List.ext_getElem?
  intro j
  rw [wF_get, List.getElem?_set, List.getElem?_set, wF_get]
  by_cases hj : k = j
  · subst hj
    simp only [if_true, wF, List.length_mapIdx]
    by_cases hl : k < h.length <;> simp [hl]
  · simp [hj]
theorem wF_D {cI cN : ClassId} {ad ex : Nat → Nat} {h : List aC} {A : Nat → Prop} (hi : ∀ i j, ad i = ad j → i = j) (hA : ∀ k, A (ad k)) : va_D A (wF cI cN ad ex h) := by
  refine ⟨fun i j x y hx hy hxy => ?_, fun k q hk => ?_⟩
  · rw [wF_get] at hx hy
    obtain ⟨a, -, rfl⟩ := Option.map_eq_some_iff.mp hx
    obtain ⟨b, -, rfl⟩ := Option.map_eq_some_iff.mp hy
    exact hi i j hxy
  · rw [wF_get] at hk
    obtain ⟨a, -, rfl⟩ := Option.map_eq_some_iff.mp hk
    exact hA k
/-- the classes of the worlds, the array classes -/
abbrev cls : List vw_C := [(RX0, TX0, 1), (RX1, TX1, 2), (RX2, TX2, 7), (RX3, TX3, 3), (RX4, TX4, 2), (RX5, TX5, 5), (RX6, TX6, 8), (RX7, TX7, 28)]
abbrev tys (cI cN : ClassId) : List (ClassId × FieldType) := [(cI, .int), (cN, .object RX2)]
/-- the tables' words that hold in every later state -/
def gtbl : List Cond := lw_tbl.filter goodWord
theorem gt_in {w : Cond} (h : w ∈ lw_tbl) (hg : goodWord w = true) : w ∈ gtbl := List.mem_filter.mpr ⟨h, hg⟩
theorem gt_good {w : Cond} (h : w ∈ gtbl) : goodWord w = true := (List.mem_filter.mp h).2
abbrev aP : Type := Nat → List (Option Value) → List Value → List aC → Nat → Nat → Prop
abbrev aR : Type := Option Value → List aC → Nat → Nat → Prop
abbrev callP : Type := Nat → Nat → Nat → List Value → List aC → (Option Value → List aC → Prop) → Prop
/-- the room for new cells, for their slots; the calls -/
abbrev aK : Type := Nat × Nat × callP
abbrev aI : Type := aK → aP → aR → aP
def MonoC (C : callP) : Prop := ∀ y mc ms av h (Q Q' : Option Value → List aC → Prop), (∀ v h', Q v h' → Q' v h') → C y mc ms av h Q → C y mc ms av h Q'
def Mono (i : aI) : Prop := ∀ (K : aK) (X Y : aP) (Q Q' : aR), MonoC K.2.2 → (∀ pc lo st h c s, X pc lo st h c s → Y pc lo st h c s) → (∀ v h c s, Q v h c s → Q' v h c s) → ∀ pc lo st h c s, i K X Q pc lo st h c s → i K Y Q' pc lo st h c s
/-- the weakest that leads to Q -/
def wp (K : aK) (tb : List (Nat × aI)) (Q : aR) : aP := fun pc lo st h c s => ∀ X : aP, (∀ pc i lo st h c s, tb.lookup pc = some i → i K X Q pc lo st h c s → X pc lo st h c s) → X pc lo st h c s
def runN (K : aK) (tb : List (Nat × aI)) (Q : aR) : Nat → aP
  | 0 => wp K tb Q
  | n + 1 => fun pc lo st h c s => match tb.lookup pc with
    | some i => i K (runN K tb Q n) Q pc lo st h c s
    | none => False
theorem lookup_mem {α : Type} {l : List (Nat × α)} {k : Nat} {a : α} (h : l.lookup k = some a) : (k, a) ∈ l := by
  induction l with
  | nil => cases h
  | cons q t ih =>
    obtain ⟨j, b⟩ := q
    rw [List.lookup_cons] at h
    by_cases e : k == j
    · rw [e] at h
      have ek : k = j := by simpa using e
      cases h
      subst ek
      exact List.mem_cons_self
    · have e' : (k == j) = false := by simpa using e
      rw [e'] at h
      exact List.mem_cons_of_mem _ (ih h)
theorem wp_step {K : aK} {tb : List (Nat × aI)} {Q : aR} (hm : ∀ e ∈ tb, Mono e.2) (hC : MonoC K.2.2) {pc : Nat} {i : aI} {lo : List (Option Value)} {st : List Value} {h : List aC} {c s : Nat} (hl : tb.lookup pc = some i) (hi : i K (wp K tb Q) Q pc lo st h c s) : wp K tb Q pc lo st h c s := by
  intro X hX
  refine hX pc i lo st h c s hl ?_
  exact hm _ (lookup_mem hl) K _ X Q Q hC (fun pc lo st h c s w => w X hX) (fun _ _ _ _ q => q) _ _ _ _ _ _ hi
theorem runN_wp {K : aK} {tb : List (Nat × aI)} {Q : aR} (hm : ∀ e ∈ tb, Mono e.2) (hC : MonoC K.2.2) : ∀ (n : Nat) (pc : Nat) (lo : List (Option Value)) (st : List Value) (h : List aC) (c s : Nat), runN K tb Q n pc lo st h c s → wp K tb Q pc lo st h c s
  | 0, _, _, _, _, _, _, w => w
  | n + 1, pc, lo, st, h, c, s, w => by
    unfold runN at w
    cases e : tb.lookup pc with
    | none => rw [e] at w; exact w.elim
    | some i =>
      rw [e] at w
      exact wp_step hm hC e (hm _ (lookup_mem e) K _ _ Q Q hC (runN_wp hm hC n) (fun _ _ _ _ q => q) _ _ _ _ _ _ w)
theorem wp_mono {K : aK} {tb : List (Nat × aI)} {Q Q' : aR} (hm : ∀ e ∈ tb, Mono e.2) (hC : MonoC K.2.2) (hQ : ∀ v h c s, Q v h c s → Q' v h c s) {pc : Nat} {lo : List (Option Value)} {st : List Value} {h : List aC} {c s : Nat} (w : wp K tb Q pc lo st h c s) : wp K tb Q' pc lo st h c s := by
  intro X hX
  refine w X fun pc i lo st h c s hl hi => hX pc i lo st h c s hl ?_
  exact hm _ (lookup_mem hl) K X X Q Q' hC (fun _ _ _ _ _ _ q => q) hQ _ _ _ _ _ _ hi
/-! instructions -/
def okS (lo : List (Option Value)) (i : Nat) : Bool := decide (i < lo.length) && (match i with
  | 0 => true
  | j + 1 => match lo[j]? with
    | some (some (.long _)) => false
    | some (some (.double _)) => false
    | _ => true)
def i_push (v : Value) (n : Nat) : aI := fun _ X _ pc lo st h c s => X (pc + n) lo (v :: st) h c s
def i_iload (i n : Nat) : aI := fun _ X _ pc lo st h c s => match lo[i]? with
  | some (some (.int x)) => X (pc + n) lo (.int x :: st) h c s
  | _ => False
def i_lload (i n : Nat) : aI := fun _ X _ pc lo st h c s => match lo[i]? with
  | some (some (.long x)) => X (pc + n) lo (.long x :: st) h c s
  | _ => False
def i_aload (i n : Nat) : aI := fun _ X _ pc lo st h c s => match lo[i]? with
  | some (some (.ref x)) => X (pc + n) lo (.ref x :: st) h c s
  | some (some (.retAddr x)) => X (pc + n) lo (.retAddr x :: st) h c s
  | _ => False
def i_istore (i n : Nat) : aI := fun _ X _ pc lo st h c s => match st, okS lo i with
  | .int x :: t, true => X (pc + n) (lo.set i (some (.int x))) t h c s
  | _, _ => False
def i_astore (i n : Nat) : aI := fun _ X _ pc lo st h c s => match st, okS lo i with
  | .ref x :: t, true => X (pc + n) (lo.set i (some (.ref x))) t h c s
  | _, _ => False
def i_lstore (i n : Nat) : aI := fun _ X _ pc lo st h c s => match st, okS lo i && decide (i + 1 < lo.length) with
  | .long x :: t, true => X (pc + n) ((lo.set i (some (.long x))).set (i + 1) none) t h c s
  | _, _ => False
def i_iinc (i : Nat) (n : Int32) : aI := fun _ X _ pc lo st h c s => match lo[i]?, okS lo i with
  | some (some (.int x)), true => X (pc + 3) (lo.set i (some (.int (x + n)))) st h c s
  | _, _ => False
def i_bin (f : Int32 → Int32 → Int32) : aI := fun _ X _ pc lo st h c s => match st with
  | .int y :: .int x :: t => X (pc + 1) lo (.int (f x y) :: t) h c s
  | _ => False
def i_div (f : Int32 → Int32 → Int32) : aI := fun _ X _ pc lo st h c s => match st with
  | .int y :: .int x :: t => ¬ y = 0 ∧ X (pc + 1) lo (.int (f x y) :: t) h c s
  | _ => False
def i_lbin (f : Int64 → Int64 → Int64) : aI := fun _ X _ pc lo st h c s => match st with
  | .long y :: .long x :: t => X (pc + 1) lo (.long (f x y) :: t) h c s
  | _ => False
def i_ldiv (f : Int64 → Int64 → Int64) : aI := fun _ X _ pc lo st h c s => match st with
  | .long y :: .long x :: t => ¬ y = 0 ∧ X (pc + 1) lo (.long (f x y) :: t) h c s
  | _ => False
def i_lcmp : aI := fun _ X _ pc lo st h c s => match st with
  | .long y :: .long x :: t => X (pc + 1) lo (.int (lg_cmp x y) :: t) h c s
  | _ => False
def i_i2l : aI := fun _ X _ pc lo st h c s => match st with
  | .int x :: t => X (pc + 1) lo (.long x.toInt64 :: t) h c s
  | _ => False
def i_l2i : aI := fun _ X _ pc lo st h c s => match st with
  | .long x :: t => X (pc + 1) lo (.int x.toInt32 :: t) h c s
  | _ => False
def i_dup : aI := fun _ X _ pc lo st h c s => match st with
  | .int x :: t => X (pc + 1) lo (.int x :: .int x :: t) h c s
  | .ref x :: t => X (pc + 1) lo (.ref x :: .ref x :: t) h c s
  | _ => False
def i_pop : aI := fun _ X _ pc lo st h c s => match st with
  | .int _ :: t => X (pc + 1) lo t h c s
  | _ => False
def i_dup2 : aI := fun _ X _ pc lo st h c s => match st with
  | .int y :: .ref x :: t => X (pc + 1) lo (.int y :: .ref x :: .int y :: .ref x :: t) h c s
  | _ => False
/-- to a where P holds, to b where it doesn't -/
def i_if (P : Int32 → Prop) (a b : Nat) : aI := fun _ X _ _ lo st h c s => match st with
  | .int x :: t => (P x → X a lo t h c s) ∧ (¬ P x → X b lo t h c s)
  | _ => False
def i_icmp (P : Int32 → Int32 → Prop) (a b : Nat) : aI := fun _ X _ _ lo st h c s => match st with
  | .int y :: .int x :: t => (P x y → X a lo t h c s) ∧ (¬ P x y → X b lo t h c s)
  | _ => False
def i_goto (tgt : Nat) : aI := fun _ X _ _ lo st h c s => X tgt lo st h c s
def i_tsw (lw hi : Int) (tg : List Nat) (df : Nat) : aI := fun _ X _ _ lo st h c s => match st with
  | .int x :: t => (x.toInt < lw ∨ hi < x.toInt → X df lo t h c s) ∧ ∀ j a : Nat, tg[j]? = some a → x.toInt = lw + j → X a lo t h c s
  | _ => False
def i_lsw (ps : List (Int × Nat)) (df : Nat) : aI := fun _ X _ _ lo st h c s => match st with
  | .int x :: t => ((∀ q ∈ ps, x.toInt ≠ q.1) → X df lo t h c s) ∧ ∀ q ∈ ps, x.toInt = q.1 → X q.2 lo t h c s
  | _ => False
def i_get (ci k : Nat) : aI := fun _ X _ pc lo st h c s => match st with
  | .ref a :: t => match h[a]? with
    | some (.inr (.inr (cj, fs))) => match decide (cj = ci), fs[k]? with
      | true, some v => X (pc + 3) lo (v :: t) h c s
      | _, _ => False
    | _ => False
  | _ => False
def i_put (ci k : Nat) : aI := fun _ X _ pc lo st h c s => match st with
  | .int x :: .ref a :: t => match h[a]? with
    | some (.inr (.inr (cj, fs))) => match decide (cj = ci), decide (k < fs.length) with
      | true, true => X (pc + 3) lo t (h.set a (ao ci (fs.set k (.int x)))) c s
      | _, _ => False
    | _ => False
  | _ => False
def i_putR (ci k : Nat) : aI := fun _ X _ pc lo st h c s => match st with
  | .ref x :: .ref a :: t => match h[a]? with
    | some (.inr (.inr (cj, fs))) => match decide (cj = ci), decide (k < fs.length) with
      | true, true => X (pc + 3) lo t (h.set a (ao ci (fs.set k (.ref x)))) c s
      | _, _ => False
    | _ => False
  | _ => False
def i_iald : aI := fun _ X _ pc lo st h c s => match st with
  | .int i :: .ref a :: t => match h[a]? with
    | some (.inl (n, f)) => ∃ k, i = nI k ∧ (k < n ∧ n ≤ 1000) ∧ X (pc + 1) lo (.int (f k) :: t) h c s
    | _ => False
  | _ => False
def i_iast : aI := fun _ X _ pc lo st h c s => match st with
  | .int x :: .int i :: .ref a :: t => match h[a]? with
    | some (.inl (n, f)) => ∃ k, i = nI k ∧ (k < n ∧ n ≤ 1000) ∧ X (pc + 1) lo t (h.set a (ai n (upd f k x))) c s
    | _ => False
  | _ => False
def i_alen : aI := fun _ X _ pc lo st h c s => match st with
  | .ref a :: t => match h[a]? with
    | some (.inl (n, _)) => X (pc + 1) lo (.int (nI n) :: t) h c s
    | some (.inr (.inl (n, _))) => X (pc + 1) lo (.int (nI n) :: t) h c s
    | _ => False
  | _ => False
def i_aald : aI := fun _ X _ pc lo st h c s => match st with
  | .int i :: .ref a :: t => match h[a]? with
    | some (.inr (.inl (n, g))) => ∃ k, i = nI k ∧ (k < n ∧ n ≤ 1000) ∧ ∃ r, g k = some r ∧ X (pc + 1) lo (.ref r :: t) h c s
    | _ => False
  | _ => False
def i_aast : aI := fun _ X _ pc lo st h c s => match st with
  | .ref v :: .int i :: .ref a :: t => match h[a]? with
    | some (.inr (.inl (n, g))) => ∃ k, i = nI k ∧ (k < n ∧ n ≤ 1000) ∧ (∃ fs, h[v]? = some (ao 2 fs)) ∧ X (pc + 1) lo t (h.set a (aq n (va_up g k (some v)))) c s
    | _ => False
  | _ => False
def i_new (ci N : Nat) (fs : List Value) : aI := fun K X _ pc lo st h c s => c + 1 ≤ K.1 ∧ s + N ≤ K.2.1 ∧ X (pc + 3) lo (.ref h.length :: st) (h ++ [ao ci fs]) (c + 1) (s + N)
def i_newI : aI := fun K X _ pc lo st h c s => match st with
  | .int n :: t => ∃ k, n = nI k ∧ k ≤ 1000 ∧ c + 1 ≤ K.1 ∧ s + k ≤ K.2.1 ∧ X (pc + 2) lo (.ref h.length :: t) (h ++ [ai k (fun _ => 0)]) (c + 1) (s + k)
  | _ => False
def i_newQ : aI := fun K X _ pc lo st h c s => match st with
  | .int n :: t => ∃ k, n = nI k ∧ k ≤ 1000 ∧ c + 1 ≤ K.1 ∧ s + k ≤ K.2.1 ∧ X (pc + 3) lo (.ref h.length :: t) (h ++ [aq k (fun _ => none)]) (c + 1) (s + k)
  | _ => False
def i_obj : aI := fun _ X _ pc lo st h c s => match st with
  | .ref _ :: t => (t.map fun v => v.category).sum ≤ 8 ∧ X (pc + 3) lo t h c s
  | _ => False
def i_iret : aI := fun _ _ Q _ _ st h c s => match st with
  | [.int x] => Q (some (.int x)) h c s
  | _ => False
def i_zret : aI := fun _ _ Q _ _ st h c s => match st with
  | [.int x] => (x = 0 ∨ x = 1) ∧ Q (some (.int x)) h c s
  | _ => False
def i_lret : aI := fun _ _ Q _ _ st h c s => match st with
  | [.long x] => Q (some (.long x)) h c s
  | _ => False
def i_vret : aI := fun _ _ Q _ _ st h c s => match st with
  | [] => Q none h c s
  | _ => False
/-- a whole int row copied to another -/
def i_copy : aI := fun _ X _ pc lo st h c s => match st with
  | .int n :: .int dp :: .ref b :: .int sp :: .ref a :: t => match h[a]?, h[b]? with
    | some (.inl (n0, f)), some (.inl (n1, _)) => (sp = nI 0 ∧ dp = nI 0 ∧ n = nI n0 ∧ n1 = n0 ∧ n0 ≤ 1000 ∧ (t.map fun v => v.category).sum ≤ 8) ∧ X (pc + 3) lo t (h.set b (ai n1 f)) c s
    | _, _ => False
  | _ => False
def i_max : aI := fun K X _ pc lo st h c s => match st with
  | .int y :: .int x :: t => ((t.map fun v => v.category).sum ≤ 8 ∧ c ≤ K.1 ∧ s ≤ K.2.1) ∧ X (pc + 3) lo (.int (if x < y then y else x) :: t) h c s
  | _ => False
/-- where a callee's cell lies in its caller's world -/
def rho (is : List Nat) (n k : Nat) : Nat := match is[k]? with
  | some i => i
  | none => n + (k - is.length)
def put : List aC → List Nat → List aC → List aC
  | h, [], cs => h ++ cs
  | h, _ :: _, [] => h
  | h, i :: is, c :: cs => put (h.set i c) is cs
/-- a call of method y with n values on the stack: its world is the cells 'is' of the caller's -/
def i_call (y n : Nat) (B : List Value → List aC → Prop) : aI := fun K X _ pc lo st h c s =>
  ∃ (is : List Nat) (av : List Value) (hc : List aC) (mc ms : Nat), (st.take n = (av.map (rv (rho is h.length))).reverse ∧ av.length = n ∧ ((st.drop n).map fun v => v.category).sum ≤ 8 ∧ va_nd is = true ∧ is.all (fun i => decide (i < h.length)) = true ∧ is.map (fun i => h[i]?) = hc.map (fun x => some (rc (rho is h.length) x)) ∧ B av hc) ∧ c + mc ≤ K.1 ∧ s + ms ≤ K.2.1 ∧
    K.2.2 y mc ms av hc (fun v hc' => X (pc + 3) lo ((v.map (rv (rho is h.length))).toList ++ st.drop n) (put h is (hc'.map (rc (rho is h.length)))) (c + mc) (s + ms))
def recv (ci : Nat) (av : List Value) (hc : List aC) : Prop := ∃ r fs, av.head? = some (.ref r) ∧ hc[r]? = some (ao ci fs)
abbrev i_callV (y n ci : Nat) : aI := i_call y n (recv ci)
abbrev i_callS (y n : Nat) : aI := i_call y n (fun _ _ => True)
abbrev i_callI (y n : Nat) : aI := i_call y n (fun av _ => ∃ r, av.head? = some (.ref r))
/-! each grows with what it is told -/
theorem mo_push (v : Value) (n : Nat) : Mono (i_push v n) := fun _ _ _ _ _ _ hX _ _ _ _ _ _ _ w => hX _ _ _ _ _ _ w
theorem mo_iload (i n : Nat) : Mono (i_iload i n) := by
  intro K X Y Q Q' hC hX hQ pc lo st h c s
  unfold i_iload
  split <;> first | exact fun w => hX _ _ _ _ _ _ w | exact fun w => w
theorem mo_lload (i n : Nat) : Mono (i_lload i n) := by
  intro K X Y Q Q' hC hX hQ pc lo st h c s
  unfold i_lload
  split <;> first | exact fun w => hX _ _ _ _ _ _ w | exact fun w => w
theorem mo_aload (i n : Nat) : Mono (i_aload i n) := by
  intro K X Y Q Q' hC hX hQ pc lo st h c s
  unfold i_aload
  split <;> first | exact fun w => hX _ _ _ _ _ _ w | exact fun w => w
theorem mo_istore (i n : Nat) : Mono (i_istore i n) := by
  intro K X Y Q Q' hC hX hQ pc lo st h c s
  unfold i_istore
  split <;> first | exact fun w => hX _ _ _ _ _ _ w | exact fun w => w
theorem mo_astore (i n : Nat) : Mono (i_astore i n) := by
  intro K X Y Q Q' hC hX hQ pc lo st h c s
  unfold i_astore
  split <;> first | exact fun w => hX _ _ _ _ _ _ w | exact fun w => w
theorem mo_lstore (i n : Nat) : Mono (i_lstore i n) := by
  intro K X Y Q Q' hC hX hQ pc lo st h c s
  unfold i_lstore
  split <;> first | exact fun w => hX _ _ _ _ _ _ w | exact fun w => w
theorem mo_iinc (i : Nat) (n : Int32) : Mono (i_iinc i n) := by
  intro K X Y Q Q' hC hX hQ pc lo st h c s
  unfold i_iinc
  split <;> first | exact fun w => hX _ _ _ _ _ _ w | exact fun w => w
theorem mo_bin (f : Int32 → Int32 → Int32) : Mono (i_bin f) := by
  intro K X Y Q Q' hC hX hQ pc lo st h c s
  unfold i_bin
  split <;> first | exact fun w => hX _ _ _ _ _ _ w | exact fun w => w
theorem mo_lbin (f : Int64 → Int64 → Int64) : Mono (i_lbin f) := by
  intro K X Y Q Q' hC hX hQ pc lo st h c s
  unfold i_lbin
  split <;> first | exact fun w => hX _ _ _ _ _ _ w | exact fun w => w
theorem mo_lcmp  : Mono (i_lcmp ) := by
  intro K X Y Q Q' hC hX hQ pc lo st h c s
  unfold i_lcmp
  split <;> first | exact fun w => hX _ _ _ _ _ _ w | exact fun w => w
theorem mo_i2l  : Mono (i_i2l ) := by
  intro K X Y Q Q' hC hX hQ pc lo st h c s
  unfold i_i2l
  split <;> first | exact fun w => hX _ _ _ _ _ _ w | exact fun w => w
theorem mo_l2i  : Mono (i_l2i ) := by
  intro K X Y Q Q' hC hX hQ pc lo st h c s
  unfold i_l2i
  split <;> first | exact fun w => hX _ _ _ _ _ _ w | exact fun w => w
theorem mo_dup  : Mono (i_dup ) := by
  intro K X Y Q Q' hC hX hQ pc lo st h c s
  unfold i_dup
  split <;> first | exact fun w => hX _ _ _ _ _ _ w | exact fun w => w
theorem mo_pop  : Mono (i_pop ) := by
  intro K X Y Q Q' hC hX hQ pc lo st h c s
  unfold i_pop
  split <;> first | exact fun w => hX _ _ _ _ _ _ w | exact fun w => w
theorem mo_dup2  : Mono (i_dup2 ) := by
  intro K X Y Q Q' hC hX hQ pc lo st h c s
  unfold i_dup2
  split <;> first | exact fun w => hX _ _ _ _ _ _ w | exact fun w => w
theorem mo_div (f : Int32 → Int32 → Int32) : Mono (i_div f) := by
  intro K X Y Q Q' hC hX hQ pc lo st h c s
  unfold i_div
  split <;> first | exact fun w => ⟨w.1, hX _ _ _ _ _ _ w.2⟩ | exact fun w => w
theorem mo_ldiv (f : Int64 → Int64 → Int64) : Mono (i_ldiv f) := by
  intro K X Y Q Q' hC hX hQ pc lo st h c s
  unfold i_ldiv
  split <;> first | exact fun w => ⟨w.1, hX _ _ _ _ _ _ w.2⟩ | exact fun w => w
theorem mo_obj  : Mono (i_obj ) := by
  intro K X Y Q Q' hC hX hQ pc lo st h c s
  unfold i_obj
  split <;> first | exact fun w => ⟨w.1, hX _ _ _ _ _ _ w.2⟩ | exact fun w => w
theorem mo_max  : Mono (i_max ) := by
  intro K X Y Q Q' hC hX hQ pc lo st h c s
  unfold i_max
  split <;> first | exact fun w => ⟨w.1, hX _ _ _ _ _ _ w.2⟩ | exact fun w => w
theorem mo_if (P : Int32 → Prop) (a b : Nat) : Mono (i_if P a b) := by
  intro K X Y Q Q' hC hX hQ pc lo st h c s
  unfold i_if
  split <;> first | exact fun w => ⟨fun z => hX _ _ _ _ _ _ (w.1 z), fun z => hX _ _ _ _ _ _ (w.2 z)⟩ | exact fun w => w
theorem mo_icmp (P : Int32 → Int32 → Prop) (a b : Nat) : Mono (i_icmp P a b) := by
  intro K X Y Q Q' hC hX hQ pc lo st h c s
  unfold i_icmp
  split <;> first | exact fun w => ⟨fun z => hX _ _ _ _ _ _ (w.1 z), fun z => hX _ _ _ _ _ _ (w.2 z)⟩ | exact fun w => w
theorem mo_goto (tgt : Nat) : Mono (i_goto tgt) := by
  intro K X Y Q Q' hC hX hQ pc lo st h c s
  unfold i_goto
  exact fun w => hX _ _ _ _ _ _ w
theorem mo_tsw (lw hi : Int) (tg : List Nat) (df : Nat) : Mono (i_tsw lw hi tg df) := by
  intro K X Y Q Q' hC hX hQ pc lo st h c s
  unfold i_tsw
  split <;> first | exact fun w => ⟨fun z => hX _ _ _ _ _ _ (w.1 z), fun j a z1 z2 => hX _ _ _ _ _ _ (w.2 j a z1 z2)⟩ | exact fun w => w
theorem mo_lsw (ps : List (Int × Nat)) (df : Nat) : Mono (i_lsw ps df) := by
  intro K X Y Q Q' hC hX hQ pc lo st h c s
  unfold i_lsw
  split <;> first | exact fun w => ⟨fun z => hX _ _ _ _ _ _ (w.1 z), fun q z1 z2 => hX _ _ _ _ _ _ (w.2 q z1 z2)⟩ | exact fun w => w
theorem mo_get (ci k : Nat) : Mono (i_get ci k) := by
  intro K X Y Q Q' hC hX hQ pc lo st h c s
  unfold i_get
  repeat' (split)
  all_goals first | exact fun w => hX _ _ _ _ _ _ w | exact fun w => ⟨w.1, hX _ _ _ _ _ _ w.2⟩ | exact fun w => w | exact fun ⟨k, e, l, w⟩ => ⟨k, e, l, hX _ _ _ _ _ _ w⟩ | exact fun ⟨k, e, l, r, b, w⟩ => ⟨k, e, l, r, b, hX _ _ _ _ _ _ w⟩ | exact fun ⟨k, e, l, r, w⟩ => ⟨k, e, l, r, hX _ _ _ _ _ _ w⟩
theorem mo_put (ci k : Nat) : Mono (i_put ci k) := by
  intro K X Y Q Q' hC hX hQ pc lo st h c s
  unfold i_put
  repeat' (split)
  all_goals first | exact fun w => hX _ _ _ _ _ _ w | exact fun w => ⟨w.1, hX _ _ _ _ _ _ w.2⟩ | exact fun w => w | exact fun ⟨k, e, l, w⟩ => ⟨k, e, l, hX _ _ _ _ _ _ w⟩ | exact fun ⟨k, e, l, r, b, w⟩ => ⟨k, e, l, r, b, hX _ _ _ _ _ _ w⟩ | exact fun ⟨k, e, l, r, w⟩ => ⟨k, e, l, r, hX _ _ _ _ _ _ w⟩
theorem mo_putR (ci k : Nat) : Mono (i_putR ci k) := by
  intro K X Y Q Q' hC hX hQ pc lo st h c s
  unfold i_putR
  repeat' (split)
  all_goals first | exact fun w => hX _ _ _ _ _ _ w | exact fun w => ⟨w.1, hX _ _ _ _ _ _ w.2⟩ | exact fun w => w | exact fun ⟨k, e, l, w⟩ => ⟨k, e, l, hX _ _ _ _ _ _ w⟩ | exact fun ⟨k, e, l, r, b, w⟩ => ⟨k, e, l, r, b, hX _ _ _ _ _ _ w⟩ | exact fun ⟨k, e, l, r, w⟩ => ⟨k, e, l, r, hX _ _ _ _ _ _ w⟩
theorem mo_iald  : Mono (i_iald ) := by
  intro K X Y Q Q' hC hX hQ pc lo st h c s
  unfold i_iald
  repeat' (split)
  all_goals first | exact fun w => hX _ _ _ _ _ _ w | exact fun w => ⟨w.1, hX _ _ _ _ _ _ w.2⟩ | exact fun w => w | exact fun ⟨k, e, l, w⟩ => ⟨k, e, l, hX _ _ _ _ _ _ w⟩ | exact fun ⟨k, e, l, r, b, w⟩ => ⟨k, e, l, r, b, hX _ _ _ _ _ _ w⟩ | exact fun ⟨k, e, l, r, w⟩ => ⟨k, e, l, r, hX _ _ _ _ _ _ w⟩
theorem mo_iast  : Mono (i_iast ) := by
  intro K X Y Q Q' hC hX hQ pc lo st h c s
  unfold i_iast
  repeat' (split)
  all_goals first | exact fun w => hX _ _ _ _ _ _ w | exact fun w => ⟨w.1, hX _ _ _ _ _ _ w.2⟩ | exact fun w => w | exact fun ⟨k, e, l, w⟩ => ⟨k, e, l, hX _ _ _ _ _ _ w⟩ | exact fun ⟨k, e, l, r, b, w⟩ => ⟨k, e, l, r, b, hX _ _ _ _ _ _ w⟩ | exact fun ⟨k, e, l, r, w⟩ => ⟨k, e, l, r, hX _ _ _ _ _ _ w⟩
theorem mo_alen  : Mono (i_alen ) := by
  intro K X Y Q Q' hC hX hQ pc lo st h c s
  unfold i_alen
  repeat' (split)
  all_goals first | exact fun w => hX _ _ _ _ _ _ w | exact fun w => ⟨w.1, hX _ _ _ _ _ _ w.2⟩ | exact fun w => w | exact fun ⟨k, e, l, w⟩ => ⟨k, e, l, hX _ _ _ _ _ _ w⟩ | exact fun ⟨k, e, l, r, b, w⟩ => ⟨k, e, l, r, b, hX _ _ _ _ _ _ w⟩ | exact fun ⟨k, e, l, r, w⟩ => ⟨k, e, l, r, hX _ _ _ _ _ _ w⟩
theorem mo_aald  : Mono (i_aald ) := by
  intro K X Y Q Q' hC hX hQ pc lo st h c s
  unfold i_aald
  repeat' (split)
  all_goals first | exact fun w => hX _ _ _ _ _ _ w | exact fun w => ⟨w.1, hX _ _ _ _ _ _ w.2⟩ | exact fun w => w | exact fun ⟨k, e, l, w⟩ => ⟨k, e, l, hX _ _ _ _ _ _ w⟩ | exact fun ⟨k, e, l, r, b, w⟩ => ⟨k, e, l, r, b, hX _ _ _ _ _ _ w⟩ | exact fun ⟨k, e, l, r, w⟩ => ⟨k, e, l, r, hX _ _ _ _ _ _ w⟩
theorem mo_aast  : Mono (i_aast ) := by
  intro K X Y Q Q' hC hX hQ pc lo st h c s
  unfold i_aast
  repeat' (split)
  all_goals first | exact fun w => hX _ _ _ _ _ _ w | exact fun w => ⟨w.1, hX _ _ _ _ _ _ w.2⟩ | exact fun w => w | exact fun ⟨k, e, l, w⟩ => ⟨k, e, l, hX _ _ _ _ _ _ w⟩ | exact fun ⟨k, e, l, r, b, w⟩ => ⟨k, e, l, r, b, hX _ _ _ _ _ _ w⟩ | exact fun ⟨k, e, l, r, w⟩ => ⟨k, e, l, r, hX _ _ _ _ _ _ w⟩
theorem mo_copy  : Mono (i_copy ) := by
  intro K X Y Q Q' hC hX hQ pc lo st h c s
  unfold i_copy
  repeat' (split)
  all_goals first | exact fun w => hX _ _ _ _ _ _ w | exact fun w => ⟨w.1, hX _ _ _ _ _ _ w.2⟩ | exact fun w => w | exact fun ⟨k, e, l, w⟩ => ⟨k, e, l, hX _ _ _ _ _ _ w⟩ | exact fun ⟨k, e, l, r, b, w⟩ => ⟨k, e, l, r, b, hX _ _ _ _ _ _ w⟩ | exact fun ⟨k, e, l, r, w⟩ => ⟨k, e, l, r, hX _ _ _ _ _ _ w⟩
theorem mo_new (ci N : Nat) (fs : List Value) : Mono (i_new ci N fs) := by
  intro K X Y Q Q' hC hX hQ pc lo st h c s
  unfold i_new
  exact fun w => ⟨w.1, w.2.1, hX _ _ _ _ _ _ w.2.2⟩
theorem mo_newI  : Mono (i_newI ) := by
  intro K X Y Q Q' hC hX hQ pc lo st h c s
  unfold i_newI
  split <;> first | exact fun ⟨k, e, l, a, b, w⟩ => ⟨k, e, l, a, b, hX _ _ _ _ _ _ w⟩ | exact fun w => w
theorem mo_newQ  : Mono (i_newQ ) := by
  intro K X Y Q Q' hC hX hQ pc lo st h c s
  unfold i_newQ
  split <;> first | exact fun ⟨k, e, l, a, b, w⟩ => ⟨k, e, l, a, b, hX _ _ _ _ _ _ w⟩ | exact fun w => w
theorem mo_iret  : Mono (i_iret ) := by
  intro K X Y Q Q' hC hX hQ pc lo st h c s
  unfold i_iret
  split <;> first | exact fun w => hQ _ _ _ _ w | exact fun w => w
theorem mo_lret  : Mono (i_lret ) := by
  intro K X Y Q Q' hC hX hQ pc lo st h c s
  unfold i_lret
  split <;> first | exact fun w => hQ _ _ _ _ w | exact fun w => w
theorem mo_vret  : Mono (i_vret ) := by
  intro K X Y Q Q' hC hX hQ pc lo st h c s
  unfold i_vret
  split <;> first | exact fun w => hQ _ _ _ _ w | exact fun w => w
theorem mo_zret  : Mono (i_zret ) := by
  intro K X Y Q Q' hC hX hQ pc lo st h c s
  unfold i_zret
  split <;> first | exact fun w => ⟨w.1, hQ _ _ _ _ w.2⟩ | exact fun w => w
theorem mo_call (y n : Nat) (B : List Value → List aC → Prop) : Mono (i_call y n B) := by
  intro K X Y Q Q' hC hX hQ pc lo st h c s
  unfold i_call
  rintro ⟨is, av, hc, mc, ms, a, b, d, w⟩
  exact ⟨is, av, hc, mc, ms, a, b, d, hC _ _ _ _ _ _ _ (fun v h' z => hX _ _ _ _ _ _ z) w⟩
