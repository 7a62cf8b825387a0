/-! THE REFERENCE: its world of 19 cells -/
structure MW where
  H : Int32
  R : Int32
  dy : Int32
  sn : Int32
  len : Int32
  pos : Int32
  rH : Int32
  rR : Int32
  pn : Int32
  kn : Int32
  kd : Nat → Int32
  th : Nat → Int32
  mc : Nat → Int32
  wn : Nat → Int32
  sd : Nat → Int32
  sp : Nat → Int32
  st : Nat → Int32
  tx : Nat → Int32
  rk : Nat → Int32
  rt : Nat → Int32
  rm : Nat → Int32
  rw : Nat → Int32
  row : Nat → Int32
  past : Nat → Int32
  pu : Nat → Int32
  pin : Nat → Int32
  rows : Nat → Int32
  kept : Nat → Int32
abbrev mw (s : MW) : List aC := [ao 7 [.int s.H, .int s.R, .ref 1, .int s.dy, .ref 2, .ref 3, .ref 4, .int s.sn, .ref 5, .ref 6, .ref 7, .ref 8, .int s.len, .int s.pos, .int s.rH, .int s.rR, .ref 9, .ref 10, .ref 11, .ref 12, .ref 13, .ref 14, .int s.pn, .ref 15, .ref 16, .ref 17, .ref 18, .int s.kn], ai 6 s.kd, ai 30 s.th, ai 6 s.mc, ai 5 s.wn, ai 6 s.sd, ai 6 s.sp, ai 6 s.st, ai 200 s.tx, ai 6 s.rk, ai 30 s.rt, ai 6 s.rm, ai 5 s.rw, ai 5 s.row, ai 336 s.past, ai 42 s.pu, ai 5 s.pin, ai 10 s.rows, ai 84 s.kept]
theorem q_all {h : List aC} (hl : h.length = 19) (s : MW) : put h [0, 1, 2, 3, 4, 5, 6, 7, 8, 9, 10, 11, 12, 13, 14, 15, 16, 17, 18] ((mw s).map (rc (rho [0, 1, 2, 3, 4, 5, 6, 7, 8, 9, 10, 11, 12, 13, 14, 15, 16, 17, 18] h.length))) = mw s := by
  rw [hl]
  refine (put_all (n := 19) hl rfl).trans ?_
  rfl
theorem j5 (a b : Nat) : 5 * nI a + nI b = nI (5 * a + b) := by rw [show (5 : Int32) = nI 5 from rfl, pk_mul, nI_add]
theorem nI_m1 {n : Nat} (h : 0 < n) : nI n - 1 = nI (n - 1) := by
  obtain ⟨k, rfl⟩ := Nat.exists_eq_succ_of_ne_zero (Nat.pos_iff_ne_zero.mp h)
  rw [Nat.succ_eq_add_one, nI_succ, Int32.add_sub_cancel]
  rfl
def bsK (m : Nat) : Nat → Nat
  | 0 => 0
  | k + 1 => bsK m k + (if m.testBit k = true then 1 else 0)
theorem bs_pop : ∀ m, m < 64 → bsK m 6 = pop 10 m := by decide +kernel
theorem bs_bit : ∀ m, m < 64 → ∀ k, k < 6 → (nI m >>> (nI k &&& 31)) &&& 1 = nI (if m.testBit k = true then 1 else 0) := by decide +kernel
section MO
variable {d : Nat} {s : MW} {wi : Nat → Int32} {H R M a b n m k : Nat} {x y v w u : Int32} {Q : Option Value → List aC → Prop}
theorem m_in (hT : ¬ x < y → ¬ v < x → Q (some (.int 1)) []) (hF : ¬ (¬ x < y ∧ ¬ v < x) → Q (some (.int 0)) []) : callok (d + 1) 117 0 0 [.int x, .int y, .int v] [] Q := by
  refine beg rfl (gs [] ?_)
  refine br_c (fun c => ?_) (fun c => ?_)
  · exact And.intro (Or.inl rfl) (fin0 (hF (fun z => z.1 c)))
  · refine br_c (fun c2 => ?_) (fun c2 => ?_)
    · exact And.intro (Or.inl rfl) (fin0 (hF (fun z => z.2 c2)))
    · exact And.intro (Or.inr rfl) (fin0 (hT c c2))
theorem m_has (hx : x = nI m) (hy : y = nI k) (hm : m < 256) (hk : k < 8) (hT : m.testBit k = true → Q (some (.int 1)) []) (hF : ¬ m.testBit k = true → Q (some (.int 0)) []) : callok (d + 1) 118 0 0 [.int x, .int y] [] Q := by
  subst hx hy
  refine beg rfl (gs [] ?_)
  refine br_c (fun c => ?_) (fun c => ?_)
  · exact And.intro (Or.inr rfl) (fin0 (hT ((bt8_has k hk m hm).mp c)))
  · exact And.intro (Or.inl rfl) (fin0 (hF (fun z => c ((bt8_has k hk m hm).mpr z))))
theorem m_bits (hx : x = nI m) (hm : m < 64) (hQ : Q (some (.int (nI (pop 10 m)))) []) : callok (d + 1) 119 0 0 [.int x] [] Q := by
  subst hx
  refine beg rfl (gs [4] ?_)
  refine up (W := fun k => wp (0, 0, callok d) (mcode 119) (qE 0 0 Q) 4 [some (.int (nI m)), some (.int (nI (bsK m k))), some (.int (nI k))] [] [] 0 0) 6 ?_ ?_
  · refine gs [4] ?_
    refine br_f ((by decide)) ?_
    rw [← bs_pop m hm] at hQ
    exact fin0 (hQ)
  · intro k hk ih
    refine gs [4] ?_
    refine br_t ((nI_lt (b := 6) hk (by omega))) ?_
    rw [bsK, nI_succ k, ← nI_add, ← bs_bit m hm k hk] at ih
    exact ih
theorem m_isHouse (hH : s.H = nI H) (h6 : H ≤ 6) (h0 : 0 < H) (hT : inR x H → Q (some (.int 1)) (mw s)) (hF : ¬ inR x H → Q (some (.int 0)) (mw s)) : callok (d + 2) 122 0 0 [.ref 0, .int x] (mw s) Q := by
  refine beg rfl (gs [] ?_)
  refine Exists.intro [] (Exists.intro [.int x, .int 0, .int (s.H - 1)] (Exists.intro ([]) (Exists.intro 0 (Exists.intro 0 (And.intro ⟨rfl, rfl, Nat.le_of_ble_eq_true rfl, rfl, rfl, rfl, trivial⟩ (And.intro (Nat.le_refl _) (And.intro (Nat.le_refl _) ?_)))))))
  have hi : inR x H ↔ (¬ x < 0 ∧ ¬ s.H - 1 < x) := by
    rw [hH, nI_m1 h0]
    constructor
    · intro z
      obtain ⟨a, ha, rfl⟩ := inR_of z (by omega)
      exact ⟨z.1, nI_nlt (by omega) (by omega)⟩
    · intro z
      obtain ⟨j, hj, rfl⟩ := nI_of z.1
      have h1 := (nI_ltI (a := H - 1) (by omega) hj).not.mp z.2
      exact inR_nI (by omega) (by omega)
  refine m_in (fun c c2 => ?_) (fun c => ?_)
  · rw [p_nil]
    exact And.intro (Or.inr rfl) (fin0 (hT (hi.mpr ⟨c, c2⟩)))
  · rw [p_nil]
    exact And.intro (Or.inl rfl) (fin0 (hF (fun z => c (hi.mp z))))
theorem m_isRoom (hR : s.R = nI R) (h6 : R ≤ 5) (h0 : 0 < R) (hT : inR x R → Q (some (.int 1)) (mw s)) (hF : ¬ inR x R → Q (some (.int 0)) (mw s)) : callok (d + 2) 123 0 0 [.ref 0, .int x] (mw s) Q := by
  refine beg rfl (gs [] ?_)
  refine Exists.intro [] (Exists.intro [.int x, .int 0, .int (s.R - 1)] (Exists.intro ([]) (Exists.intro 0 (Exists.intro 0 (And.intro ⟨rfl, rfl, Nat.le_of_ble_eq_true rfl, rfl, rfl, rfl, trivial⟩ (And.intro (Nat.le_refl _) (And.intro (Nat.le_refl _) ?_)))))))
  have hi : inR x R ↔ (¬ x < 0 ∧ ¬ s.R - 1 < x) := by
    rw [hR, nI_m1 h0]
    constructor
    · intro z
      obtain ⟨a, ha, rfl⟩ := inR_of z (by omega)
      exact ⟨z.1, nI_nlt (by omega) (by omega)⟩
    · intro z
      obtain ⟨j, hj, rfl⟩ := nI_of z.1
      have h1 := (nI_ltI (a := R - 1) (by omega) hj).not.mp z.2
      exact inR_nI (by omega) (by omega)
  refine m_in (fun c c2 => ?_) (fun c => ?_)
  · rw [p_nil]
    exact And.intro (Or.inr rfl) (fin0 (hT (hi.mpr ⟨c, c2⟩)))
  · rw [p_nil]
    exact And.intro (Or.inl rfl) (fin0 (hF (fun z => c (hi.mp z))))
/-- how many wanted, how many mice -/
def waN (wn : Nat → Int32) : Nat → Nat
  | 0 => 0
  | k + 1 => if wn k = -4 then waN wn k else waN wn k + 2 ^ k
theorem waN_lt {wn : Nat → Int32} : ∀ k, waN wn k < 2 ^ k
  | 0 => Nat.one_pos
  | k + 1 => by
    have := waN_lt (wn := wn) k
    rw [waN, Nat.pow_succ]
    split <;> omega
def maN (M : Nat) : Nat → Nat
  | 0 => 0
  | k + 1 => maN M k + (if M.testBit k = true then 1 else 0)
theorem m_metNow (hR : s.R = nI R) (h6 : R ≤ 5) (hw : ∀ k, k < R → ((¬ s.wn k = -4 ∧ s.th k = s.wn k) ↔ wi k = s.th k)) (hQ : Q (some (.int (nI (metN wi s.th R)))) (mw s)) : callok (d + 1) 141 0 0 [.ref 0] (mw s) Q := by
  refine beg rfl (gs [4] ?_)
  refine up (W := fun k => wp (0, 0, callok d) (mcode 141) (qE 0 0 Q) 4 [some (.ref 0), some (.int (nI (metN wi s.th k))), some (.int (nI k))] [] (mw s) 0 0) R ?_ ?_
  · refine gs [4] ?_
    refine br_f ((show ¬ nI R < s.R by rw [hR]; exact nI_nlt (by omega) (by omega))) ?_
    exact fin0 (hQ)
  · intro k hk ih
    refine gs [4] ?_
    refine br_t ((show nI k < s.R by rw [hR]; exact nI_lt hk (by omega))) ?_
    refine Exists.intro (k) (And.intro (rfl) (And.intro ⟨by omega, by omega⟩ ?_))
    rw [metN, nI_succ k] at ih
    refine br_c (fun c => ?_) (fun c => ?_)
    · rw [if_neg (fun z => ((hw k hk).mpr z).1 c)] at ih
      rw [← Int32.or_zero (a := nI (metN wi s.th k))] at ih
      exact ih
    · refine Exists.intro (k) (And.intro (rfl) (And.intro ⟨by omega, by omega⟩ ?_))
      refine Exists.intro (k) (And.intro (rfl) (And.intro ⟨by omega, by omega⟩ ?_))
      refine br_c (fun c2 => ?_) (fun c2 => ?_)
      · rw [if_pos ((hw k hk).mp ⟨c, c2⟩), ← bt_or k (by omega) _ (metN_lt k)] at ih
        exact ih
      · rw [if_neg (fun z => c2 ((hw k hk).mpr z).2)] at ih
        rw [← Int32.or_zero (a := nI (metN wi s.th k))] at ih
        exact ih
theorem m_wantedAll (hR : s.R = nI R) (h6 : R ≤ 5) (hQ : Q (some (.int (nI (waN s.wn R)))) (mw s)) : callok (d + 1) 142 0 0 [.ref 0] (mw s) Q := by
  refine beg rfl (gs [4] ?_)
  refine up (W := fun k => wp (0, 0, callok d) (mcode 142) (qE 0 0 Q) 4 [some (.ref 0), some (.int (nI (waN s.wn k))), some (.int (nI k))] [] (mw s) 0 0) R ?_ ?_
  · refine gs [4] ?_
    refine br_f ((show ¬ nI R < s.R by rw [hR]; exact nI_nlt (by omega) (by omega))) ?_
    exact fin0 (hQ)
  · intro k hk ih
    refine gs [4] ?_
    refine br_t ((show nI k < s.R by rw [hR]; exact nI_lt hk (by omega))) ?_
    refine Exists.intro (k) (And.intro (rfl) (And.intro ⟨by omega, by omega⟩ ?_))
    rw [waN, nI_succ k] at ih
    refine br_c (fun c => ?_) (fun c => ?_)
    · rw [if_pos c] at ih
      rw [← Int32.or_zero (a := nI (waN s.wn k))] at ih
      exact ih
    · rw [if_neg c, ← bt_or k (by omega) _ (waN_lt k)] at ih
      exact ih
theorem m_mouseMany (hH : s.H = nI H) (h6 : H ≤ 6) (hm : ∀ k, k < H → s.mc k = nI (if M.testBit k = true then 1 else 0)) (hQ : Q (some (.int (nI (maN M H)))) (mw s)) : callok (d + 1) 143 0 0 [.ref 0] (mw s) Q := by
  refine beg rfl (gs [4] ?_)
  refine up (W := fun k => wp (0, 0, callok d) (mcode 143) (qE 0 0 Q) 4 [some (.ref 0), some (.int (nI (maN M k))), some (.int (nI k))] [] (mw s) 0 0) H ?_ ?_
  · refine gs [4] ?_
    refine br_f ((show ¬ nI H < s.H by rw [hH]; exact nI_nlt (by omega) (by omega))) ?_
    exact fin0 (hQ)
  · intro k hk ih
    refine gs [4] ?_
    refine br_t ((show nI k < s.H by rw [hH]; exact nI_lt hk (by omega))) ?_
    refine Exists.intro (k) (And.intro (rfl) (And.intro ⟨by omega, by omega⟩ ?_))
    rw [maN, nI_succ k, ← nI_add, ← hm k hk] at ih
    exact ih
/-- what stands in room b of house a a day on -/
def ttM (kd th : Nat → Int32) (M H R a b : Nat) : Int32 := if a + 1 = H ∨ M.testBit a = true then th (5 * a + b) else nxT kd th R a b
theorem rAf_mod {R b : Nat} (h : b < R) : (b + 1) % R = rAf R b := by
  unfold rAf
  split
  · exact Nat.mod_eq_of_lt (by assumption)
  · rw [show b + 1 = R by omega, Nat.mod_self]
theorem m_thingThen (hH : s.H = nI H) (hR : s.R = nI R) (h6 : H ≤ 6) (h5 : R ≤ 5) (hm : ∀ k, k < H → s.mc k = nI (if M.testBit k = true then 1 else 0)) (hx : x = nI a) (hy : y = nI b) (ha : a < H) (hb : b < R) (hQ : Q (some (.int (ttM s.kd s.th M H R a b))) (mw s)) : callok (d + 1) 138 0 0 [.ref 0, .int x, .int y] (mw s) Q := by
  subst hx hy
  unfold ttM at hQ
  refine beg rfl (gs [] ?_)
  refine Exists.intro (5 * a + b) (And.intro (j5 a b) (And.intro ⟨by omega, by omega⟩ ?_))
  have e1 : nI a = s.H - 1 ↔ a + 1 = H := by
    rw [hH, nI_m1 (by omega)]
    constructor
    · intro z
      have := nI_inj (by omega) (by omega) z
      omega
    · intro z
      rw [← z]
      rfl
  refine br_c (fun c => ?_) (fun c => ?_)
  · rw [if_pos (Or.inl (e1.mp c))] at hQ
    exact fin0 (hQ)
  · have c' := mt e1.mpr c
    refine Exists.intro (a) (And.intro (rfl) (And.intro ⟨by omega, by omega⟩ ?_))
    refine br_c (fun c2 => ?_) (fun c2 => ?_)
    · rw [hm a ha] at c2
      have c3 : M.testBit a = true := by
        by_cases q : M.testBit a = true
        · exact q
        · rw [if_neg q] at c2
          exact absurd c2 (by decide)
      rw [if_pos (Or.inr c3)] at hQ
      exact fin0 (hQ)
    · have c3 : ¬ M.testBit a = true := fun q => c2 (by rw [hm a ha, if_pos q]; rfl)
      rw [if_neg (fun z => z.elim c' c3)] at hQ
      have e5 : 5 * (nI a + 1) + nI b = nI (5 * (a + 1) + b) := by rw [nI_1 a, j5]
      refine Exists.intro (5 * (a + 1) + b) (And.intro (e5) (And.intro ⟨by omega, by omega⟩ ?_))
      refine Exists.intro (a) (And.intro (rfl) (And.intro ⟨by omega, by omega⟩ ?_))
      unfold nxT at hQ
      refine And.intro (fun c4 => ?_) (fun j t hj hx => ?_)
      · have k1 : ¬ s.kd a = 1 := fun z => by rw [z] at c4; exact absurd c4 (by decide)
        have k2 : ¬ s.kd a = 2 := fun z => by rw [z] at c4; exact absurd c4 (by decide)
        have k3 : ¬ s.kd a = 3 := fun z => by rw [z] at c4; exact absurd c4 (by decide)
        rw [if_neg k1, if_neg k2, if_neg k3] at hQ
        exact fin0 (hQ)
      · match j, hj, hx with
        | 0, hj, hx =>
          obtain rfl : 80 = t := Option.some.inj hj
          have k1 : s.kd a = 1 := Int32.toInt_inj.mp (by rw [hx]; decide)
          rw [if_neg (by rw [k1]; decide), if_pos k1, if_neg (by rw [k1]; decide)] at hQ
          unfold near at hQ
          refine br_c (fun c5 => ?_) (fun c5 => ?_)
          · rw [if_neg (fun z => Int32.lt_irrefl _ (z ▸ c5)), if_pos c5] at hQ
            exact fin0 (hQ)
          · refine br_c (fun c6 => ?_) (fun c6 => ?_)
            · rw [if_neg (fun z => Int32.lt_irrefl _ (z ▸ c6)), if_neg c5] at hQ
              exact fin0 (hQ)
            · rw [if_pos (Int32.le_antisymm (Int32.not_lt.mp c6) (Int32.not_lt.mp c5))] at hQ
              exact fin0 (hQ)
        | 1, hj, hx =>
          obtain rfl : 106 = t := Option.some.inj hj
          have k1 : s.kd a = 2 := Int32.toInt_inj.mp (by rw [hx]; decide)
          rw [if_pos k1, if_neg (by rw [k1]; decide)] at hQ
          exact fin0 (hQ)
        | 2, hj, hx =>
          obtain rfl : 112 = t := Option.some.inj hj
          have k1 : s.kd a = 3 := Int32.toInt_inj.mp (by rw [hx]; decide)
          rw [if_neg (by rw [k1]; decide), if_neg (by rw [k1]; decide), if_pos k1] at hQ
          have hr : rAf R b < R := by unfold rAf; split <;> omega
          have e6 : 5 * (nI a + 1) + (nI b + 1 - (nI b + 1) / s.R * s.R) = nI (5 * (a + 1) + rAf R b) := by
            rw [hR, nI_1 a, nI_1 b, pk_rem (by omega) (by omega) (by omega), rAf_mod hb, j5]
          refine And.intro (fun z => absurd (hR ▸ z) (fun q => absurd (nI_inj (b := 0) (by omega) (by omega) q) (by omega))) ?_
          refine Exists.intro (5 * (a + 1) + rAf R b) (And.intro (e6) (And.intro ⟨by omega, by omega⟩ ?_))
          exact fin0 (hQ)
        | j + 3, hj, hx => exact absurd hj (by simp)
end MO
