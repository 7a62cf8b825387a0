/-! THE REFERENCE: its world of 19 cells -/
abbrev mw (hs rm dy sn ln po rh rr pn kn : Int32) (kd th mc wn sd sp st tx rk rt rm2 rw2 row past pu pin rows kept : Nat → Int32) : List aC := [ao 7 [.int hs, .int rm, .ref 1, .int dy, .ref 2, .ref 3, .ref 4, .int sn, .ref 5, .ref 6, .ref 7, .ref 8, .int ln, .int po, .int rh, .int rr, .ref 9, .ref 10, .ref 11, .ref 12, .ref 13, .ref 14, .int pn, .ref 15, .ref 16, .ref 17, .ref 18, .int kn], ai 6 kd, ai 30 th, ai 6 mc, ai 5 wn, ai 6 sd, ai 6 sp, ai 6 st, ai 200 tx, ai 6 rk, ai 30 rt, ai 6 rm2, ai 5 rw2, ai 5 row, ai 336 past, ai 42 pu, ai 5 pin, ai 10 rows, ai 84 kept]
theorem q_all {h : List aC} (hl : h.length = 19) (hs rm dy sn ln po rh rr pn kn : Int32) (kd th mc wn sd sp st tx rk rt rm2 rw2 row past pu pin rows kept : Nat → Int32) : put h [0, 1, 2, 3, 4, 5, 6, 7, 8, 9, 10, 11, 12, 13, 14, 15, 16, 17, 18] (((mw hs rm dy sn ln po rh rr pn kn kd th mc wn sd sp st tx rk rt rm2 rw2 row past pu pin rows kept)).map (rc (rho [0, 1, 2, 3, 4, 5, 6, 7, 8, 9, 10, 11, 12, 13, 14, 15, 16, 17, 18] h.length))) = (mw hs rm dy sn ln po rh rr pn kn kd th mc wn sd sp st tx rk rt rm2 rw2 row past pu pin rows kept) := by
  rw [hl]
  refine (put_all (n := 19) hl rfl).trans ?_
  rfl
theorem j5 (a b : Nat) : 5 * nI a + nI b = nI (5 * a + b) := by rw [show (5 : Int32) = nI 5 from rfl, pk_mul, nI_add]
theorem nI_m1 {n : Nat} (h : 0 < n) : nI n - 1 = nI (n - 1) := by
  obtain ⟨k, rfl⟩ := Nat.exists_eq_succ_of_ne_zero (Nat.pos_iff_ne_zero.mp h)
  rw [Nat.succ_eq_add_one, nI_succ, Int32.add_sub_cancel]
  rfl
def bsK (m : Nat) : Nat → Nat
  | 0 => 0
  | k + 1 => bsK m k + (if m.testBit k = true then 1 else 0)
theorem bs_pop : ∀ m, m < 64 → bsK m 6 = pop 10 m := by decide +kernel
theorem bs_bit : ∀ m, m < 64 → ∀ k, k < 6 → (nI m >>> (nI k &&& 31)) &&& 1 = nI (if m.testBit k = true then 1 else 0) := by decide +kernel
section MO
variable {d : Nat} {hs rm dy sn ln po rh rr pn kn : Int32} {kd th mc wn sd sp st tx rk rt rm2 rw2 row past pu pin rows kept : Nat → Int32} {wi : Nat → Int32} {H R M a b n m k : Nat} {x y v w u : Int32} {Q : Option Value → List aC → Prop}
theorem m_in (hT : ¬ x < y → ¬ v < x → Q (some (.int 1)) []) (hF : ¬ (¬ x < y ∧ ¬ v < x) → Q (some (.int 0)) []) : callok (d + 1) 117 0 0 [.int x, .int y, .int v] [] Q := by
  refine beg rfl (gs [] ?_)
  refine br_c (fun c => ?_) (fun c => ?_)
  · exact And.intro (Or.inl rfl) (fin0 (hF (fun z => z.1 c)))
  · refine br_c (fun c2 => ?_) (fun c2 => ?_)
    · exact And.intro (Or.inl rfl) (fin0 (hF (fun z => z.2 c2)))
    · exact And.intro (Or.inr rfl) (fin0 (hT c c2))
theorem m_has (hx : x = nI m) (hy : y = nI k) (hm : m < 256) (hk : k < 8) (hT : m.testBit k = true → Q (some (.int 1)) []) (hF : ¬ m.testBit k = true → Q (some (.int 0)) []) : callok (d + 1) 118 0 0 [.int x, .int y] [] Q := by
  subst hx hy
  refine beg rfl (gs [] ?_)
  refine br_c (fun c => ?_) (fun c => ?_)
  · exact And.intro (Or.inr rfl) (fin0 (hT ((bt8_has k hk m hm).mp c)))
  · exact And.intro (Or.inl rfl) (fin0 (hF (fun z => c ((bt8_has k hk m hm).mpr z))))
theorem m_bits (hx : x = nI m) (hm : m < 64) (hQ : Q (some (.int (nI (pop 10 m)))) []) : callok (d + 1) 119 0 0 [.int x] [] Q := by
  subst hx
  refine beg rfl (gs [4] ?_)
  refine up (W := fun k => wp (0, 0, callok d) (mcode 119) (qE 0 0 Q) 4 [some (.int (nI m)), some (.int (nI (bsK m k))), some (.int (nI k))] [] [] 0 0) 6 ?_ ?_
  · refine gs [4] ?_
    refine br_f ((by decide)) ?_
    rw [← bs_pop m hm] at hQ
    exact fin0 (hQ)
  · intro k hk ih
    refine gs [4] ?_
    refine br_t ((nI_lt (b := 6) hk (by omega))) ?_
    rw [bsK, nI_succ k, ← nI_add, ← bs_bit m hm k hk] at ih
    exact ih
theorem m_isHouse (h6 : H ≤ 6) (h0 : 0 < H) (hT : inR x H → Q (some (.int 1)) (mw (nI H) (nI R) dy sn ln po rh rr pn kn kd th mc wn sd sp st tx rk rt rm2 rw2 row past pu pin rows kept)) (hF : ¬ inR x H → Q (some (.int 0)) (mw (nI H) (nI R) dy sn ln po rh rr pn kn kd th mc wn sd sp st tx rk rt rm2 rw2 row past pu pin rows kept)) : callok (d + 2) 122 0 0 [.ref 0, .int x] (mw (nI H) (nI R) dy sn ln po rh rr pn kn kd th mc wn sd sp st tx rk rt rm2 rw2 row past pu pin rows kept) Q := by
  refine beg rfl (gs [] ?_)
  refine Exists.intro [] (Exists.intro [.int x, .int 0, .int (nI H - 1)] (Exists.intro ([]) (Exists.intro 0 (Exists.intro 0 (And.intro ⟨rfl, rfl, Nat.le_of_ble_eq_true rfl, rfl, rfl, rfl, trivial⟩ (And.intro (Nat.le_refl _) (And.intro (Nat.le_refl _) ?_)))))))
  have hi : inR x H ↔ (¬ x < 0 ∧ ¬ nI H - 1 < x) := by
    rw [nI_m1 h0]
    constructor
    · intro z
      obtain ⟨a, ha, rfl⟩ := inR_of z (by omega)
      exact ⟨z.1, nI_nlt (by omega) (by omega)⟩
    · intro z
      obtain ⟨j, hj, rfl⟩ := nI_of z.1
      have h1 : ¬ H - 1 < j := fun q => z.2 ((nI_ltI (by omega) hj).mpr q)
      exact inR_nI (by omega) (by omega)
  refine m_in (fun c c2 => ?_) (fun c => ?_)
  · rw [p_nil]
    exact And.intro (Or.inr rfl) (fin0 (hT (hi.mpr ⟨c, c2⟩)))
  · rw [p_nil]
    exact And.intro (Or.inl rfl) (fin0 (hF (fun z => c (hi.mp z))))
theorem m_isRoom (h6 : R ≤ 5) (h0 : 0 < R) (hT : inR x R → Q (some (.int 1)) (mw (nI H) (nI R) dy sn ln po rh rr pn kn kd th mc wn sd sp st tx rk rt rm2 rw2 row past pu pin rows kept)) (hF : ¬ inR x R → Q (some (.int 0)) (mw (nI H) (nI R) dy sn ln po rh rr pn kn kd th mc wn sd sp st tx rk rt rm2 rw2 row past pu pin rows kept)) : callok (d + 2) 123 0 0 [.ref 0, .int x] (mw (nI H) (nI R) dy sn ln po rh rr pn kn kd th mc wn sd sp st tx rk rt rm2 rw2 row past pu pin rows kept) Q := by
  refine beg rfl (gs [] ?_)
  refine Exists.intro [] (Exists.intro [.int x, .int 0, .int (nI R - 1)] (Exists.intro ([]) (Exists.intro 0 (Exists.intro 0 (And.intro ⟨rfl, rfl, Nat.le_of_ble_eq_true rfl, rfl, rfl, rfl, trivial⟩ (And.intro (Nat.le_refl _) (And.intro (Nat.le_refl _) ?_)))))))
  have hi : inR x R ↔ (¬ x < 0 ∧ ¬ nI R - 1 < x) := by
    rw [nI_m1 h0]
    constructor
    · intro z
      obtain ⟨a, ha, rfl⟩ := inR_of z (by omega)
      exact ⟨z.1, nI_nlt (by omega) (by omega)⟩
    · intro z
      obtain ⟨j, hj, rfl⟩ := nI_of z.1
      have h1 : ¬ R - 1 < j := fun q => z.2 ((nI_ltI (by omega) hj).mpr q)
      exact inR_nI (by omega) (by omega)
  refine m_in (fun c c2 => ?_) (fun c => ?_)
  · rw [p_nil]
    exact And.intro (Or.inr rfl) (fin0 (hT (hi.mpr ⟨c, c2⟩)))
  · rw [p_nil]
    exact And.intro (Or.inl rfl) (fin0 (hF (fun z => c (hi.mp z))))
/-- how many wanted, how many mice -/
def waN (wn : Nat → Int32) : Nat → Nat
  | 0 => 0
  | k + 1 => if wn k = -4 then waN wn k else waN wn k + 2 ^ k
theorem waN_lt {wn : Nat → Int32} : ∀ k, waN wn k < 2 ^ k
  | 0 => Nat.one_pos
  | k + 1 => by
    have := waN_lt (wn := wn) k
    rw [waN, Nat.pow_succ]
    split <;> omega
def maN (M : Nat) : Nat → Nat
  | 0 => 0
  | k + 1 => maN M k + (if M.testBit k = true then 1 else 0)
theorem m_metNow (h6 : R ≤ 5) (hw : ∀ k, k < R → ((¬ wn k = -4 ∧ th k = wn k) ↔ wi k = th k)) (hQ : Q (some (.int (nI (metN wi th R)))) (mw (nI H) (nI R) dy sn ln po rh rr pn kn kd th mc wn sd sp st tx rk rt rm2 rw2 row past pu pin rows kept)) : callok (d + 1) 141 0 0 [.ref 0] (mw (nI H) (nI R) dy sn ln po rh rr pn kn kd th mc wn sd sp st tx rk rt rm2 rw2 row past pu pin rows kept) Q := by
  refine beg rfl (gs [4] ?_)
  refine up (W := fun k => wp (0, 0, callok d) (mcode 141) (qE 0 0 Q) 4 [some (.ref 0), some (.int (nI (metN wi th k))), some (.int (nI k))] [] (mw (nI H) (nI R) dy sn ln po rh rr pn kn kd th mc wn sd sp st tx rk rt rm2 rw2 row past pu pin rows kept) 0 0) R ?_ ?_
  · refine gs [4] ?_
    refine br_f ((show ¬ nI R < nI R by exact nI_nlt (by omega) (by omega))) ?_
    exact fin0 (hQ)
  · intro k hk ih
    refine gs [4] ?_
    refine br_t ((show nI k < nI R by exact nI_lt hk (by omega))) ?_
    refine Exists.intro (k) (And.intro (rfl) (And.intro ⟨by omega, by omega⟩ ?_))
    rw [metN, nI_succ k] at ih
    refine br_c (fun c => ?_) (fun c => ?_)
    · rw [if_neg (fun z => ((hw k hk).mpr z).1 c)] at ih
      rw [← Int32.or_zero (a := nI (metN wi th k))] at ih
      exact ih
    · refine Exists.intro (k) (And.intro (rfl) (And.intro ⟨by omega, by omega⟩ ?_))
      refine Exists.intro (k) (And.intro (rfl) (And.intro ⟨by omega, by omega⟩ ?_))
      refine br_c (fun c2 => ?_) (fun c2 => ?_)
      · rw [if_pos ((hw k hk).mp ⟨c, c2⟩), ← bt_or k (by omega) _ (metN_lt k)] at ih
        exact ih
      · rw [if_neg (fun z => c2 ((hw k hk).mpr z).2)] at ih
        rw [← Int32.or_zero (a := nI (metN wi th k))] at ih
        exact ih
theorem m_wantedAll (h6 : R ≤ 5) (hQ : Q (some (.int (nI (waN wn R)))) (mw (nI H) (nI R) dy sn ln po rh rr pn kn kd th mc wn sd sp st tx rk rt rm2 rw2 row past pu pin rows kept)) : callok (d + 1) 142 0 0 [.ref 0] (mw (nI H) (nI R) dy sn ln po rh rr pn kn kd th mc wn sd sp st tx rk rt rm2 rw2 row past pu pin rows kept) Q := by
  refine beg rfl (gs [4] ?_)
  refine up (W := fun k => wp (0, 0, callok d) (mcode 142) (qE 0 0 Q) 4 [some (.ref 0), some (.int (nI (waN wn k))), some (.int (nI k))] [] (mw (nI H) (nI R) dy sn ln po rh rr pn kn kd th mc wn sd sp st tx rk rt rm2 rw2 row past pu pin rows kept) 0 0) R ?_ ?_
  · refine gs [4] ?_
    refine br_f ((show ¬ nI R < nI R by exact nI_nlt (by omega) (by omega))) ?_
    exact fin0 (hQ)
  · intro k hk ih
    refine gs [4] ?_
    refine br_t ((show nI k < nI R by exact nI_lt hk (by omega))) ?_
    refine Exists.intro (k) (And.intro (rfl) (And.intro ⟨by omega, by omega⟩ ?_))
    rw [waN, nI_succ k] at ih
    refine br_c (fun c => ?_) (fun c => ?_)
    · rw [if_pos c] at ih
      rw [← Int32.or_zero (a := nI (waN wn k))] at ih
      exact ih
    · rw [if_neg c, ← bt_or k (by omega) _ (waN_lt k)] at ih
      exact ih
theorem m_mouseMany (h6 : H ≤ 6) (hm : ∀ k, k < H → mc k = nI (if M.testBit k = true then 1 else 0)) (hQ : Q (some (.int (nI (maN M H)))) (mw (nI H) (nI R) dy sn ln po rh rr pn kn kd th mc wn sd sp st tx rk rt rm2 rw2 row past pu pin rows kept)) : callok (d + 1) 143 0 0 [.ref 0] (mw (nI H) (nI R) dy sn ln po rh rr pn kn kd th mc wn sd sp st tx rk rt rm2 rw2 row past pu pin rows kept) Q := by
  refine beg rfl (gs [4] ?_)
  refine up (W := fun k => wp (0, 0, callok d) (mcode 143) (qE 0 0 Q) 4 [some (.ref 0), some (.int (nI (maN M k))), some (.int (nI k))] [] (mw (nI H) (nI R) dy sn ln po rh rr pn kn kd th mc wn sd sp st tx rk rt rm2 rw2 row past pu pin rows kept) 0 0) H ?_ ?_
  · refine gs [4] ?_
    refine br_f ((show ¬ nI H < nI H by exact nI_nlt (by omega) (by omega))) ?_
    exact fin0 (hQ)
  · intro k hk ih
    refine gs [4] ?_
    refine br_t ((show nI k < nI H by exact nI_lt hk (by omega))) ?_
    refine Exists.intro (k) (And.intro (rfl) (And.intro ⟨by omega, by omega⟩ ?_))
    rw [maN, nI_succ k, ← nI_add, ← hm k hk] at ih
    exact ih
/-- what stands in room b of house a a day on -/
def ttM (kd th : Nat → Int32) (M H R a b : Nat) : Int32 := if a + 1 = H ∨ M.testBit a = true then th (5 * a + b) else nxT kd th R a b
theorem rAf_mod {R b : Nat} (h : b < R) : (b + 1) % R = rAf R b := by
  unfold rAf
  split
  · exact Nat.mod_eq_of_lt (by assumption)
  · rw [show b + 1 = R by omega, Nat.mod_self]
theorem m_thingThen (h6 : H ≤ 6) (h5 : R ≤ 5) (hm : ∀ k, k < H → mc k = nI (if M.testBit k = true then 1 else 0)) (hx : x = nI a) (hy : y = nI b) (ha : a < H) (hb : b < R) (hQ : Q (some (.int (ttM kd th M H R a b))) (mw (nI H) (nI R) dy sn ln po rh rr pn kn kd th mc wn sd sp st tx rk rt rm2 rw2 row past pu pin rows kept)) : callok (d + 1) 138 0 0 [.ref 0, .int x, .int y] (mw (nI H) (nI R) dy sn ln po rh rr pn kn kd th mc wn sd sp st tx rk rt rm2 rw2 row past pu pin rows kept) Q := by
  subst hx hy
  unfold ttM at hQ
  refine beg rfl (gs [] ?_)
  refine Exists.intro (5 * a + b) (And.intro (j5 a b) (And.intro ⟨by omega, by omega⟩ ?_))
  have e1 : nI a = nI H - 1 ↔ a + 1 = H := by
    rw [nI_m1 (by omega)]
    constructor
    · intro z
      have := (nI_eq (by omega) (by omega)).mp z
      omega
    · intro z
      rw [← z]
      rfl
  refine br_c (fun c => ?_) (fun c => ?_)
  · rw [if_pos (Or.inl (e1.mp c))] at hQ
    exact fin0 (hQ)
  · have c' : ¬ a + 1 = H := fun z => c (e1.mpr z)
    refine Exists.intro (a) (And.intro (rfl) (And.intro ⟨by omega, by omega⟩ ?_))
    refine br_c (fun c2 => ?_) (fun c2 => ?_)
    · rw [hm a ha] at c2
      have c3 : M.testBit a = true := by
        by_cases q : M.testBit a = true
        · exact q
        · rw [if_neg q] at c2
          exact absurd c2 (by decide)
      rw [if_pos (Or.inr c3)] at hQ
      exact fin0 (hQ)
    · have c3 : ¬ M.testBit a = true := fun q => c2 (by rw [hm a ha, if_pos q]; rfl)
      rw [if_neg (fun z => z.elim c' c3)] at hQ
      have e5 : 5 * (nI a + 1) + nI b = nI (5 * (a + 1) + b) := by rw [nI_1 a, j5]
      refine Exists.intro (5 * (a + 1) + b) (And.intro (e5) (And.intro ⟨by omega, by omega⟩ ?_))
      refine Exists.intro (a) (And.intro (rfl) (And.intro ⟨by omega, by omega⟩ ?_))
      unfold nxT at hQ
      refine And.intro (fun c4 => ?_) (fun j t hj hx => ?_)
      · have k1 : ¬ kd a = 1 := fun z => by rw [z] at c4; exact absurd c4 (by decide)
        have k2 : ¬ kd a = 2 := fun z => by rw [z] at c4; exact absurd c4 (by decide)
        have k3 : ¬ kd a = 3 := fun z => by rw [z] at c4; exact absurd c4 (by decide)
        rw [if_neg k1, if_neg k2, if_neg k3] at hQ
        exact fin0 (hQ)
      · match j, hj, hx with
        | 0, hj, hx =>
          obtain rfl : 80 = t := Option.some.inj hj
          have k1 : kd a = 1 := Int32.toInt_inj.mp (by rw [hx]; decide)
          rw [if_neg (by rw [k1]; decide), if_pos k1, if_neg (by rw [k1]; decide)] at hQ
          unfold near at hQ
          refine br_c (fun c5 => ?_) (fun c5 => ?_)
          · rw [if_neg (fun z => by rw [z] at c5; exact Int32.lt_irrefl c5), if_pos c5] at hQ
            exact fin0 (hQ)
          · refine br_c (fun c6 => ?_) (fun c6 => ?_)
            · rw [if_neg (fun z => by rw [z] at c6; exact Int32.lt_irrefl c6), if_neg c5] at hQ
              exact fin0 (hQ)
            · rw [if_pos (Int32.le_antisymm (Int32.not_lt.mp c6) (Int32.not_lt.mp c5))] at hQ
              exact fin0 (hQ)
        | 1, hj, hx =>
          obtain rfl : 106 = t := Option.some.inj hj
          have k1 : kd a = 2 := Int32.toInt_inj.mp (by rw [hx]; decide)
          rw [if_pos k1, if_neg (by rw [k1]; decide)] at hQ
          exact fin0 (hQ)
        | 2, hj, hx =>
          obtain rfl : 112 = t := Option.some.inj hj
          have k1 : kd a = 3 := Int32.toInt_inj.mp (by rw [hx]; decide)
          rw [if_neg (by rw [k1]; decide), if_neg (by rw [k1]; decide), if_pos k1] at hQ
          have hr : rAf R b < R := by unfold rAf; split <;> omega
          have e6 : 5 * (nI a + 1) + (nI b + 1 - (nI b + 1) / nI R * nI R) = nI (5 * (a + 1) + rAf R b) := by
            rw [nI_1 a, nI_1 b, pk_rem (by omega) (by omega) (by omega), rAf_mod hb, j5]
          refine And.intro (fun z => absurd ((nI_eq (b := 0) (by omega) (by omega)).mp z) (by omega)) ?_
          refine Exists.intro (5 * (a + 1) + rAf R b) (And.intro (e6) (And.intro ⟨by omega, by omega⟩ ?_))
          exact fin0 (hQ)
        | j + 3, hj, hx => exact absurd hj (by simp)
end MO
