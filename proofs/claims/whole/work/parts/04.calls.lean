/-! new cells, ends, calls; what a pure method does the machine's method does -/
section SZ
variable {p : Program} {l : Launch} {e : Env} {R : Room} {s : State} {m : MethodId} {args : Array Value} {below : List Frame} {meth : Method} {c : Code} {D : va_G} {cI cN : ClassId} {ad ex : Nat → Nat} {n0 nL d c0 s0 : Nat} {A : Nat → Prop} {own : String} {cc : ByteArray} {ini : Bool} {K : aK} {h : List aC} {H : Heap} {locs : List Loc} {T : State}
theorem Rl.size (hr : Rl s D cI cN ad ex n0 A h c0 H locs) (F : FX p R s m args meth c D cI cN ad n0 A nL own cc ini K d) (hT : T.heap = H) (X : Stand p l e R s m args below meth c T locs c0 s0) : H.size + n0 = s.heap.size + h.length := by
  have h1 : H.size ≤ s.heap.size + c0 := by rw [← hT]; exact X.heapSize
  have h2 := hr.2.1
  have h3 := hr.2.2.1
  by_cases hc : c0 = 0
  · omega
  · have hk : h.length - 1 < h.length := by omega
    have h4 : ad (h.length - 1) < H.size := (hr.1 (h.length - 1) _ (wF_at (List.getElem?_eq_getElem hk))).lt
    have h5 := F.2.2.2.2.2.2.2.2.1 (h.length - 1) (by omega)
    omega
theorem Rl.push (hr : Rl s D cI cN ad ex n0 A h c0 H locs) {H1 : Heap} {x : aC} (hx : va_at D cls (ad h.length, tc cI cN ad ex x) H1) (z1 : H1.size = H.size + 1) (o1 : ∀ q, q < H.size → H1[q]? = H[q]?) : Rl s D cI cN ad ex n0 A (h ++ [x]) (c0 + 1) H1 locs := by
  refine ⟨fun k q hk => ?_, by rw [List.length_append]; have := hr.2.1; simp; omega, ⟨by have := hr.2.2.1; omega, fun q h1 h2 => (o1 q (Nat.lt_of_lt_of_le h1 hr.2.2.1)).trans (hr.2.2.2.1 q h1 h2), hr.2.2.2.2⟩⟩
  rw [wF_get] at hk
  obtain ⟨a, ha, rfl⟩ := Option.map_eq_some_iff.mp hk
  by_cases hl : k < h.length
  · rw [List.getElem?_append_left hl] at ha
    have h4 := hr.1 k _ (wF_at ha)
    exact h4.kept (o1 _ h4.lt)
  · rw [List.getElem?_append_right (by omega)] at ha
    have hz : k - h.length < 1 := (List.getElem?_eq_some_iff.mp ha).1
    have hk0 : k = h.length := by omega
    subst hk0
    rw [Nat.sub_self] at ha
    cases ha
    exact hx
end SZ
/-- what a class needs whose objects are made -/
def Cls (ci : Nat) (own : String) (idx N : Nat) (fs : List Value) : Prop := ∃ (C : String) (T : u_T) (ty0 : Nat → FieldType), cls[ci]? = some (C, T, N) ∧ Cond.classLink own idx C ∈ lw_tbl ∧ Cond.instantiable C N ∈ lw_tbl ∧ Cond.initialized C ∈ lw_tbl ∧ (∀ w ∈ u_ws C T N, w ∈ gtbl) ∧ (∀ k, k < N → parseFieldDescriptor (T k).2.2.1 = some (ty0 k)) ∧ (∀ j, j < N → defaultValue (ty0 j) = vp_V fs j) ∧ ∀ ad ex, fs.map (tv ad ex) = fs
theorem snd_new {own : String} {cc : ByteArray} {rt : Option FieldType} {ini : Bool} {pc ci idx N : Nat} {fs : List Value} (hc : Cls ci own idx N fs) (hd : decode cc pc = .ok (.new idx, 3)) : Snd own cc rt ini pc (i_new ci N fs) := by
  obtain ⟨C, T, ty0, f1, f2, f3, f4, f5, f6, f7, f8⟩ := hc
  intro p l e R s m args below meth c D cI cN ad ex n0 A nL Qw K Q d F hC hT lo st h c0 s0 w
  obtain ⟨w1, w2, w⟩ := w
  intro H locs ls hr hl T0 hT0 X
  have hz := hr.size F hT0 X
  have hKn := F.2.2.2.2.2.1.1 ci _ f1
  have h5 := F.2.2.2.2.2.2.2.2.2.2.2.2.2.2
  have had : ad h.length = H.size := by
    have h6 := hr.2.1
    have := F.2.2.2.2.2.2.2.2.1 h.length (by omega)
    omega
  suffices key : W p l e R s m args below meth c H locs c0 s0 Qw (F0 m pc ls (st.map (tv ad ex))) from key T0 hT0 X
  refine W.newcK F.1 F.2.1 F.2.2.2.1 (F.2.2.2.2.1 _ (gt_in f2 rfl)) (F.2.2.2.2.1 _ (gt_in f3 rfl)) (F.2.2.2.2.1 _ (gt_in f4 rfl)) rfl hd (Nat.le_trans w1 h5.1) (Nat.le_trans w2 h5.2) hKn.2.1 rfl (fun H1 kC hkC e1 z1 o1 => ?_)
  have w3 := w H1 locs ls (hr.push (x := ao ci fs) ⟨_, f1, (u_born ty0 F.2.2.2.2.1 f5 hKn hkC (by rw [had]; exact e1) f6).to (fun j hj => by rw [f7 j hj]; show _ = vp_V (fs.map (tv ad ex)) j; rw [f8])⟩ z1 o1) hl
  have e2 : (Value.ref h.length :: st).map (tv ad ex) = .ref H.size :: st.map (tv ad ex) := by rw [← had]; rfl
  rw [e2] at w3
  exact w3
theorem snd_newI {own : String} {cc : ByteArray} {rt : Option FieldType} {ini : Bool} {pc : Nat} (ha : Cond.arrayClass .int ∈ lw_tbl) (hd : decode cc pc = .ok (.newarray .int, 2)) : Snd own cc rt ini pc i_newI := by
  intro p l e R s m args below meth c D cI cN ad ex n0 A nL Qw K Q d F hC hT lo st h c0 s0 w
  unfold i_newI at w
  split at w
  · rename_i n t
    obtain ⟨k, rfl, w0, w1, w2, w⟩ := w
    intro H locs ls hr hl T0 hT0 X
    have hk0 : ¬ nI k < 0 := nI_pos (by omega)
    have hkc : (nI k).toNatClampNeg = k := nI_clamp (by omega)
    have hz := hr.size F hT0 X
    have h5 := F.2.2.2.2.2.2.2.2.2.2.2.2.2.2
    have had : ad h.length = H.size := by
      have h6 := hr.2.1
      have := F.2.2.2.2.2.2.2.2.1 h.length (by omega)
      omega
    suffices key : W p l e R s m args below meth c H locs c0 s0 Qw (F0 m pc ls (.int (nI k) :: t.map (tv ad ex))) from key T0 hT0 X
    refine va_newaK (atype := .int) F.1 F.2.1 (F.2.2.2.2.1 _ (gt_in ha rfl)) rfl hd rfl hk0 hkc (by show _ * 4 ≤ _; omega) (Nat.le_trans w1 h5.1) (Nat.le_trans w2 h5.2) rfl (fun H1 cA e1 z1 o1 hAr hNm => ?_)
    have hcA : cA = cI := Option.some.inj (hNm.symm.trans (F.2.2.2.2.2.1.2 0 _ rfl).2)
    subst hcA
    have w3 := w H1 locs ls (hr.push (x := ai k (fun _ => 0)) (by rw [had]; exact e1) z1 o1) hl
    have e2 : (Value.ref h.length :: t).map (tv ad ex) = .ref H.size :: t.map (tv ad ex) := by rw [← had]; rfl
    rw [e2] at w3
    exact w3
  · exact w.elim
theorem snd_newQ {own : String} {cc : ByteArray} {rt : Option FieldType} {ini : Bool} {pc idx : Nat} (ha : Cond.classLink own idx RX2 ∈ lw_tbl) (hd : decode cc pc = .ok (.anewarray idx, 3)) : Snd own cc rt ini pc i_newQ := by
  intro p l e R s m args below meth c D cI cN ad ex n0 A nL Qw K Q d F hC hT lo st h c0 s0 w
  unfold i_newQ at w
  split at w
  · rename_i n t
    obtain ⟨k, rfl, w0, w1, w2, w⟩ := w
    intro H locs ls hr hl T0 hT0 X
    have hk0 : ¬ nI k < 0 := nI_pos (by omega)
    have hkc : (nI k).toNatClampNeg = k := nI_clamp (by omega)
    have hz := hr.size F hT0 X
    have h5 := F.2.2.2.2.2.2.2.2.2.2.2.2.2.2
    have had : ad h.length = H.size := by
      have h6 := hr.2.1
      have := F.2.2.2.2.2.2.2.2.1 h.length (by omega)
      omega
    suffices key : W p l e R s m args below meth c H locs c0 s0 Qw (F0 m pc ls (.int (nI k) :: t.map (tv ad ex))) from key T0 hT0 X
    refine W.anew F.1 F.2.1 F.2.2.2.1 (F.2.2.2.2.1 _ (gt_in ha rfl)) (va_AO.use F.2.2.2.2.2.2.1.2) rfl hd rfl hk0 (by rw [hkc]; omega) (Nat.le_trans w1 h5.1) (by rw [hkc]; exact Nat.le_trans w2 h5.2) (fun cA kA comp g1 g2 g3 g4 => ?_)
    rw [hkc]
    obtain ⟨kA', comp', k1, k2, k3, k4⟩ := (F.2.2.2.2.2.1.2 1 _ rfl).2
    have hcA : cA = cN := Option.some.inj (g1.symm.trans k4)
    subst hcA
    have w3 := w _ locs ls (hr.push (H1 := H.push { cls := cA, slots := Array.replicate k .null, vm := .none }) (x := aq k (fun _ => none)) (by
      rw [had]
      show (H.push _)[H.size]? = some (vp_cell _ _)
      rw [Array.getElem?_push_size, vp_cell_q]
      exact congrArg some (arrV_new _ _ _)) (by simp) (fun q hq => by rw [Array.getElem?_push, if_neg (Nat.ne_of_lt hq)])) hl
    have e2 : (Value.ref h.length :: t).map (tv ad ex) = .ref H.size :: t.map (tv ad ex) := by rw [← had]; rfl
    rw [e2] at w3
    exact w3
  · exact w.elim
theorem snd_iret {own : String} {cc : ByteArray} {ini : Bool} {pc : Nat} (hd : decode cc pc = .ok (.ireturn, 1)) : Snd own cc (some .int) ini pc i_iret := by
  intro p l e R s m args below meth c D cI cN ad ex n0 A nL Qw K Q d F hC hT lo st h c0 s0 w
  unfold i_iret at w
  split at w
  · intro H locs ls hr hl
    exact hT.1 _ h c0 s0 H locs ls pc (Or.inl rfl) hd w hr
  · exact w.elim
theorem snd_zret {own : String} {cc : ByteArray} {ini : Bool} {pc : Nat} (hd : decode cc pc = .ok (.ireturn, 1)) : Snd own cc (some .boolean) ini pc i_zret := by
  intro p l e R s m args below meth c D cI cN ad ex n0 A nL Qw K Q d F hC hT lo st h c0 s0 w
  unfold i_zret at w
  split at w
  · intro H locs ls hr hl
    exact hT.1 _ h c0 s0 H locs ls pc (Or.inr ⟨rfl, w.1⟩) hd w.2 hr
  · exact w.elim
theorem snd_vret {own : String} {cc : ByteArray} {ini : Bool} {pc : Nat} (hd : decode cc pc = .ok (.return_, 1)) : Snd own cc none ini pc i_vret := by
  intro p l e R s m args below meth c D cI cN ad ex n0 A nL Qw K Q d F hC hT lo st h c0 s0 w
  unfold i_vret at w
  split at w
  · intro H locs ls hr hl
    exact hT.2.1 h c0 s0 H locs ls pc rfl hd w hr
  · exact w.elim
theorem snd_lret {own : String} {cc : ByteArray} {ini : Bool} {pc : Nat} (hd : decode cc pc = .ok (.lreturn, 1)) : Snd own cc (some .long) ini pc i_lret := by
  intro p l e R s m args below meth c D cI cN ad ex n0 A nL Qw K Q d F hC hT lo st h c0 s0 w
  unfold i_lret at w
  split at w
  · intro H locs ls hr hl
    exact hT.2.2 _ h c0 s0 H locs ls pc rfl hd w hr
  · exact w.elim
/-! what a callee's cells are in its caller's world -/
theorem rho_in {is : List Nat} {n j i : Nat} (h : is[j]? = some i) : rho is n j = i := by unfold rho; rw [h]
theorem rho_out {is : List Nat} {n j : Nat} (h : is.length ≤ j) : rho is n j = n + (j - is.length) := by unfold rho; rw [List.getElem?_eq_none h]
theorem rho_cons {i n j : Nat} {is : List Nat} : rho (i :: is) n (j + 1) = rho is n j := by
  unfold rho
  rw [List.getElem?_cons_succ, List.length_cons]
  cases is[j]? with
  | some x => rfl
  | none => show n + (j + 1 - (is.length + 1)) = n + (j - is.length); omega
theorem rho_inj {is : List Nat} {n : Nat} (hn : va_nd is = true) (hl : ∀ i ∈ is, i < n) : ∀ a b, rho is n a = rho is n b → a = b := by
  intro a b h
  rcases Nat.lt_or_ge a is.length with ha | ha <;> rcases Nat.lt_or_ge b is.length with hb | hb
  · have e1 := List.getElem?_eq_getElem ha
    have e2 := List.getElem?_eq_getElem hb
    rw [rho_in e1, rho_in e2] at h
    rw [h] at e1
    exact va_nd_inj is hn a b _ e1 e2
  · have e1 := List.getElem?_eq_getElem ha
    rw [rho_in e1, rho_out hb] at h
    have := hl _ (List.mem_of_getElem? e1)
    omega
  · have e2 := List.getElem?_eq_getElem hb
    rw [rho_in e2, rho_out ha] at h
    have := hl _ (List.mem_of_getElem? e2)
    omega
  · rw [rho_out ha, rho_out hb] at h
    omega
theorem put_len : ∀ (is : List Nat) (h cs : List aC), is.length ≤ cs.length → (put h is cs).length = h.length + (cs.length - is.length)
  | [], h, cs, _ => by simp [put]
  | i :: is, h, [], hl => by simp at hl
  | i :: is, h, c :: cs, hl => by
    rw [put, put_len is _ cs (by simpa using hl), List.length_set]
    simp
theorem put_get : ∀ (is : List Nat) (h cs : List aC) (k : Nat) (x : aC), is.length ≤ cs.length → (put h is cs)[k]? = some x → (∃ j, rho is h.length j = k ∧ cs[j]? = some x) ∨ (k < h.length ∧ h[k]? = some x ∧ k ∉ is)
  | [], h, cs, k, x, _, hk => by
    rw [put] at hk
    by_cases hl : k < h.length
    · rw [List.getElem?_append_left hl] at hk
      exact Or.inr ⟨hl, hk, List.not_mem_nil⟩
    · rw [List.getElem?_append_right (by omega)] at hk
      refine Or.inl ⟨k - h.length, ?_, hk⟩
      rw [rho_out (Nat.zero_le _)]
      simp
      omega
  | i :: is, h, [], k, x, hl, hk => by simp at hl
  | i :: is, h, c :: cs, k, x, hl, hk => by
    rw [put] at hk
    rcases put_get is (h.set i c) cs k x (by simpa using hl) hk with ⟨j, h1, h2⟩ | ⟨h1, h2, h3⟩
    · rw [List.length_set] at h1
      exact Or.inl ⟨j + 1, by rw [rho_cons]; exact h1, by rw [List.getElem?_cons_succ]; exact h2⟩
    · rw [List.length_set] at h1
      by_cases hki : k = i
      · subst hki
        rw [List.getElem?_set_self h1] at h2
        cases h2
        exact Or.inl ⟨0, rho_in rfl, rfl⟩
      · rw [List.getElem?_set_ne (Ne.symm hki)] at h2
        exact Or.inr ⟨h1, h2, fun z => (List.mem_cons.mp z).elim hki h3⟩
section CALL
variable {p : Program} {l : Launch} {e : Env} {R : Room} {s : State} {m : MethodId} {args : Array Value} {below : List Frame} {meth : Method} {c : Code} {D : va_G} {cI cN : ClassId} {ad ex : Nat → Nat} {n0 nL d c0 s0 : Nat} {A : Nat → Prop} {own : String} {cc : ByteArray} {ini : Bool} {K : aK} {h : List aC} {H : Heap} {locs : List Loc} {Qw : State → Prop} {ls : Array Slot} {lo : List (Option Value)} {st : List Value} {pc n mc ms : Nat} {is : List Nat} {av : List Value} {hc : List aC} {Qn : Option Value → List aC → Prop} {arr : Array Value}
theorem call_core (F : FX p R s m args meth c D cI cN ad n0 A nL own cc ini K d) (hr : Rl s D cI cN ad ex n0 A h c0 H locs) (hl : lvR ad ex ls nL lo) (hn : va_nd is = true) (hi : ∀ i ∈ is, i < h.length) (hcs : is.map (fun i => h[i]?) = hc.map (fun x => some (rc (rho is h.length) x)))
    (run : va_Run p l e R s m args below meth c H locs c0 s0 mc ms (F0 m pc ls (st.map (tv ad ex))) ((st.drop n).map (tv ad ex)) (QcA D cI cN (fun k => ad (rho is h.length k)) ex (hc.length + mc) Qn arr) (fun q => ∃ k, q = ad (rho is h.length k)))
    (w : ∀ v hc', Qn v hc' → Sm p l e R s m args below meth c D cI cN ad ex n0 A nL Qw (pc + 3) lo ((v.map (rv (rho is h.length))).toList ++ st.drop n) (put h is (hc'.map (rc (rho is h.length)))) (c0 + mc) (s0 + ms)) :
    W p l e R s m args below meth c H locs c0 s0 Qw (F0 m pc ls (st.map (tv ad ex))) := by
  intro T hT X
  obtain ⟨v, st₀, t, T', L, h0, X', hL, e1, e2, ⟨⟨v', hc', ho, hq, hlen, hP'⟩, hF⟩, go⟩ := run T hT X
  have hv : v = v'.map (tv (fun k => ad (rho is h.length k)) ex) := by cases ho; rfl
  subst hv
  have hisl : is.length = hc.length := by have := congrArg List.length hcs; simpa using this
  have hle : is.length ≤ (hc'.map (rc (rho is h.length))).length := by rw [List.length_map, hlen, hisl]; omega
  have hA := F.2.2.2.2.2.2.2.2.2.1
  have w2 := w v' hc' hq T'.heap (locs ++ L) ls ⟨fun k q hk => ?_, ?_, ?_⟩ hl
  · obtain ⟨t2, a1, b1⟩ := w2 T' rfl X'
    refine ⟨t2, go t2 ?_, b1⟩
    have es : (v'.map (tv (fun k => ad (rho is h.length k)) ex)).toList ++ (st.drop n).map (tv ad ex) = ((v'.map (rv (rho is h.length))).toList ++ st.drop n).map (tv ad ex) := by
      cases v' with
      | none => rfl
      | some x => simp [tv_comp]
    show Steps p.tables e below (T'.setTop (F0 m (pc + 3) ls ((v'.map (tv (fun k => ad (rho is h.length k)) ex)).toList ++ (st.drop n).map (tv ad ex)))) t2
    rw [es]
    exact a1
  · rw [wF_get] at hk
    obtain ⟨x, hx, rfl⟩ := Option.map_eq_some_iff.mp hk
    rcases put_get is h _ k x hle hx with ⟨j, g1, g2⟩ | ⟨g1, g2, g3⟩
    · rw [List.getElem?_map] at g2
      obtain ⟨x', hx', rfl⟩ := Option.map_eq_some_iff.mp g2
      have h4 := hP' j _ (wF_at hx')
      rw [tc_comp] at h4
      rw [← g1, e1]
      exact h4
    · have h4 := hr.1 k _ (wF_at g2)
      refine h4.kept ?_
      rw [e1]
      show t.heap[ad k]? = H[ad k]?
      rw [hF.2 (ad k) (by rw [h0]; exact h4.lt) (fun ⟨j, hj⟩ => ?_), h0]
      have hkj := F.2.2.2.2.2.2.2.1 _ _ hj
      rcases Nat.lt_or_ge j is.length with hj1 | hj1
      · rw [rho_in (List.getElem?_eq_getElem hj1)] at hkj
        exact g3 (by rw [hkj]; exact List.getElem_mem hj1)
      · rw [rho_out hj1] at hkj
        omega
  · rw [put_len is h _ hle, List.length_map, hlen, hr.2.1, hisl]
    omega
  · refine ⟨?_, fun q g1 g2 => ?_, fun q hq => ?_⟩
    · rw [e1]
      have h5 := hF.1
      rw [h0] at h5
      exact Nat.le_trans hr.2.2.1 h5
    · rw [e1, hF.2 q (by rw [h0]; exact Nat.lt_of_lt_of_le g1 hr.2.2.1) (fun ⟨j, hj⟩ => g2 (by rw [hj]; exact hA _)), h0]
      exact hr.2.2.2.1 q g1 g2
    · rcases List.mem_append.mp hq with g | g
      · exact hr.2.2.2.2 q g
      · obtain ⟨k, hk⟩ := hL q g
        rw [hk]
        exact hA _
/-- the callee's start -/
theorem call_pre (F : FX p R s m args meth c D cI cN ad n0 A nL own cc ini K d) (hr : Rl s D cI cN ad ex n0 A h c0 H locs) (hcs : is.map (fun i => h[i]?) = hc.map (fun x => some (rc (rho is h.length) x))) : PreS s H (PcA D cI cN (fun k => ad (rho is h.length k)) ex H.size av hc) (av.map (tv (fun k => ad (rho is h.length k)) ex)) := by
  refine ⟨fun a U g mk q => ⟨q.1, q.2.1, q.2.2.1, va_K.moved (u := U) (U := U.calling g mk a) (Vm.Alike.refl U.vm) q.2.2.2.1, XF.same (s := U) (U := U.calling g mk a) rfl q.2.2.2.2⟩, fun U hU hW => ⟨rfl, by rw [hU], ?_, va_K.moved hW.alike F.2.2.2.2.2.1, XF.warm hW F.2.2.2.2.2.2.1⟩⟩
  rw [hU]
  intro j q hj
  rw [wF_get] at hj
  obtain ⟨x, hx, rfl⟩ := Option.map_eq_some_iff.mp hj
  have e1 : (is.map (fun i => h[i]?))[j]? = some (some (rc (rho is h.length) x)) := by rw [hcs, List.getElem?_map, hx]; rfl
  rw [List.getElem?_map] at e1
  obtain ⟨i, hi, e2⟩ := Option.map_eq_some_iff.mp e1
  have h4 := hr.1 i _ (wF_at e2)
  rw [← tc_comp, ← rho_in (n := h.length) hi] at h4
  exact h4
theorem call_new (F : FX p R s m args meth c D cI cN ad n0 A nL own cc ini K d) (hr : Rl s D cI cN ad ex n0 A h c0 H locs) (hz : H.size + n0 = s.heap.size + h.length) (hisl : is.length = hc.length) : ∀ k, hc.length ≤ k → ad (rho is h.length k) + hc.length = H.size + k := by
  intro k hk
  rw [rho_out (by omega)]
  have h2 := hr.2.1
  have := F.2.2.2.2.2.2.2.2.1 (h.length + (k - is.length)) (by omega)
  omega
theorem call_stack (h1 : st.take n = (av.map (rv (rho is h.length))).reverse) : st.map (tv ad ex) = (av.map (tv (fun k => ad (rho is h.length k)) ex)).reverse ++ (st.drop n).map (tv ad ex) := by
  have e1 : st = st.take n ++ st.drop n := (List.take_append_drop n st).symm
  conv => lhs; rw [e1]
  rw [List.map_append, h1, ← List.map_reverse, List.map_map, ← List.map_reverse]
  congr 1
  exact List.map_congr_left (fun v _ => (tv_comp ad ex (rho is h.length) v).symm)
end CALL
theorem gi {ws : List Cond} (h : ∀ w ∈ ws, w ∈ gtbl) : GoodIn gtbl ws := fun w hw => ⟨h w hw, good_of_word (gt_good (h w hw))⟩
theorem mws_in {y : Nat} (h : Cond.code (mt y).1 (mt y).2.1 (mt y).2.2.1 (mt y).2.2.2 ∈ lw_tbl) : ∀ w ∈ mws y, w ∈ gtbl := fun w hw => (List.mem_cons.mp hw).elim (fun e => by rw [e]; exact gt_in h rfl) (fun z => z)
/-- what a method needs to be called: its words, its locals, its values -/
def MOK (y n : Nat) : Prop := Cond.code (mt y).1 (mt y).2.1 (mt y).2.2.1 (mt y).2.2.2 ∈ lw_tbl ∧ Cond.initialized (mt y).1.cls ∈ lw_tbl ∧ (mt y).2.2.1 ≤ 21 ∧ (mt y).1.cls ≠ "java/lang/invoke/MethodHandle" ∧ (mt y).1.cls ≠ "java/lang/invoke/VarHandle" ∧ (parseMethodDescriptor (mt y).1.desc).map (fun d => d.parameters.length) = some n
theorem snd_callV {own : String} {cc : ByteArray} {rt : Option FieldType} {ini : Bool} {pc y n ci idx : Nat} {q : vw_C} (hy : MOK y n) (h1 : Cond.methodLink own idx (mt y).1 ∈ lw_tbl) (h2 : Cond.instanceMethod (mt y).1 ∈ lw_tbl) (h3 : Cond.selects (mt y).1.cls (mt y).1 (mt y).1 ∈ lw_tbl) (h4 : cls[ci]? = some q) (h5 : q.1 = (mt y).1.cls) (hd : decode cc pc = .ok (.invokevirtual idx, 3)) : Snd own cc rt ini pc (i_callV y (n + 1) ci) := by
  intro p l e R s m args below meth c D cI cN ad ex n0 A nL Qw K Q d F hC hT lo st h c0 s0 w
  obtain ⟨is, av, hc, mc, ms, ⟨g1, g2, g3, g4, g5, g6, r, fs, g7, g8⟩, w1, w2, w⟩ := w
  obtain ⟨y1, y2, y3, y4, y5, y6⟩ := hy
  have g5 : ∀ i ∈ is, i < h.length := fun i hi => by simpa using List.all_eq_true.mp g5 i hi
  intro H locs ls hr hl T0 hT0 X
  have hz := hr.size F hT0 X
  have hF := F.2.2.2.2.2.2.2.2.2.2.2.2
  have hisl : is.length = hc.length := by have := congrArg List.length g6; simpa using this
  have hM := hC y mc ms av hc _ w (fun k => ad (rho is h.length k)) H.size (fun i j z => rho_inj g4 g5 i j (F.2.2.2.2.2.2.2.1 _ _ z)) (call_new F hr hz hisl)
  obtain ⟨av', rfl⟩ : ∃ av', av = .ref r :: av' := by
    cases av with
    | nil => cases g7
    | cons v t => cases g7; exact ⟨t, rfl⟩
  have hpre := call_pre (av := .ref r :: av') F hr g6
  have hrec : ∃ cell : Cell, H[ad (rho is h.length r)]? = some cell ∧ cell.vm.isStatics = false ∧ s.vm.findClass (mt y).1.cls = some cell.cls := by
    rw [← h5]
    exact va_recv (ws := wF cI cN (fun k => ad (rho is h.length k)) ex hc) F.2.2.2.2.2.1 (by have := (call_pre (av := []) F hr g6); exact (this.2 T0 hT0 X.warmed).2.2.1 |> fun z => by rw [hT0] at z; exact z) h4 (wF_at g8)
  refine call_core (n := n + 1) F hr hl g4 g5 g6 (va_runV (As := av'.map (tv (fun k => ad (rho is h.length k)) ex)) ⟨F.1, F.2.1, F.2.2.1, F.2.2.2.1, F.2.2.2.2.1⟩ hM (cwV n F.2.2.2.2.1 (gi (fun w hw => ?_)) rfl rfl rfl ⟨rfl, y4, y5, y6⟩ ⟨hF.1, ?_⟩) ⟨hpre.1, hrec, hpre.2⟩ rfl (by rw [List.length_map]; simpa using g2) hl.2.1 ?_ ?_ hd ⟨Nat.le_trans w1 hF.2.2.1, Nat.le_trans w2 hF.2.2.2⟩) (fun v hc' z => z) T0 hT0 X
  · rcases List.mem_append.mp hw with z | z
    · simp only [List.mem_cons, List.not_mem_nil, or_false] at z
      rcases z with rfl | rfl | rfl | rfl
      · exact gt_in h1 rfl
      · exact gt_in h2 rfl
      · exact gt_in h3 rfl
      · exact gt_in y2 rfl
    · exact mws_in y1 w z
  · show 8 + ((mt y).2.2.1 + 11) + 40 * d ≤ R.locals
    omega
  · have e9 := call_stack (ad := ad) (ex := ex) g1
    show st.map (tv ad ex) = _
    rw [e9]
    simp [tv]
  · show 2 * 0 + _ ≤ 8
    rw [cats_tv]
    omega
theorem snd_callS {own : String} {cc : ByteArray} {rt : Option FieldType} {ini : Bool} {pc y n idx : Nat} (hy : MOK y n) (h1 : Cond.methodLink own idx (mt y).1 ∈ lw_tbl) (h2 : Cond.static (mt y).1 ∈ lw_tbl) (hd : decode cc pc = .ok (.invokestatic idx, 3)) : Snd own cc rt ini pc (i_callS y n) := by
  intro p l e R s m args below meth c D cI cN ad ex n0 A nL Qw K Q d F hC hT lo st h c0 s0 w
  obtain ⟨is, av, hc, mc, ms, ⟨g1, g2, g3, g4, g5, g6, -⟩, w1, w2, w⟩ := w
  obtain ⟨y1, y2, y3, y4, y5, y6⟩ := hy
  have g5 : ∀ i ∈ is, i < h.length := fun i hi => by simpa using List.all_eq_true.mp g5 i hi
  intro H locs ls hr hl T0 hT0 X
  have hz := hr.size F hT0 X
  have hF := F.2.2.2.2.2.2.2.2.2.2.2.2
  have hisl : is.length = hc.length := by have := congrArg List.length g6; simpa using this
  have hM := hC y mc ms av hc _ w (fun k => ad (rho is h.length k)) H.size (fun i j z => rho_inj g4 g5 i j (F.2.2.2.2.2.2.2.1 _ _ z)) (call_new F hr hz hisl)
  refine call_core (n := n) F hr hl g4 g5 g6 (va_runS (As := av.map (tv (fun k => ad (rho is h.length k)) ex)) ⟨F.1, F.2.1, F.2.2.1, F.2.2.2.1, F.2.2.2.2.1⟩ hM (va_cwS n F.2.2.2.2.1 (gi (fun w hw => ?_)) rfl rfl rfl ⟨y4, y5, y6⟩ ⟨hF.1, ?_⟩) (call_pre F hr g6) rfl (by rw [List.length_map]; exact g2) hl.2.1 (call_stack g1) ?_ hd ⟨Nat.le_trans w1 hF.2.2.1, Nat.le_trans w2 hF.2.2.2⟩) (fun v hc' z => z) T0 hT0 X
  · rcases List.mem_append.mp hw with z | z
    · simp only [List.mem_cons, List.not_mem_nil, or_false] at z
      rcases z with rfl | rfl | rfl
      · exact gt_in h1 rfl
      · exact gt_in h2 rfl
      · exact gt_in y2 rfl
    · exact mws_in y1 w z
  · show 8 + ((mt y).2.2.1 + 11) + 40 * d ≤ R.locals
    omega
  · show 2 * 0 + _ ≤ 8
    rw [cats_tv]
    omega
theorem snd_callSN {own : String} {cc : ByteArray} {rt : Option FieldType} {ini : Bool} {pc y n idx : Nat} {host : String} (hy : MOK y n) (h1 : (own, idx, (mt y).1, host) ∈ nestL) (h2 : Cond.static (mt y).1 ∈ lw_tbl) (hd : decode cc pc = .ok (.invokestatic idx, 3)) : Snd own cc rt ini pc (i_callS y n) := by
  intro p l e R s m args below meth c D cI cN ad ex n0 A nL Qw K Q d F hC hT lo st h c0 s0 w
  obtain ⟨is, av, hc, mc, ms, ⟨g1, g2, g3, g4, g5, g6, -⟩, w1, w2, w⟩ := w
  obtain ⟨y1, y2, y3, y4, y5, y6⟩ := hy
  have g5 : ∀ i ∈ is, i < h.length := fun i hi => by simpa using List.all_eq_true.mp g5 i hi
  intro H locs ls hr hl T0 hT0 X
  have hz := hr.size F hT0 X
  have hF := F.2.2.2.2.2.2.2.2.2.2.2.2
  have hisl : is.length = hc.length := by have := congrArg List.length g6; simpa using this
  have hM := hC y mc ms av hc _ w (fun k => ad (rho is h.length k)) H.size (fun i j z => rho_inj g4 g5 i j (F.2.2.2.2.2.2.2.1 _ _ z)) (call_new F hr hz hisl)
  refine call_core (n := n) F hr hl g4 g5 g6 (va_runSN (host := host) (As := av.map (tv (fun k => ad (rho is h.length k)) ex)) ⟨F.1, F.2.1, F.2.2.1, F.2.2.2.1, F.2.2.2.2.1⟩ hM ⟨va_cnB n F.2.2.2.2.1 (gi (mws_in y1)) rfl rfl rfl (F.2.2.2.2.2.2.1.1 _ h1) (F.2.2.2.2.1 _ (gt_in y2 rfl)) ⟨y4, y5, y6⟩ ⟨hF.1, ?_⟩, F.2.2.2.2.1 _ (gt_in h2 rfl), trivial⟩ (call_pre F hr g6) rfl (by rw [List.length_map]; exact g2) hl.2.1 (call_stack g1) ?_ hd ⟨Nat.le_trans w1 hF.2.2.1, Nat.le_trans w2 hF.2.2.2⟩) (fun v hc' z => z) T0 hT0 X
  · show 8 + ((mt y).2.2.1 + 11) + 40 * d ≤ R.locals
    omega
  · show 2 * 0 + _ ≤ 8
    rw [cats_tv]
    omega
theorem snd_callI {own : String} {cc : ByteArray} {rt : Option FieldType} {ini : Bool} {pc y n idx : Nat} (h1 : Cond.methodLink own idx (mt y).1 ∈ lw_tbl) (hy : MOK y n) (h2 : Cond.instanceMethod (mt y).1 ∈ lw_tbl) (h3 : (mt y).1.name = "<init>") (h4 : (mt y).2.2.2 = none) (hd : decode cc pc = .ok (.invokespecial idx, 3)) : Snd own cc rt ini pc (i_callI y (n + 1)) := by
  intro p l e R s m args below meth c D cI cN ad ex n0 A nL Qw K Q d F hC hT lo st h c0 s0 w
  obtain ⟨is, av, hc, mc, ms, ⟨g1, g2, g3, g4, g5, g6, r, g7⟩, w1, w2, w⟩ := w
  obtain ⟨y1, y2, y3, y4, y5, y6⟩ := hy
  have g5 : ∀ i ∈ is, i < h.length := fun i hi => by simpa using List.all_eq_true.mp g5 i hi
  intro H locs ls hr hl T0 hT0 X
  have hz := hr.size F hT0 X
  have hF := F.2.2.2.2.2.2.2.2.2.2.2.2
  have hisl : is.length = hc.length := by have := congrArg List.length g6; simpa using this
  have hM := hC y mc ms av hc _ w (fun k => ad (rho is h.length k)) H.size (fun i j z => rho_inj g4 g5 i j (F.2.2.2.2.2.2.2.1 _ _ z)) (call_new F hr hz hisl)
  obtain ⟨av', rfl⟩ : ∃ av', av = .ref r :: av' := by
    cases av with
    | nil => cases g7
    | cons v t => cases g7; exact ⟨t, rfl⟩
  refine call_core (n := n + 1) F hr hl g4 g5 g6 (va_runI (b := ad (rho is h.length r)) (As := av'.map (tv (fun k => ad (rho is h.length k)) ex)) (maxL := (mt y).2.2.1) (bytes := (mt y).2.1) ⟨F.1, F.2.1, F.2.2.1, F.2.2.2.1, F.2.2.2.2.1⟩ hM (cwI n F.2.2.2.2.1 (gi (mws_in y1)) (by show mws y = _; rw [← h4]) rfl rfl (F.2.2.2.2.1 _ (gt_in y2 rfl)) (F.2.2.2.2.1 _ (gt_in h1 rfl)) (F.2.2.2.2.1 _ (gt_in h2 rfl)) h3 ⟨y4, y5, y6⟩ ⟨hF.1, ?_⟩) (call_pre (av := .ref r :: av') F hr g6) rfl (by rw [List.length_map]; simpa using g2) hl.2.1 ?_ ?_ hd ⟨Nat.le_trans w1 hF.2.2.1, Nat.le_trans w2 hF.2.2.2⟩) (fun v hc' z => z) T0 hT0 X
  · show 8 + ((mt y).2.2.1 + 11) + 40 * d ≤ R.locals
    omega
  · have e9 := call_stack (ad := ad) (ex := ex) g1
    show st.map (tv ad ex) = _
    rw [e9]
    simp [tv]
  · show 2 * 0 + _ ≤ 8
    rw [cats_tv]
    omega
theorem snd_callIN {own : String} {cc : ByteArray} {rt : Option FieldType} {ini : Bool} {pc y n idx : Nat} {host : String} (h1 : (own, idx, (mt y).1, host) ∈ nestL) (hy : MOK y n) (h2 : Cond.instanceMethod (mt y).1 ∈ lw_tbl) (h3 : (mt y).1.name = "<init>") (h4 : (mt y).2.2.2 = none) (hd : decode cc pc = .ok (.invokespecial idx, 3)) : Snd own cc rt ini pc (i_callI y (n + 1)) := by
  intro p l e R s m args below meth c D cI cN ad ex n0 A nL Qw K Q d F hC hT lo st h c0 s0 w
  obtain ⟨is, av, hc, mc, ms, ⟨g1, g2, g3, g4, g5, g6, r, g7⟩, w1, w2, w⟩ := w
  obtain ⟨y1, y2, y3, y4, y5, y6⟩ := hy
  have g5 : ∀ i ∈ is, i < h.length := fun i hi => by simpa using List.all_eq_true.mp g5 i hi
  intro H locs ls hr hl T0 hT0 X
  have hz := hr.size F hT0 X
  have hF := F.2.2.2.2.2.2.2.2.2.2.2.2
  have hisl : is.length = hc.length := by have := congrArg List.length g6; simpa using this
  have hM := hC y mc ms av hc _ w (fun k => ad (rho is h.length k)) H.size (fun i j z => rho_inj g4 g5 i j (F.2.2.2.2.2.2.2.1 _ _ z)) (call_new F hr hz hisl)
  obtain ⟨av', rfl⟩ : ∃ av', av = .ref r :: av' := by
    cases av with
    | nil => cases g7
    | cons v t => cases g7; exact ⟨t, rfl⟩
  refine call_core (n := n + 1) F hr hl g4 g5 g6 (va_runIN (host := host) (b := ad (rho is h.length r)) (As := av'.map (tv (fun k => ad (rho is h.length k)) ex)) (maxL := (mt y).2.2.1) (bytes := (mt y).2.1) ⟨F.1, F.2.1, F.2.2.1, F.2.2.2.1, F.2.2.2.2.1⟩ hM ⟨va_cnB n F.2.2.2.2.1 (gi (mws_in y1)) (by show mws y = _; rw [← h4]) rfl rfl (F.2.2.2.2.2.2.1.1 _ h1) (F.2.2.2.2.1 _ (gt_in y2 rfl)) ⟨y4, y5, y6⟩ ⟨hF.1, ?_⟩, h3, F.2.2.2.2.1 _ (gt_in h2 rfl)⟩ (call_pre (av := .ref r :: av') F hr g6) rfl (by rw [List.length_map]; simpa using g2) hl.2.1 ?_ ?_ hd ⟨Nat.le_trans w1 hF.2.2.1, Nat.le_trans w2 hF.2.2.2⟩) (fun v hc' z => z) T0 hT0 X
  · show 8 + ((mt y).2.2.1 + 11) + 40 * d ≤ R.locals
    omega
  · have e9 := call_stack (ad := ad) (ex := ex) g1
    show st.map (tv ad ex) = _
    rw [e9]
    simp [tv]
  · show 2 * 0 + _ ≤ 8
    rw [cats_tv]
    omega
/-! a method's start; the calls by depth -/
def argL : List Value → List (Option Value)
  | [] => []
  | .long x :: t => some (.long x) :: none :: argL t
  | .double x :: t => some (.double x) :: none :: argL t
  | v :: t => some v :: argL t
def entryL (n : Nat) (av : List Value) : List (Option Value) := argL av ++ List.replicate (n - (argL av).length) none
theorem argL_len (ad ex : Nat → Nat) : ∀ av : List Value, (lg_sl (av.map (tv ad ex))).length = (argL av).length
  | [] => rfl
  | v :: t => by
    have ih := argL_len ad ex t
    cases v <;> simp [lg_sl, argL, tv, Value.category] at ih ⊢ <;> omega
theorem argL_mem (ad ex : Nat → Nat) : ∀ (av : List Value) (k i : Nat) (v : Value), (argL av)[i]? = some (some v) → (k + i, tv ad ex v) ∈ lv_args k (av.map (tv ad ex))
  | [], k, i, v, h => by simp [argL] at h
  | u :: t, k, i, v, h => by
    have two : ∀ x : Value, x.category = 2 → argL (x :: t) = some x :: none :: argL t → argL (u :: t) = argL (x :: t) → u = x → (k + i, tv ad ex v) ∈ lv_args k ((u :: t).map (tv ad ex)) := by
      intro x hx e1 e2 e3
      subst e3
      rw [e1] at h
      rw [List.map_cons, lv_args, if_pos (by rw [cat_tv]; exact hx)]
      match i, h with
      | 0, h => cases h; exact List.mem_cons_self
      | 1, h => cases h
      | j + 2, h =>
        have := argL_mem ad ex t (k + 2) j v h
        rw [show k + (j + 2) = k + 2 + j by omega]
        exact List.mem_cons_of_mem _ this
    have one : u.category ≠ 2 → argL (u :: t) = some u :: argL t → (k + i, tv ad ex v) ∈ lv_args k ((u :: t).map (tv ad ex)) := by
      intro hx e1
      rw [e1] at h
      rw [List.map_cons, lv_args, if_neg (by rw [cat_tv]; exact hx)]
      match i, h with
      | 0, h => cases h; exact List.mem_cons_self
      | j + 1, h =>
        have := argL_mem ad ex t (k + 1) j v h
        rw [show k + (j + 1) = k + 1 + j by omega]
        exact List.mem_cons_of_mem _ this
    cases u with
    | long x => exact two (.long x) rfl rfl rfl rfl
    | double x => exact two (.double x) rfl rfl rfl rfl
    | int x => exact one (fun z => by cases z) rfl
    | float x => exact one (fun z => by cases z) rfl
    | null => exact one (by decide) rfl
    | ref x => exact one (fun z => by cases z) rfl
    | retAddr x => exact one (fun z => by cases z) rfl
theorem entry_lv {ad ex : Nat → Nat} {n : Nat} {av : List Value} (h : (argL av).length ≤ n) : lvR ad ex ((lg_sl (av.map (tv ad ex)) ++ List.replicate (n - (lg_sl (av.map (tv ad ex))).length) Slot.unset).toArray) n (entryL n av) := by
  have h1 := lv_entry (av.map (tv ad ex)) (n := n) (by rw [argL_len]; exact h)
  refine ⟨by simp [entryL]; omega, h1.1, h1.2.1, fun i v hi => ?_⟩
  unfold entryL at hi
  by_cases hl : i < (argL av).length
  · rw [List.getElem?_append_left hl] at hi
    have := argL_mem ad ex av 0 i v hi
    rw [Nat.zero_add] at this
    exact h1.2.2 _ this
  · rw [List.getElem?_append_right (by omega), List.getElem?_replicate] at hi
    split at hi <;> cases hi
