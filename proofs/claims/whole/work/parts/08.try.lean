/-! cells of a nursery at b -/
abbrev nc (b : Nat) (kd th wi : Nat → Int32) (hs rm mb dy : Int32) : List aC := [ao 2 [.ref (b + 1), .ref (b + 2), .ref (b + 3), .int hs, .int rm, .int mb, .int dy], ai 6 kd, ai 30 th, ai 5 wi]
theorem t_rooms {d : Nat} {kd th wi : Nat → Int32} {hs rm mb dy : Int32} {Q : Option Value → List aC → Prop} (hQ : Q (some (.int rm)) (nc 0 kd th wi hs rm mb dy)) : callok (d + 1) 26 0 0 [.ref 0] (nc 0 kd th wi hs rm mb dy) Q := by
  refine beg rfl ?_
  refine go 3 ?_
  show _ ∧ _ ∧ _
  exact ⟨rfl, Nat.le_refl _, hQ⟩
