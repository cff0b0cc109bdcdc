/-! Small numbers by their naturals. -/
theorem z1n : (1 : Int32) = zI ((1 : Nat) : Int) := (Eq.refl (1 : Int32)).trans rfl
theorem z2n : (2 : Int32) = zI ((2 : Nat) : Int) := (Eq.refl (2 : Int32)).trans rfl
theorem z3n : (3 : Int32) = zI ((3 : Nat) : Int) := (Eq.refl (3 : Int32)).trans rfl
theorem z4n : (4 : Int32) = zI ((4 : Nat) : Int) := (Eq.refl (4 : Int32)).trans rfl
theorem z5n : (5 : Int32) = zI ((5 : Nat) : Int) := (Eq.refl (5 : Int32)).trans rfl
theorem z6n : (6 : Int32) = zI ((6 : Nat) : Int) := (Eq.refl (6 : Int32)).trans rfl
