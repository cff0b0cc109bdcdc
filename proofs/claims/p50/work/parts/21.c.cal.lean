/-! Calls, one by one: lists of moves. -/
section CC
variable {m : Mm} {r : Nat → Int} {W H n : Nat}
theorem ml_837 {b : Nat → Int} (hw : WH W H) (hb : BG W H b) {s : Int} (h : s = 0 ∨ s = 1) : (ml W H b s).length ≤ 837 := by
  have k := ml_27 hw (b := b) (s := s)
  obtain ⟨-, -, h0, h1⟩ := hb
  rcases h with rfl | rfl <;> omega
end CC
