/-! Calls, one by one: boards, on. -/
section CB
variable {m : Mm} {r : Nat → Int} {W H n : Nat}
abbrev inC (W H : Nat) (x y : Int) : Prop := 0 ≤ x ∧ x < W ∧ 0 ≤ y ∧ y < H
theorem c12 {x y : Int} (hx : 0 ≤ x) (hy : 0 ≤ y) : d_12 (zI x) (zI y) = some (zI ((x.toNat + 8 * y.toNat : Nat) : Int)) := by
  unfold d_12
  rw [zl_8, zI_mul, zI_add]
  exact congrArg some (congrArg zI (by omega))
end CB
