/-! Calls, one by one: boards. -/
section CA
variable {m : Mm} {r : Nat → Int} {W H n : Nat}
theorem sd01 {a : Int} (h : a = 0 ∨ a = 1) : ∃ s : Nat, s ≤ 1 ∧ a = (s : Int) := ⟨a.toNat, by omega, by omega⟩
theorem iG_a {s : Nat} (hs : s ≤ 1) : sh_r (23 + 1 + 5 * s) 0 = 23 + 1 + 5 * s + 1 ∧ fA (23 + 1 + 5 * s + 1) := ⟨(gA_b gA_23 hs).1, (gA_b gA_23 hs).2.2.1⟩
theorem t24 {s : Nat} : (24 : Int) + 64 * (s : Nat) = ((24 + 64 * s : Nat) : Int) := by omega
end CA
