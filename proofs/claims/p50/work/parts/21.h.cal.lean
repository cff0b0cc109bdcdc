/-! Calls, one by one: ranked. -/
section CI
variable {m : Mm} {r : Nat → Int} {W H n : Nat}
theorem wl_rg (b : Nat → Int) (s : Int) (l : List (Nat × Nat)) (i : Nat) : -1000 ≤ wl W H b s l i ∧ wl W H b s l i ≤ 1000 := by
  unfold wl pt
  rw [if_neg (by decide), if_neg (by decide), if_neg (by decide)]
  exact wo_r _ _ _ _ _ _ _ _
end CI
