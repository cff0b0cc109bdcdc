/-! Calls: saveState, restoreState, undo. -/
section HE
variable {m m2 : Mm} {W H n : Nat} {r : Nat → Int}
theorem VL.mm (h : VL m) (e0 : m2 0 = m 0) (e1 : m2 1 = m 1) : VL m2 := by
  unfold VL; rw [e0, e1]; exact h
theorem TX.mm (h : TX m) (e : ∀ a, 3 ≤ a → a < 20 → m2 a = m a) : TX m2 := fun k hk i hi => by
  rw [e (3 + k) (by omega) (by omega)]; exact h k hk i hi
theorem k_r3' : sh_r 20 3 = 61 := k_r3
theorem and7m : ∀ x : Nat, x < 8 → (zI (x : Nat) - 1) &&& 7 = zI (((x + 7) % 8 : Nat) : Int) := by decide +kernel
end HE
