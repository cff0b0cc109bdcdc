/-! A sending, by the reference. -/
section MY
variable {m : Mm} {W H : Nat} {r : Nat → Int}
theorem rs8 {b : Nat} {v : Nat → Int} {k : Nat} : rs (rs (rs (rs (rs (rs (rs (rs r (b + 0) (v 0)) (b + 1) (v 1)) (b + 2) (v 2)) (b + 3) (v 3)) (b + 4) (v 4)) (b + 5) (v 5)) (b + 6) (v 6)) (b + 7) (v 7) k = if b ≤ k ∧ k < b + 8 then v (k - b) else r k := by
  by_cases h : b ≤ k ∧ k < b + 8
  · rw [if_pos h]
    have : k = b + 0 ∨ k = b + 1 ∨ k = b + 2 ∨ k = b + 3 ∨ k = b + 4 ∨ k = b + 5 ∨ k = b + 6 ∨ k = b + 7 := by omega
    rcases this with rfl | rfl | rfl | rfl | rfl | rfl | rfl | rfl
    · rw [rs_ne (by omega), rs_ne (by omega), rs_ne (by omega), rs_ne (by omega), rs_ne (by omega), rs_ne (by omega), rs_ne (by omega)]
      exact rs_eq.trans (congrArg v (by omega))
    · rw [rs_ne (by omega), rs_ne (by omega), rs_ne (by omega), rs_ne (by omega), rs_ne (by omega), rs_ne (by omega), rs_eq, show b + 1 - b = 1 by omega]
    · rw [rs_ne (by omega), rs_ne (by omega), rs_ne (by omega), rs_ne (by omega), rs_ne (by omega), rs_eq, show b + 2 - b = 2 by omega]
    · rw [rs_ne (by omega), rs_ne (by omega), rs_ne (by omega), rs_ne (by omega), rs_eq, show b + 3 - b = 3 by omega]
    · rw [rs_ne (by omega), rs_ne (by omega), rs_ne (by omega), rs_eq, show b + 4 - b = 4 by omega]
    · rw [rs_ne (by omega), rs_ne (by omega), rs_eq, show b + 5 - b = 5 by omega]
    · rw [rs_ne (by omega), rs_eq, show b + 6 - b = 6 by omega]
    · rw [rs_eq, show b + 7 - b = 7 by omega]
  · rw [if_neg h, rs_ne (by omega), rs_ne (by omega), rs_ne (by omega), rs_ne (by omega), rs_ne (by omega), rs_ne (by omega), rs_ne (by omega), rs_ne (by omega)]
theorem z_a1 {k j : Nat} {x : Int32} (hx : x = zI ((j : Nat) : Int)) : zI ((k : Nat) : Int) + x = zI ((k + j : Nat) : Int) := by rw [hx]; exact z_ad k j
end MY
