/-! The reference's boards: reaching, moves, sums. -/
theorem zq_6_1 : (zI 6 = 1) = False := eq_false (by decide)
theorem zq_6_2 : (zI 6 = 2) = False := eq_false (by decide)
theorem zq_6_3 : (zI 6 = 3) = False := eq_false (by decide)
theorem zq_6_4 : (zI 6 = 4) = False := eq_false (by decide)
theorem zq_6_5 : (zI 6 = 5) = False := eq_false (by decide)
theorem cc (W x y : Nat) : (x : Int) + (W : Int) * (y : Int) = ((x + W * y : Nat) : Int) := by simp only [Int.natCast_add, Int.natCast_mul]
section MC
variable {m : Mm} {r : Nat → Int} {W H : Nat}
theorem z_ad (t k : Nat) : zI (t : Int) + zI (k : Int) = zI ((t + k : Nat) : Int) := by rw [zI_add, Int.natCast_add]
end MC
