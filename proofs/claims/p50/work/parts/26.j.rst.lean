/-! The reference's statements: numbers, fogs, semicolons. -/
section TJ
variable {m M : Mm} {L : Nat} {B : Nat → Int} {A A' : (Nat → Int) × (Nat → Int)} {W H : Nat}
theorem lv {A A' : (Nat → Int) × (Nat → Int)} (h : sk A A') (z : A'.1 2 = 0) : A.1 2 = 0 := by
  by_cases q : A.1 2 = 0
  · exact q
  · have := (h q).1
    omega
theorem aF_z {c o : Int} (hc : 1 ≤ c) : (aF c o A).1 2 ≠ 0 := by
  by_cases q : A.1 2 = 0
  · rw [(aF_v.2.2.1 q).1]; omega
  · rw [aF_v.2.2.2 q]; exact q
end TJ
