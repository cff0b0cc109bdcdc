/-! Calls, one by one: fogs and messages. -/
section CD
variable {m : Mm} {r : Nat → Int} {W H n : Nat}
theorem iG_o : oA 34 := (gA_F gA_23).2.2.2.2.2.2.2.1
theorem fogs_r : sh_r (sh_r 20 1) 2 = 34 := by decide +kernel
end CD
