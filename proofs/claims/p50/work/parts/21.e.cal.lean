/-! Calls, one by one: what a message would be. -/
section CE
variable {m : Mm} {r : Nat → Int} {W H n : Nat}
def inR (z : Int) : Prop := -2147483648 ≤ z ∧ z ≤ 2147483647
/-- whose move it is -/
def tS (r : Nat → Int) : Nat := (r 3).toNat
theorem fG_r (s x y X Y k : Nat) (hx : x < 8) (hy : y < 8) (hX : X < 8) (hY : Y < 8) : fG r s x y X Y k ≤ 9 := fG_le hx hy hX hY k
end CE
