/-! The reference's boards. -/
/-- a row with one number put -/
def rs (r : Nat → Int) (k : Nat) (v : Int) : Nat → Int := fun j => if j = k then v else r j
theorem rs_eq {r : Nat → Int} {k : Nat} {v : Int} : rs r k v k = v := if_pos rfl
theorem rs_ne {r : Nat → Int} {k j : Nat} {v : Int} (h : j ≠ k) : rs r k v j = r j := if_neg h
section MB
variable {m : Mm} {r : Nat → Int} {W H : Nat}
end MB
