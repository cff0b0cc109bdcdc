/-! What the reference changes in its row. -/
section MX
variable {m : Mm} {W H : Nat} {r : Nat → Int}
theorem rmv_at {t c d k : Nat} {v : Int} (hcd : c ≠ d) : rmv r t c d v k = if k = t + d then v else if k = t + c then 0 else r k := by
  unfold rmv rs
  by_cases q1 : k = t + d
  · rw [if_neg (by omega), if_pos q1, if_pos q1]
  · rw [if_neg q1, if_neg q1]
/-- the end of a change of a board -/
theorem bfl {α : Type} (a b : α) : (if false = true then a else b) = b := if_neg Bool.false_ne_true
theorem btr {α : Type} (a b : α) : (if true = true then a else b) = a := if_pos rfl
end MX
