/-! What is printed, in both. -/
section CM
variable {m : Mm} {r : Nat → Int} {W H n : Nat}
/-- the byte that a number leaves -/
def bt (x : Int32) : Int32 := x.toInt8.toInt32.toInt8.toInt32
/-- the class has printed l, the reference has -/
def OC (m m' : Mm) (l : List Int32) : Prop := (∀ a, a ≠ 20 → a ≠ 248 → m' a = m a) ∧ (∀ k, k ≠ 10 → m' 20 k = m 20 k) ∧ m' 20 10 = zI (l.length : Nat) ∧ ∀ i, i < l.length → m' 248 i = bt (l.getD i 0)
theorem OC.nil : OC m (wr m 20 10 0) [] := ⟨fun a h _ => wr_ne h, fun k hk => wr_nk hk, wr_eq, fun i hi => absurd hi (Nat.not_lt_zero i)⟩
theorem gd_app {l : List Int32} {x : Int32} {i : Nat} (hi : i < l.length + 1) : (l ++ [x]).getD i 0 = if i = l.length then x else l.getD i 0 := by
  by_cases h : i = l.length
  · subst h; rw [if_pos rfl]; simp
  · rw [if_neg h]; simp [List.getD, List.getElem?_append_left (show i < l.length by omega)]
end CM
