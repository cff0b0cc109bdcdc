/-! Calls that change the game: settle, dropFog. -/
section HH
variable {m : Mm} {W H n : Nat} {r : Nat → Int}
/-- the board t as the board s -/
def rst (r : Nat → Int) (s t : Nat) : Nat → Int := fun k => if 24 + 64 * t ≤ k ∧ k < 88 + 64 * t then r (24 + 64 * s + (k - (24 + 64 * t))) else if 152 + 64 * t ≤ k ∧ k < 216 + 64 * t then r (152 + 64 * s + (k - (152 + 64 * t))) else if k = 9 + t then r (9 + s) else if k = 17 + t then r (17 + s) else if k = 19 + t then r (19 + s) else if k = 21 + t then r (21 + s) else r k
theorem rst_n {s t j : Nat} (hj : ¬ pB t j) : rst r s t j = r j := by
  unfold rst
  unfold pB at hj
  rw [if_neg (by omega), if_neg (by omega), if_neg (by omega), if_neg (by omega), if_neg (by omega), if_neg (by omega)]
theorem rst_a {s t c : Nat} (hc : c < 64) : rst r s t (24 + 64 * t + c) = r (24 + 64 * s + c) := by
  unfold rst
  rw [if_pos (by omega), show 24 + 64 * t + c - (24 + 64 * t) = c by omega]
theorem rst_b {s t c : Nat} (ht : t ≤ 1) (hc : c < 64) : rst r s t (152 + 64 * t + c) = r (152 + 64 * s + c) := by
  unfold rst
  rw [if_neg (by omega), if_pos (by omega), show 152 + 64 * t + c - (152 + 64 * t) = c by omega]
theorem rst_c {s t : Nat} (ht : t ≤ 1) : rst r s t (9 + t) = r (9 + s) ∧ rst r s t (17 + t) = r (17 + s) ∧ rst r s t (19 + t) = r (19 + s) ∧ rst r s t (21 + t) = r (21 + s) := by
  unfold rst
  refine ⟨?_, ?_, ?_, ?_⟩
  · rw [if_neg (by omega), if_neg (by omega), if_pos rfl]
  · rw [if_neg (by omega), if_neg (by omega), if_neg (by omega), if_pos rfl]
  · rw [if_neg (by omega), if_neg (by omega), if_neg (by omega), if_neg (by omega), if_pos rfl]
  · rw [if_neg (by omega), if_neg (by omega), if_neg (by omega), if_neg (by omega), if_neg (by omega), if_pos rfl]
/-- the fogs without one -/
def rdf (r : Nat → Int) (i : Nat) : Nat → Int := fun k => if k = 8 then r 8 - 1 else if 280 + 3 * i ≤ k ∧ k < 280 + 3 * ((r 8).toNat - 1) then r (k + 3) else r k
theorem rdf_n {i j : Nat} (hj : ¬ pF j) (h8 : r 8 ≤ 8) : rdf r i j = r j := by
  unfold rdf
  unfold pF at hj
  rw [if_neg (by omega), if_neg (by omega)]
end HH
