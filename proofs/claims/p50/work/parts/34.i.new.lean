/-! The memory once LanternChess is made. -/
theorem eb_new (xs : Nat → Int32) : ∃ m1 : Mm, d_119 20 (zm xs) = some m1 ∧ VL m1 ∧ TX m1 ∧ m1 80 1 = zI 0 ∧ m1 80 2 = zI 0 ∧ m1 21 1 = zI 0 ∧ m1 2 = xs := by
  obtain ⟨m1, d1, a1, a2⟩ := c119 (m := zm xs)
  have z80 : zm xs 80 = fun _ => 0 := zm_0 (by decide) (by decide +kernel) (by decide +kernel) (by decide +kernel)
  have z21 : zm xs 21 = fun k => if k = 3 then -1 else 0 := zm_c8 (by decide) (by decide +kernel)
  have e80 := a2 80 (Or.inr (by decide))
  have e21 := a2 21 (Or.inl (by decide))
  rw [z80] at e80
  rw [z21] at e21
  refine ⟨m1, d1, ?_, ?_, by rw [e80]; rfl, by rw [e80]; rfl, by rw [e21]; rfl, ?_⟩
  · unfold VL
    rw [a2 0 (Or.inl (by decide))]
    have v1 : ∀ q : Nat, q < 13 → 1 ≤ q → ([100, 9, 5, 3, 3, 1] : List Int32).getD (kd (q : Nat) - 1).toNat 0 = zI (vl (q : Nat)) := by decide +kernel
    refine ⟨fun p h1 h2 => ?_, fun p h1 h2 => rfl⟩
    obtain ⟨q, rfl⟩ : ∃ q : Nat, p = (q : Nat) := ⟨p.toNat, by omega⟩
    exact v1 q (by omega) (by omega)
  · intro k hk i hi
    rw [a2 (3 + k) (Or.inl (by omega))]
    unfold zm
    rw [if_neg (by omega), if_neg (by omega), if_neg (by omega), if_pos (by omega), show 3 + k - 3 = k by omega]
  · rw [a2 2 (Or.inl (by decide))]
    funext k
    unfold zm
    rw [if_neg (by decide), if_neg (by decide), if_pos rfl]
