/-! printMoves. -/
section CP
variable {m : Mm} {r : Nat → Int} {W H n : Nat}
def prl (r : Nat → Int) (W : Nat) : Nat → List Int32
  | 0 => []
  | k + 1 => prl r W k ++ (if k = 0 then [] else [32]) ++ mvb r W k
theorem mvb_l (hR : RG n r W H) {k : Nat} (hk : (k : Int) < r 14) : 5 ≤ (mvb r W k).length ∧ (mvb r W k).length ≤ 13 := by
  obtain ⟨-, -, -, -, b4⟩ := hR.2.2.2.2.2.2.2.2.2.2.2 k hk
  unfold mvb cl
  simp only [List.length_append, List.length_cons, List.length_nil, List.length_replicate]
  omega
theorem prl_l (hR : RG n r W H) : ∀ {k : Nat}, (k : Int) ≤ r 14 → (k = 0 ∧ (prl r W k).length = 0) ∨ (1 ≤ (prl r W k).length ∧ (prl r W k).length + 1 ≤ 14 * k)
  | 0, _ => Or.inl ⟨rfl, rfl⟩
  | k + 1, h => by
    have h1 := prl_l hR (k := k) (by omega)
    have h2 := mvb_l hR (k := k) (by omega)
    refine Or.inr ?_
    unfold prl
    by_cases q : k = 0
    · rw [if_pos q]
      simp only [List.length_append, List.length_nil]
      omega
    · rw [if_neg q]
      simp only [List.length_append, List.length_singleton]
      omega
def prf (r : Nat → Int) (W : Nat) : List Int32 := if r 14 = 0 then [46] else prl r W (r 14).toNat
theorem prf_l (hR : RG n r W H) : (prf r W).length ≤ 279 := by
  have h14 := hR.2.2.2.2.2.2.2.2.1
  have := prl_l hR (k := (r 14).toNat) (by omega)
  unfold prf
  split
  · decide
  · omega
end CP
