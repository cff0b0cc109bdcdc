/-! Calls, one by one: what was. -/
section CJ
variable {m : Mm} {r : Nat → Int} {W H n : Nat}
theorem log_s : sh_r (sh_r 20 1) 3 = 38 := by decide +kernel
theorem log_a : sh_r (sh_r 20 1) 4 = 40 := by decide +kernel
theorem now_r : sh_r (sh_r (sh_r 20 1) 0) 0 = 25 := by decide +kernel
theorem c72 {q : Nat} {N c : Int} {J : Nat} {P : Nat → Nat → Int} (hq : lA q) (h : LV m q N c J P) (hN : N ≤ 20) {k j : Nat} (hk : (k : Int) < N) (hj : j < J) (hJ : J ≤ 8) : d_72 q (zI (k : Nat)) (zI (j : Nat)) m = some (zI (P k j)) := by
  obtain ⟨a1, a2⟩ := hq
  have e := h.2.2 k j hk hj
  unfold d_72
  rw [a1, a2, zl_8, zI_mul, zI_add, wbs, show ((k : Nat) : Int) * 8 + (j : Nat) = ((8 * k + j : Nat) : Int) by omega]
  rw [if_neg (by rw [zl_0, zI_lt (by omega) (by omega) (by omega) (by omega)]; omega), zI_on, if_neg (by rw [zI_le (by omega) (by omega) (by omega) (by omega)]; omega), if_pos (in_k (by omega) (by decide)), z_ix (by omega), e]
end CJ
