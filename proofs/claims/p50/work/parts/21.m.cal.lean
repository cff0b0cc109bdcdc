/-! The moves, printed. -/
section CN
variable {m : Mm} {r : Nat → Int} {W H n : Nat}
def cl (W : Nat) (z : Int) : List Int32 := [zI (97 + (z.toNat % W : Nat)), zI (49 + (z.toNat / W : Nat))]
theorem ch97 : ∀ x : Nat, x < 8 → (((97 : Int32) + zI (x : Nat)).toUInt32 % 65536).toInt32 = zI (97 + (x : Nat)) := by decide +kernel
theorem ch49 : ∀ x : Nat, x < 8 → (((49 : Int32) + zI (x : Nat)).toUInt32 % 65536).toInt32 = zI (49 + (x : Nat)) := by decide +kernel
theorem rp_s {l : List Int32} {j : Nat} {x : Int32} : l ++ List.replicate j x ++ [x] = l ++ List.replicate (j + 1) x := by
  rw [List.append_assoc, List.replicate_succ']
/-- a move that was answered, as it is printed -/
def mvb (r : Nat → Int) (W k : Nat) : List Int32 := cl W (r (464 + 6 * k + 1)) ++ [if r (464 + 6 * k + 3) = -1 then 45 else 120] ++ cl W (r (464 + 6 * k + 2)) ++ List.replicate ((r (464 + 6 * k + 4)).toNat - 1) 63
end CN
