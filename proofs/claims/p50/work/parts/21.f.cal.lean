/-! Calls, one by one: what a message would be, on. -/
section CG
variable {m : Mm} {r : Nat → Int} {W H n : Nat}
theorem fl_le {s x y X Y : Nat} (hx : x < 8) (hy : y < 8) (hX : X < 8) (hY : Y < 8) {t : Int} (k : Nat) : fl r s x y X Y t k ≤ 9 :=
  Nat.le_trans see_le (fG_le hx hy hX hY k)
theorem gs_6 (G : Nat → Nat) (p : Nat) : gs G p 6 = fo (fun i v => v + G i) 6 0 + 6 * p := by
  simp only [gs, fo]
  omega
end CG
