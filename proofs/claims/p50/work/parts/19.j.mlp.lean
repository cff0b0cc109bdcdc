/-! The reference's boards: what is made of them. -/
theorem z_ix {k : Nat} (h : k ≤ 2147483647) : ix (zI (k : Int)) = k := by
  show (zI (k : Int)).toNatClampNeg = k
  rw [zI_ix (by omega) (by omega), Int.toNat_natCast]
theorem mxy {W H k : Nat} (hw : WH W H) (hk : k < W * H) : ∃ x y, x < W ∧ y < H ∧ k = x + W * y := by
  obtain ⟨a, b, c⟩ := cell_of hw hk
  exact ⟨_, _, a, b, c.symm⟩
theorem WH_n {W H : Nat} (h : WH W H) : W * H ≤ 64 := by
  have : W * H ≤ 8 * 8 := Nat.mul_le_mul h.2.1 h.2.2.2
  omega
theorem sd_r (p : Int) : -1 ≤ sd p ∧ sd p ≤ 1 := by
  unfold sd
  split
  · omega
  · split <;> omega
/-- the row behind a move on the board at t -/
def rmv (r : Nat → Int) (t c d : Nat) (v : Int) : Nat → Int := rs (rs r (t + d) v) (t + c) 0
theorem rmv_mb {r : Nat → Int} {W H t x y X Y : Nat} (hx : x < W) (hX : X < W) (hn : ¬ (x = X ∧ y = Y)) :
    (fun k => rmv r t (x + W * y) (X + W * Y) (av H (r (t + (x + W * y))) Y) (t + k)) = mb W H (fun k => r (t + k)) x y X Y := by
  funext k
  unfold rmv mb rs
  dsimp only
  have hc : ¬ x + W * y = X + W * Y := by rw [cell_in hx hX]; exact hn
  by_cases q1 : k = x + W * y
  · subst q1
    rw [if_pos rfl, if_neg hc, if_pos rfl]
  · rw [if_neg (by omega)]
    by_cases q2 : k = X + W * Y
    · subst q2
      rw [if_pos rfl, if_pos rfl]
    · rw [if_neg (by omega), if_neg q2, if_neg q1]
theorem BD_mb {W H : Nat} {b : Nat → Int} (h : BD W H b) {x y X Y : Nat} (hx : x < W) (hy : y < H) : BD W H (mb W H b x y X Y) := by
  intro u v hu hv
  have b1 := h x y hx hy
  have b2 := h u v hu hv
  have b3 := av_r (H := H) (y := Y) b1.1 b1.2
  unfold mb
  split
  · exact b3
  · split
    · omega
    · exact b2
theorem rmv_ne {r : Nat → Int} {t c d k : Nat} {v : Int} (h1 : k ≠ t + c) (h2 : k ≠ t + d) : rmv r t c d v k = r k := by
  unfold rmv
  rw [rs_ne h1, rs_ne h2]
def wo (W H : Nat) (b : Nat → Int) (s : Int) (x y X Y : Nat) : Int := if kd (b (X + W * Y)) = 1 then gn W H b x y X Y else gn W H b x y X Y - bg W H (mb W H b x y X Y) (1 - s)
section MD
variable {m : Mm} {r : Nat → Int} {W H : Nat}
end MD
