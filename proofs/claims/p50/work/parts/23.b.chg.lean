/-! Calls that change the game. -/
section HB
variable {m : Mm} {W H n : Nat} {r : Nat → Int}
theorem c56 {g : Nat} (hg : gA g) (h : GR m g r W H) (hw : WH W H) {s : Nat} (hs : s ≤ 1) (h3 : r 3 = s) (hb : BD W H (fun c => r (24 + 64 * s + c))) {x y X Y : Nat} (hx : x < W) (hy : y < H) (hX : X < W) (hY : Y < H) : d_56 g (zI ((x + 8 * y : Nat) : Int)) (zI ((X + 8 * Y : Nat) : Int)) m = some (mv W (fun c => r (24 + 64 * s + c)) s x y X Y) := by
  have hw' := hw
  obtain ⟨w1, w2, w3, w4⟩ := hw'
  have ba := gA_b hg hs
  have e6 : m g 6 = zI (s : Nat) := by rw [h.2.2.2.2.2.2.1, h3]
  have al : alw W H (fun c => r (24 + 64 * s + c)) (s : Nat) x y X Y = mv W (fun c => r (24 + 64 * s + c)) s x y X Y := by unfold alw; rw [decide_eq_true ⟨hx, hy, hX, hY⟩, Bool.true_and]
  unfold d_56
  rw [e6, c51 hg hs]
  simp only [obs]
  rw [ba.1, c21 ba.2.2.1 (h.bd hs).1 hw hb (by omega) (by omega) (by omega) (by omega) (by omega) (by omega), al]
  rfl
/-- the bounds for a move told -/
theorem pl_b (hn : n ≤ 512) (hR : RG (n : Nat) r W H) {s q : Nat} (hs : s + q = 1) : ((n + 1 : Nat) : Int) ≤ 520 ∧ RG (n + 1 : Nat) r W H ∧ ((1 : Nat) : Int) + ((r 7).toNat : Nat) = r 7 + 1 ∧ r 2 + r (15 + s) ≤ 10000 * ((n + 1 : Nat) : Int) ∧ r (9 + q) + ((r 7).toNat : Nat) ≤ 20 * ((n + 1 : Nat) : Int) ∧ r (9 + s) + 1 ≤ 20 * ((n + 1 : Nat) : Int) := by
  obtain ⟨-, hrS, hrB, -⟩ := RG.iff.mp hR
  have h2 := hrS.1
  have h7 := hrS.2.2.2.2.2.1
  have hc := hrS.2.2.2.2.2.2 s (by omega)
  have b1 := (hrB s (by omega)).1
  have b2 := (hrB q (by omega)).1
  exact ⟨by omega, hR.mono (by omega), by omega, by omega, by omega, by omega⟩
end HB
