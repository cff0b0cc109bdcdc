/-! Calls that try a move: ifPlayed, delay. -/
section HF
variable {m m2 : Mm} {W H n : Nat} {r : Nat → Int}
/-- a move tried: what it comes to -/
noncomputable def trN (W H : Nat) (r : Nat → Int) (s q x y X Y : Nat) : Int := if mv W (fun c => r (24 + 64 * s + c)) s x y X Y = true then (pls W H s q x y X Y (r 7).toNat 1 r).1 else -2
noncomputable def trR (W H : Nat) (r : Nat → Int) (s q x y X Y : Nat) : Nat → Int := if mv W (fun c => r (24 + 64 * s + c)) s x y X Y = true then (pls W H s q x y X Y (r 7).toNat 1 r).2 else r
noncomputable def trV (W H : Nat) (r : Nat → Int) (s q x y X Y : Nat) (what : Int) : Int := if what = 0 then trN W H r s q x y X Y else if what = 1 then trR W H r s q x y X Y 2 - r 2 else if what = 2 then dif (W * H) (fun c => trR W H r s q x y X Y (24 + c)) (fun c => trR W H r s q x y X Y (88 + c)) else if trR W H r s q x y X Y 4 = 0 then 0 else 1
theorem dif_r {N : Nat} {b b' : Nat → Int} (h : N ≤ 64) : 0 ≤ dif N b b' ∧ dif N b b' ≤ 64 := by
  have : ∀ k, 0 ≤ dif k b b' ∧ dif k b b' ≤ k := fun k => by
    induction k with
    | zero => exact ⟨Int.le_refl _, Int.le_refl _⟩
    | succ k ih =>
      unfold dif at *
      rw [fo_s]
      split <;> omega
  have := this N
  omega
end HF
