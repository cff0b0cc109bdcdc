/-! What the calls' arguments must be, in both. -/
theorem k_r0 : sh_r 20 0 = 21 := by decide +kernel
theorem k_r1 : sh_r 20 1 = 23 := by decide +kernel
theorem k_r2 : sh_r 20 2 = 42 := by decide +kernel
theorem k_r3 : sh_r 20 3 = 61 := by decide +kernel
theorem k_r5 : sh_r 20 5 = 80 := by decide +kernel
theorem k_r6 : sh_r 20 6 = 234 := by decide +kernel
theorem k_r7 : sh_r 20 7 = 237 := by decide +kernel
theorem k_r8 : sh_r 20 8 = 243 := by decide +kernel
theorem k_r9 : sh_r 20 9 = 248 := by decide +kernel
theorem gA_23 : gA 23 := Or.inl rfl
theorem gA_42 : gA 42 := Or.inr (Or.inl rfl)
theorem gA_61 : gA 61 := Or.inr (Or.inr (Or.inl rfl))
theorem gA_h {j : Nat} (h : j < 8) : gA (82 + 19 * j) := Or.inr (Or.inr (Or.inr ⟨j, h, rfl⟩))
theorem bE_l {T α : Type} {v : T} {m : Mm} {f : T → Mm → Option α} {g : Nat → Mm → Option α} : bE (some (.inl v, m)) f g = f v m := (Eq.refl (f v m)).trans rfl
theorem bE_r {T α : Type} {e : Nat} {m : Mm} {f : T → Mm → Option α} {g : Nat → Mm → Option α} : bE (some (.inr e, m)) f g = g e m := (Eq.refl (g e m)).trans rfl
theorem An_bE {T α : Type} {q : Option ((T ⊕ Nat) × Mm)} {f : T → Mm → Option α} {g : Nat → Mm → Option α} {P : (T ⊕ Nat) × Mm → Prop} {Q : α → Prop} (h : An q P) (k1 : ∀ v m, P (.inl v, m) → An (f v m) Q) (k2 : ∀ e m, P (.inr e, m) → An (g e m) Q) : An (bE q f g) Q := by
  obtain ⟨⟨w, m'⟩, e, hv⟩ := h
  rw [e]
  match w, hv with
  | .inl v, hv => rw [bE_l]; exact k1 v m' hv
  | .inr c, hv => rw [bE_r]; exact k2 c m' hv
section AP
variable {m : Mm} {r : Nat → Int} {W H : Nat}
end AP
/-! clock -/
section CK
variable {m : Mm} {r : Nat → Int} {W H : Nat} {n : Int}
end CK
theorem in_i {n L j : Nat} (hi : 7 * n + 7 ≤ L) (hL : L ≤ 3584) (hj : j < 7) : ev_in (zI ((7 * n : Nat) : Int) + zI (j : Nat)) L = true := by
  rw [z_ad]; exact in_k (by omega) (by omega)
