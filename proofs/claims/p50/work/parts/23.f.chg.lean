/-! delay. -/
section HG
variable {m : Mm} {W H n : Nat} {r ρ : Nat → Int}
/-- rows that differ in the time and the clocks alone -/
def tcq (r ρ : Nat → Int) : Prop := ∀ k, k ≠ 2 → k ≠ 15 → k ≠ 16 → ρ k = r k
theorem tcq.sp {s : Nat} (hs : s ≤ 1) {d : Int} : tcq r (rsp r s d) := fun k h2 h15 h16 => by
  unfold rsp
  rw [if_neg h2, if_neg (by omega)]
theorem tcq.fn (e : tcq r ρ) {t : Nat} (ht : 17 ≤ t) : (fun c => ρ (t + c)) = fun c => r (t + c) := funext fun c => e _ (by omega) (by omega) (by omega)
theorem tcq.fF (e : tcq r ρ) : rF ρ = rF r ∧ rL ρ = rL r ∧ rE ρ = rE r := ⟨funext fun k => e _ (by omega) (by omega) (by omega), funext fun k => e _ (by omega) (by omega) (by omega), funext fun k => e _ (by omega) (by omega) (by omega)⟩
theorem tcq.e_rsee (e : tcq r ρ) {t : Int} {c : Nat} : rsee ρ t c = rsee r t c := by
  unfold rsee
  rw [e 8 (by decide) (by decide) (by decide), e.fF.1, e.fF.2.1, e.fF.2.2]
theorem tcq.e_fG (e : tcq r ρ) {s x y X Y : Nat} (hs : s ≤ 1) : fG ρ s x y X Y = fG r s x y X Y := by
  unfold fG
  rw [e (9 + s) (by omega) (by omega) (by omega)]
theorem tcq.e_fl (e : tcq r ρ) {s x y X Y : Nat} (hs : s ≤ 1) {t : Int} : fl ρ s x y X Y t = fl r s x y X Y t := by
  funext k
  unfold fl
  rw [e.e_fG hs, e.e_rsee, e 5 (by decide) (by decide) (by decide)]
theorem tcq.e_rdx (e : tcq r ρ) {s q : Nat} (hq : q ≤ 1) {l : Nat → Nat} : rdx W H ρ s q l = rdx W H r s q l := by
  by_cases h : okm W H l
  · rw [rdx_y h, rdx_y h, e.fn (t := 24 + 64 * q) (by omega), e.fn (t := 152 + 64 * q) (by omega), e (9 + q) (by omega) (by omega) (by omega), e (17 + q) (by omega) (by omega) (by omega), e (19 + q) (by omega) (by omega) (by omega), e (21 + q) (by omega) (by omega) (by omega)]
  · rw [rdx_n h, rdx_n h]
theorem tcq.e_frd (e : tcq r ρ) {s q x y X Y : Nat} (hs : s ≤ 1) (hq : q ≤ 1) {t : Int} : frd W H ρ s q x y X Y t = frd W H r s q x y X Y t := by
  unfold frd
  rw [e.e_fl hs, e.e_rdx hq]
theorem tcq.e_fan (e : tcq r ρ) {s q x y X Y : Nat} (hs : s ≤ 1) (hq : q ≤ 1) {t : Int} : fan W H ρ s q x y X Y t = fan W H r s q x y X Y t := by
  unfold fan
  rw [e.e_frd hs hq, e.e_fl hs, e.fn (t := 24 + 64 * q) (by omega), e.fn (t := 152 + 64 * q) (by omega)]
theorem tcq.e_flen (e : tcq r ρ) {s x y X Y : Nat} (hs : s ≤ 1) : flen ρ s x y X Y = flen r s x y X Y := by
  unfold flen
  rw [e.e_fG hs, e 5 (by decide) (by decide) (by decide)]
theorem tcq.e_fia (e : tcq r ρ) {s q x y X Y : Nat} (hs : s ≤ 1) (hq : q ≤ 1) {t : Int} : fia W H ρ s q x y X Y t = fia W H r s q x y X Y t := by
  unfold fia fsn
  rw [e.e_flen hs, e.e_fan hs hq, e.e_rsee, e.fn (t := 24 + 64 * s) (by omega)]
theorem tcq.e_ftk (e : tcq r ρ) {s q x y X Y : Nat} (hs : s ≤ 1) (hq : q ≤ 1) {t : Int} : ftk W H ρ s q x y X Y t = ftk W H r s q x y X Y t := by
  unfold ftk
  rw [e.e_flen hs, e.e_fan hs hq, e 5 (by decide) (by decide) (by decide)]
theorem pls_ge {s q x y X Y : Nat} : ∀ (n j : Nat) (r : Nat → Int), 2 ≤ j → (pls W H s q x y X Y n j r).1 ≠ 1 := by
  intro n
  induction n with
  | zero => intro j r _; show (0 : Int) ≠ 1; decide
  | succ n ih =>
    intro j r hj
    unfold pls
    generalize (if j = 1 then (0 : Int) else r 6) = w
    by_cases qc : w + ftk W H r s q x y X Y (r 2 + w) < r (15 + s)
    · rw [if_pos qc]
      by_cases qi : fia W H r s q x y X Y (r 2 + w) = true
      · rw [if_pos qi]; show ((j : Nat) : Int) ≠ 1; omega
      · rw [if_neg qi]; exact ih (j + 1) _ (by omega)
    · rw [if_neg qc]; show (-1 : Int) ≠ 1; decide
theorem pls_1 {s q x y X Y n : Nat} {r : Nat → Int} : (pls W H s q x y X Y (n + 1) 1 r).1 = 1 ↔ ftk W H r s q x y X Y (r 2) < r (15 + s) ∧ fia W H r s q x y X Y (r 2) = true := by
  unfold pls
  rw [if_pos rfl, Int.add_zero, Int.zero_add]
  by_cases qc : ftk W H r s q x y X Y (r 2) < r (15 + s)
  · rw [if_pos qc]
    by_cases qi : fia W H r s q x y X Y (r 2) = true
    · rw [if_pos qi]; exact ⟨fun _ => ⟨qc, qi⟩, fun _ => rfl⟩
    · rw [if_neg qi]
      exact ⟨fun h => absurd h (pls_ge _ _ _ (by decide)), fun h => absurd h.2 qi⟩
  · rw [if_neg qc]
    exact ⟨fun h => absurd h (by show ¬ (-1 : Int) = 1; decide), fun h => absurd h.1 qc⟩
/-- so many ticks later it would be answered at once -/
noncomputable def dlp (W H : Nat) (r : Nat → Int) (s q x y X Y : Nat) (k : Nat) : Bool := decide (ftk W H r s q x y X Y (r 2 + (k : Nat)) < r (15 + s) - (k : Nat)) && fia W H r s q x y X Y (r 2 + (k : Nat))
noncomputable def dlD (W H : Nat) (r : Nat → Int) (s q x y X Y : Nat) (N : Nat) : Int := if ff (dlp W H r s q x y X Y) (N + 1) < N + 1 then (ff (dlp W H r s q x y X Y) (N + 1) : Nat) else -1
theorem dl_at {s q x y X Y N k : Nat} (hk : k < N + 1) (h : dlp W H r s q x y X Y k = true) (h0 : ∀ j, j < k → dlp W H r s q x y X Y j = false) : dlD W H r s q x y X Y N = (k : Nat) := by
  have e : ff (dlp W H r s q x y X Y) (N + 1) = k := ff_eq h0 (by omega) (fun _ => h)
  unfold dlD
  rw [e, if_pos hk]
theorem dl_no {s q x y X Y N : Nat} (h0 : ∀ j, j < N + 1 → dlp W H r s q x y X Y j = false) : dlD W H r s q x y X Y N = -1 := by
  have e : ff (dlp W H r s q x y X Y) (N + 1) = N + 1 := ff_eq h0 (Nat.le_refl _) (fun h => absurd h (Nat.lt_irrefl _))
  unfold dlD
  rw [e, if_neg (Nat.lt_irrefl _)]
end HG
