/-! The reference's statements: pieces; a statement. -/
section TK
variable {m M : Mm} {L : Nat} {B : Nat → Int} {A A' : (Nat → Int) × (Nat → Int)} {W H : Nat} {r : Nat → Int}
/-- a king of this side is on the row -/
def kg (W H : Nat) (r : Nat → Int) (s : Nat) : Bool := decide (ff (fun c => decide (r (24 + c) = 1 + 6 * (s : Nat))) (W * H) < W * H)
theorem kow_w (hW : WA B L A) : (A.1 7 = 1 → (8 ≤ wdx B (A.1 8).toNat (A.1 6).toNat → kow B A = wdx B (A.1 8).toNat (A.1 6).toNat - 8) ∧ (wdx B (A.1 8).toNat (A.1 6).toNat < 8 → kow B A = -1)) ∧ (A.1 7 ≠ 1 → kow B A = -1) := by
  have e : ∀ w, w < 14 → (isw B (kk w) A = true ↔ (A.1 7 = 1 ∧ wdx B (A.1 8).toNat (A.1 6).toNat = (w : Nat))) := fun w hw => by
    rw [isw_w hW]
    constructor
    · intro h
      have h := of_decide_eq_true h
      exact ⟨h.1, (wdx_w hw).mpr h.2⟩
    · intro h
      exact decide_eq_true ⟨h.1, (wdx_w hw).mp h.2⟩
  have e8 : isw B 6 A = true ↔ _ := e 8 (by decide)
  have e9 : isw B 7 A = true ↔ _ := e 9 (by decide)
  have e10 : isw B 8 A = true ↔ _ := e 10 (by decide)
  have e11 : isw B 9 A = true ↔ _ := e 11 (by decide)
  have e12 : isw B 10 A = true ↔ _ := e 12 (by decide)
  have e13 : isw B 11 A = true ↔ _ := e 13 (by decide)
  have r := wdx_r (B := B) (s := (A.1 8).toNat) (e := (A.1 6).toNat)
  unfold kow
  simp only [e8, e9, e10, e11, e12, e13]
  generalize wdx B (A.1 8).toNat (A.1 6).toNat = x at *
  refine ⟨fun q => ⟨fun h => ?_, fun h => ?_⟩, fun q => ?_⟩
  · repeat' split
    all_goals omega
  · repeat' split
    all_goals omega
  · repeat' split
    all_goals omega
/-- what was told of kings is so -/
def KB (A : (Nat → Int) × (Nat → Int)) (W H : Nat) : Prop := A.1 2 = 0 → ∀ s, s ≤ 1 → (A.1 5).toNat.testBit (4 + s) = kg W H A.2 s
theorem bit4 : ∀ T, T < 64 → ∀ s, s < 2 → (T ||| 2 ^ (4 + s)) % 16 = T % 16 := by decide +kernel
end TK
