/-! What the reference does with tokens: in step with the class while there is no error. -/
section TI
variable {m M : Mm} {L : Nat} {B : Nat → Int} {A A' : (Nat → Int) × (Nat → Int)}
theorem isw_w (hW : WA B L A) {k : Nat} : isw B k A = decide (A.1 7 = 1 ∧ wm B (A.1 8).toNat (A.1 6).toNat k = true) := by
  have w8 := hW.2.2.2.1
  unfold isw wm
  by_cases q : A.1 7 = 1
  · by_cases q2 : ((A.1 6).toNat : Int) - ((A.1 8).toNat : Nat) = ((ev_tb k).length : Nat) ∧ ff (fun i => !(decide (zI (B ((A.1 8).toNat + i)) = (ev_tb k).getD i 0))) (ev_tb k).length = (ev_tb k).length
    · rw [decide_eq_true q2, decide_eq_true ⟨q, by omega, q2.2⟩, decide_eq_true ⟨q, rfl⟩]
    · rw [decide_eq_false q2, decide_eq_false (fun z => q2 ⟨by omega, z.2.2⟩), decide_eq_false (fun z => by cases z.2)]
  · rw [decide_eq_false (fun z => q z.1), decide_eq_false (fun z => q z.1)]
theorem wdx_w {s e w : Nat} (hw : w < 14) : wdx B s e = (w : Nat) ↔ wm B s e (kk w) = true := by
  unfold wdx
  constructor
  · intro h
    by_cases q : wdn B s e < 14
    · rw [if_pos q] at h
      have e1 : wdn B s e = w := by omega
      have := ff_at (p := fun w => wm B s e (kk w)) (n := 14) q
      change wm B s e (kk (wdn B s e)) = true at this
      rw [e1] at this
      exact this
    · rw [if_neg q] at h; omega
  · intro h
    have e1 := wdn_u hw h
    rw [e1, if_pos hw]
theorem wdx_r {s e : Nat} : -1 ≤ wdx B s e ∧ wdx B s e ≤ 13 := by
  unfold wdx
  split <;> omega
theorem bit3 : ∀ T, T < 64 → ∀ i, i < 4 → ((zI ((2 * (T % 16) : Nat) : Int) >>> (zI ((i + 1 : Nat) : Int) &&& (31 : Int32))) &&& (1 : Int32) = 0 ↔ T.testBit i = false) ∧ zI ((2 * (T % 16) : Nat) : Int) ||| ((1 : Int32) <<< (zI ((i + 1 : Nat) : Int) &&& (31 : Int32))) = zI ((2 * ((T ||| 2 ^ i) % 16) : Nat) : Int) := by decide +kernel
end TI
