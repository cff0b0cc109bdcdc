/-! A setup text: its tokens, as the reference takes them. -/
section TG
variable {m M : Mm} {L : Nat} {B : Nat → Int}
/-- the words, in the reference's order -/
def kk (w : Nat) : Nat := [0, 1, 2, 3, 4, 5, 12, 13, 6, 7, 8, 9, 10, 11].getD w 0
def ps (w : Nat) : Nat := [0, 5, 11, 17, 22, 28, 34, 40, 44, 49, 55, 60, 67, 74, 79].getD w 0
def wm (B : Nat → Int) (s e k : Nat) : Bool := decide ((e : Int) - (s : Nat) = ((ev_tb k).length : Nat) ∧ ff (fun i => !(decide (zI (B (s + i)) = (ev_tb k).getD i 0))) (ev_tb k).length = (ev_tb k).length)
def wdn (B : Nat → Int) (s e : Nat) : Nat := ff (fun w => wm B s e (kk w)) 14
def wdx (B : Nat → Int) (s e : Nat) : Int := if wdn B s e < 14 then (wdn B s e : Nat) else -1
theorem kk_u : ∀ w, w < 14 → ∀ v, v < 14 → w ≠ v → (ev_tb (kk w)).length ≠ (ev_tb (kk v)).length ∨ ¬ ∀ i, i < (ev_tb (kk w)).length → (ev_tb (kk w)).getD i 0 = (ev_tb (kk v)).getD i 0 := by decide +kernel
theorem wm_t {s e k : Nat} (h : wm B s e k = true) : e = s + (ev_tb k).length ∧ ∀ i, i < (ev_tb k).length → zI (B (s + i)) = (ev_tb k).getD i 0 := by
  obtain ⟨a, b⟩ := of_decide_eq_true h
  refine ⟨by omega, fun i hi => ?_⟩
  have := ff_lt (p := fun i => !(decide (zI (B (s + i)) = (ev_tb k).getD i 0))) (n := (ev_tb k).length) (k := i) (by omega)
  simpa using this
theorem wdn_u {s e w : Nat} (hw : w < 14) (h : wm B s e (kk w) = true) : wdn B s e = w := by
  have hn : wdn B s e < 14 := by
    unfold wdn
    have le := ff_le (fun w => wm B s e (kk w)) 14
    by_cases q : ff (fun w => wm B s e (kk w)) 14 < 14
    · exact q
    · have := ff_lt (p := fun w => wm B s e (kk w)) (n := 14) (k := w) (by omega)
      rw [h] at this
      cases this
  have ha : wm B s e (kk (wdn B s e)) = true := ff_at (p := fun w => wm B s e (kk w)) (n := 14) hn
  by_cases q : wdn B s e = w
  · exact q
  · exfalso
    obtain ⟨a1, a2⟩ := wm_t ha
    obtain ⟨b1, b2⟩ := wm_t h
    rcases kk_u _ hn w hw q with z | z
    · exact z (by omega)
    · exact z (fun i hi => (a2 i hi).symm.trans (b2 i (by omega)))
theorem wm_f {s e k : Nat} (h1 : e = s + (ev_tb k).length) (h2 : ∀ i, i < (ev_tb k).length → zI (B (s + i)) = (ev_tb k).getD i 0) : wm B s e k = true := by
  refine decide_eq_true ⟨by omega, ?_⟩
  have le := ff_le (fun i => !(decide (zI (B (s + i)) = (ev_tb k).getD i 0))) (ev_tb k).length
  by_cases q : ff (fun i => !(decide (zI (B (s + i)) = (ev_tb k).getD i 0))) (ev_tb k).length < (ev_tb k).length
  · have := ff_at (p := fun i => !(decide (zI (B (s + i)) = (ev_tb k).getD i 0))) (n := (ev_tb k).length) q
    have := h2 _ q
    simp_all
  · omega
end TG
