/-! The buffer holds the law's text. -/
theorem eb_bt {m0 m : Mm} {l : List Nat} (h : Bf m0 m (fun i => l.getD i 0) l.length) (hl : l.length ≤ 300) (hb : eb_lo l) : BT m (fun i => ((l.getD i 0 : Nat) : Int)) l.length ∧ Sg (fun i => ((l.getD i 0 : Nat) : Int)) l.length 0 l := by
  obtain ⟨h1, h2, -, -⟩ := h
  refine ⟨⟨by omega, h1, fun i hi => ⟨?_, h2 i hi⟩⟩, Nat.zero_add _, fun i _ => by rw [Nat.zero_add]⟩
  have : l.getD i 0 < 128 := by
    rw [List.getD_eq_getElem?_getD, List.getElem?_eq_getElem hi]
    exact hb _ (List.getElem_mem hi)
  dsimp only
  omega
/-- what lasts: the text put in the buffer changes no more than the buffer -/
theorem eb_bf {m0 m : Mm} {y : Nat → Nat} {l : Nat} (h : Bf m0 m y l) (hv : VL m0) (ht : TX m0) : VL m ∧ TX m ∧ m 80 = m0 80 ∧ m 2 = m0 2 := by
  obtain ⟨-, -, -, h4⟩ := h
  refine ⟨?_, fun k hk i hi => ?_, h4 80 (by decide) (by decide), h4 2 (by decide) (by decide)⟩
  · unfold VL
    rw [h4 0 (by decide) (by decide)]
    exact ⟨hv.1, fun _ _ _ => rfl⟩
  · rw [h4 (3 + k) (by omega) (by omega)]
    exact ht k hk i hi
