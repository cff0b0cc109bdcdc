/-! A game begun, and an empty board. -/
section TE
variable {m M : Mm} {W H g : Nat}
/-- the row of a game that begins, with nothing on its board -/
def rbg (W H : Nat) : Nat → Int := fun k => if k = 0 then W else if k = 1 then H else if k = 5 then 2 else if k = 6 then 3 else if k = 7 then 4 else if k = 15 ∨ k = 16 then 1000 else if k = 17 ∨ k = 18 then -1 else 0
theorem rbg_0 {k : Nat} (h : ¬ (k = 0 ∨ k = 1 ∨ k = 5 ∨ k = 6 ∨ k = 7 ∨ k = 15 ∨ k = 16 ∨ k = 17 ∨ k = 18)) : rbg W H k = 0 := by
  unfold rbg
  rw [if_neg (by omega), if_neg (by omega), if_neg (by omega), if_neg (by omega), if_neg (by omega), if_neg (by omega), if_neg (by omega)]
theorem rbg_R (hw : WH W H) : WR (rbg W H) W H := by
  have e8 : rbg W H 8 = 0 := rbg_0 (by omega)
  refine ⟨⟨rfl, rfl, hw⟩, fun x y _ _ => ?_, ⟨by rw [e8]; decide, ?_⟩, by rw [rbg_0 (by omega)]; decide, by rw [rbg_0 (by omega)]; decide⟩
  · dsimp only
    rw [rbg_0 (by omega)]
    decide
  · rw [e8]
    exact ⟨by decide, fun k hk => absurd hk (Nat.not_lt_zero k)⟩
theorem c10 {f : Nat} (hf : fA f) (h0 : 4 ≤ W ∧ W ≤ 8) : An (d_10 f (zI (W : Nat)) (zI (H : Nat)) m) (fun M => FR M f W H (fun _ => 0) ∧ ∀ a, a ≠ f → a ≠ f + 1 → M a = m a) := by
  obtain ⟨f1, f2⟩ := hf
  unfold d_10
  rw [wbs, wbs, f1]
  refine (c349 (a := f + 1) (by rw [f2]; decide)).bd (fun M ⟨a, b⟩ => An.so ⟨⟨?_, ?_, fun x y hx hy => ?_⟩, fun a h1 h2 => ?_⟩)
  · rw [b f (by omega), wr_nk (by decide), wr_eq]
  · rw [b f (by omega), wr_eq]
  · rw [a (x + 8 * y) (by rw [f2]; omega)]
    split
    · show (-1 : Int32) = zI (0 - 1)
      decide
    · decide
  · rw [b a h2, wr_ne h1, wr_ne h1]
theorem c1 {β : Nat} (hb : bA β) (h0 : 4 ≤ W ∧ W ≤ 8) : An (d_1 β (zI (W : Nat)) (zI (H : Nat)) m) (fun M => BV M β W H (fun _ => 0) (fun _ => 0) 0 (-1) 0 0 ∧ ∀ a, a < β ∨ β + 4 < a → M a = m a) := by
  obtain ⟨b1, b2, b3, b4⟩ := hb
  unfold d_1
  rw [b1, b2]
  refine (c10 b3 h0).bd (fun m1 ⟨a1, a2⟩ => ?_)
  refine (c10 b4 h0).bd (fun m2 ⟨c1, c2⟩ => ?_)
  rw [wbs, wbs, wbs, wbs]
  refine An.so ⟨⟨?_, ?_, ?_, ?_, fun h => absurd rfl h⟩, fun a ha => ?_⟩
  · exact a1.mm (by rw [wr_ne (by omega), wr_ne (by omega), wr_ne (by omega), wr_ne (by omega), c2 _ (by omega) (by omega)]) (by rw [wr_ne (by omega), wr_ne (by omega), wr_ne (by omega), wr_ne (by omega), c2 _ (by omega) (by omega)])
  · exact c1.mm (by rw [wr_ne (by omega), wr_ne (by omega), wr_ne (by omega), wr_ne (by omega)]) (by rw [wr_ne (by omega), wr_ne (by omega), wr_ne (by omega), wr_ne (by omega)])
  · rw [wr_nk (by decide), wr_nk (by decide), wr_nk (by decide), wr_eq]; rfl
  · rw [wr_nk (by decide), wr_nk (by decide), wr_eq]; decide
  · rw [wr_ne (by omega), wr_ne (by omega), wr_ne (by omega), wr_ne (by omega), c2 _ (by omega) (by omega), a2 _ (by omega) (by omega)]
theorem c69 {q : Nat} : d_69 q m = some (wr (wr m q 1 0) q 2 0) := rfl
theorem c48 (hg : gA g) (hw : WH W H) : An (d_48 g (zI (W : Nat)) (zI (H : Nat)) m) (fun M => GR M g (rbg W H) W H ∧ ∀ a, a < g ∨ g + 18 < a → M a = m a) := by
  obtain ⟨F0, F1, F2, F3, F4, FB0, FB1, FO, FL, FA⟩ := gA_F hg
  obtain ⟨w1, w2, w3, w4⟩ := hw
  unfold d_48
  rw [F0, F1, F2, F3, F4]
  refine (c1 FB0 ⟨w1, w2⟩).bd (fun m1 ⟨a1, a2⟩ => ?_)
  refine (c1 FB1 ⟨w1, w2⟩).bd (fun m2 ⟨b1, b2⟩ => ?_)
  rw [wbs, c69]
  simp only [obs]
  rw [c69]
  simp only [obs, wbs]
  refine An.so ⟨⟨?_, ?_, ?_, ?_, ?_, ?_⟩, fun a ha => ?_⟩
  · have e : ∀ j : Nat, j = 9 ∨ 19 ≤ j → rbg W H j = 0 := fun j hj => rbg_0 (by omega)
    rw [e 9 (by omega), show rbg W H 17 = -1 from rfl]
    have := (a1.mm (m' := m2) (fun a h1 h2 => b2 a (by omega)))
    refine BV.cg (bn := fun _ => 0) (bb := fun _ => 0) ⟨this.1.mm ?_ ?_, this.2.1.mm ?_ ?_, ?_, ?_, fun h => absurd rfl h⟩ (fun x y _ _ => (e _ (by omega)).symm) (fun x y _ _ => (e _ (by omega)).symm)
    all_goals simp (disch := omega) only [wr_ne]
    · exact this.2.2.1
    · exact this.2.2.2.1
  · have e : ∀ j : Nat, j = 10 ∨ 19 ≤ j → rbg W H j = 0 := fun j hj => rbg_0 (by omega)
    rw [e 10 (by omega), show rbg W H 18 = -1 from rfl]
    refine BV.cg (bn := fun _ => 0) (bb := fun _ => 0) ⟨b1.1.mm ?_ ?_, b1.2.1.mm ?_ ?_, ?_, ?_, fun h => absurd rfl h⟩ (fun x y _ _ => (e _ (by omega)).symm) (fun x y _ _ => (e _ (by omega)).symm)
    all_goals simp (disch := omega) only [wr_ne]
    · exact b1.2.2.1
    · exact b1.2.2.2.1
  · rw [rbg_0 (k := 8) (by omega)]
    refine ⟨?_, fun k hk => absurd hk (by omega)⟩
    simp (disch := omega) only [wr_ne, wr_eq]
    rfl
  · rw [rbg_0 (k := 13) (by omega), rbg_0 (k := 12) (by omega)]
    refine ⟨?_, ?_, fun k j hk => absurd hk (by omega)⟩
    · simp (disch := omega) only [wr_ne, wr_nk, wr_eq]; rfl
    · simp (disch := omega) only [wr_ne, wr_eq]; rfl
  · rw [rbg_0 (k := 14) (by omega), rbg_0 (k := 11) (by omega)]
    refine ⟨?_, ?_, fun k j hk => absurd hk (by omega)⟩
    · simp (disch := omega) only [wr_ne, wr_nk, wr_eq]; rfl
    · simp (disch := omega) only [wr_ne, wr_eq]; rfl
  · unfold SV
    refine ⟨?_, ?_, ?_, ?_, ?_, ?_, ?_, ?_⟩ <;> simp (disch := decide) only [wr_nk, wr_eq] <;> rfl
  · simp (disch := omega) only [wr_ne]
    rw [b2 a (by omega), a2 a (by omega)]
end TE
