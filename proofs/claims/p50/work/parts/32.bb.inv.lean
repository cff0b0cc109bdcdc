/-! What stays so while a text is read. -/
section TE
variable {B : Nat → Int} {L W H : Nat} {A E : (Nat → Int) × (Nat → Int)}
theorem bit7 : ∀ T, T < 64 → (T &&& 48 = 48 ↔ T.testBit 4 = true ∧ T.testBit 5 = true) := by decide +kernel
theorem cnt_0 {b : Nat → Int} {s : Int} (hs : 0 ≤ s) (h : ∀ c, c < W * H → b c = 0) : cnt W H b s = 0 := by
  rw [cnt_cg (b := fun _ => 0) h]
  unfold cnt
  generalize W * H = N
  induction N with
  | zero => rfl
  | succ N ih =>
    rw [fo_s, ih, if_neg (by show ¬ (-1 : Int) = s; omega)]
theorem rbg_J (hw : WH W H) {f : Nat → Int} (h4 : f 4 = 0) (h5 : f 5 = 0) : LJ (f, rbg W H) W H := by
  have hN := WH_n hw
  have z : ∀ c, c < W * H → rbg W H (24 + c) = 0 := fun c hc => rbg_0 (by omega)
  refine ⟨fun _ _ _ _ _ => rfl, ⟨by show 0 ≤ rbg W H 2 ∧ rbg W H 2 ≤ 10000 * 1; rw [rbg_0 (by omega)]; decide, by show 0 ≤ rbg W H 3 ∧ rbg W H 3 ≤ 1; rw [rbg_0 (by omega)]; decide, by show 0 ≤ rbg W H 4 ∧ rbg W H 4 ≤ 2; rw [rbg_0 (by omega)]; decide, ?_, ?_, ?_, fun s hs => ?_⟩, fun c hc => ?_, fun s s1 s2 c c' hc hc' e1 e2 => ?_, ?_, fun s hs => ?_⟩
  · show 1 ≤ (2 : Int) ∧ (2 : Int) ≤ 5; decide
  · show 0 ≤ (3 : Int) ∧ (3 : Int) ≤ 9; decide
  · show 1 ≤ (4 : Int) ∧ (4 : Int) ≤ 9; decide
  · have : s = 0 ∨ s = 1 := by omega
    rcases this with rfl | rfl
    · show 0 ≤ (1000 : Int) ∧ (1000 : Int) ≤ 9999; decide
    · show 0 ≤ (1000 : Int) ∧ (1000 : Int) ≤ 9999; decide
  · show rbg W H (88 + c) = rbg W H (24 + c)
    rw [z c hc, rbg_0 (by omega)]
  · change rbg W H (24 + c) = 1 + 6 * s at e1
    rw [z c hc] at e1
    omega
  · rw [cnt_0 (b := bo (f, rbg W H)) (s := 0) (by decide) (fun c hc => z c hc), cnt_0 (b := bo (f, rbg W H)) (s := 1) (by decide) (fun c hc => z c hc)]
    exact h4.symm
  · show (f 5).toNat.testBit (4 + s) = kg W H (rbg W H) s
    rw [h5]
    have e1 : kg W H (rbg W H) s = false := by
      unfold kg
      refine decide_eq_false (fun q => ?_)
      have := of_decide_eq_true (ff_at (p := fun c => decide (rbg W H (24 + c) = 1 + 6 * (s : Nat))) (n := W * H) q)
      rw [z _ q] at this
      omega
    rw [e1]
    exact Nat.zero_testBit _
theorem cnt_p {b : Nat → Int} {s : Int} {c : Nat} (hc : c < W * H) (h : sd (b c) = s) : 1 ≤ cnt W H b s := by
  have e : cnt W H b s = ctn (fun c => decide (sd (b c) = s)) (W * H) := by
    unfold cnt ctn
    simp only [decide_eq_true_eq]
  rw [e]
  have := ctn_lt (q := fun _ => false) (q' := fun c => decide (sd (b c) = s)) (n := W * H) (j := c) (fun _ _ h => by cases h) hc rfl (decide_eq_true h)
  omega
theorem BG_0 {b : Nat → Int} (h : ∀ c, c < W * H → b c = 0) : BG W H b := by
  refine ⟨fun x y hx hy => ?_, fun s s1 s2 c c' hc hc' e1 e2 => ?_, ?_, ?_⟩
  · rw [h _ (cell_lt hx hy)]; decide
  · rw [h c hc] at e1; omega
  · rw [cnt_0 (by decide) h]; decide
  · rw [cnt_0 (by decide) h]; decide
theorem LJ.rg (h : LJ E W H) (hR : WR E.2 W H) (h4 : E.1 4 ≤ 32) (h48 : (E.1 5).toNat &&& 48 = 48) (hW : WA B L E) {k : Int} (hk : 1 ≤ k) : RG k E.2 W H := by
  obtain ⟨a, b, c, d, f, g⟩ := h
  have hw := hR.1.2.2
  have hN := WH_n hw
  have w5 := hW.2.2.1
  obtain ⟨t4, t5⟩ := (bit7 _ (by omega)).mp h48
  have g0 : kg W H E.2 0 = true := by rw [← g 0 (by decide)]; exact t4
  have g1 : kg W H E.2 1 = true := by rw [← g 1 (by decide)]; exact t5
  have one : ∀ s : Nat, s ≤ 1 → kg W H E.2 s = true → 1 ≤ cnt W H (bo E) (s : Nat) := fun s hs hg => by
    have q := of_decide_eq_true hg
    have := of_decide_eq_true (ff_at (p := fun c => decide (E.2 (24 + c) = 1 + 6 * (s : Nat))) (n := W * H) q)
    refine cnt_p q ?_
    show sd (E.2 (24 + _)) = _
    rw [this]
    have : s = 0 ∨ s = 1 := by omega
    rcases this with rfl | rfl <;> rfl
  have n0 := one 0 (by decide) g0
  have n1 := one 1 (by decide) g1
  have bg : BG W H (bo E) := by
    refine ⟨hR.2.1, d, ?_, ?_⟩
    · change 1 ≤ cnt W H (bo E) 1 at n1; omega
    · change 1 ≤ cnt W H (bo E) 0 at n0; omega
  have z : ∀ j, j < 584 → ¬ (j = 0 ∨ j = 1 ∨ j = 5 ∨ j = 6 ∨ j = 7 ∨ j = 15 ∨ j = 16 ∨ j = 17 ∨ j = 18) → ¬ pF j → ¬ (24 ≤ j ∧ j < 152) → E.2 j = 0 := fun j h0 h1 h2 h3 => by
    rw [a j h0 (by omega) h2 h3]
    exact rbg_0 h1
  refine RG.iff.mpr ⟨hR.1, ?_, fun s hs => ?_, hR.2.2.1, ?_, ?_⟩
  · obtain ⟨b1, b2⟩ := b
    exact ⟨⟨b1.1, by omega⟩, b2⟩
  · refine ⟨?_, ?_, ?_, ?_, ?_⟩
    · rw [z (9 + s) (by omega) (by omega) (by unfold pF; omega) (by omega)]; omega
    · have : E.2 (17 + s) = -1 := by
        rw [a (17 + s) (by omega) (by omega) (by unfold pF; omega) (by omega)]
        have : s = 0 ∨ s = 1 := by omega
        rcases this with rfl | rfl <;> rfl
      rw [this]; decide
    · intro x
      have : E.2 (17 + s) = -1 := by
        rw [a (17 + s) (by omega) (by omega) (by unfold pF; omega) (by omega)]
        have : s = 0 ∨ s = 1 := by omega
        rcases this with rfl | rfl <;> rfl
      exact absurd this x
    · refine bg.cg (fun j hj => ?_)
      have : s = 0 ∨ s = 1 := by omega
      rcases this with rfl | rfl
      · rfl
      · exact c j hj
    · exact BG_0 (fun j hj => z _ (by omega) (by omega) (by unfold pF; omega) (by omega))
  · rw [z 13 (by omega) (by omega) (by unfold pF; omega) (by omega)]; decide
  · have e14 : E.2 14 = 0 := z 14 (by omega) (by omega) (by unfold pF; omega) (by omega)
    refine ⟨by rw [e14]; decide, fun j hj => ?_⟩
    rw [e14] at hj
    omega
def Jn (B : Nat → Int) (L W H : Nat) (A : (Nat → Int) × (Nat → Int)) : Prop := WA B L A ∧ WR A.2 W H ∧ LI A W H
theorem Jn.st (h : Jn B L W H A) (h4 : A.1 4 ≤ 32) (hr : WR (aM B L (aSt B L W H A)).2 W H) : Jn B L W H (aM B L (aSt B L W H A)) :=
  ⟨(h.1.st h4).mq, hr, (h.2.2.st_ h.1 h.2.1).m_ h.2.1.1.2.2⟩
theorem WR_rpl {r : Nat → Int} (h : WR r W H) {x y : Nat} {v : Int} (hx : x < W) (hy : y < H) (v0 : 0 ≤ v) (v1 : v ≤ 12) : WR (rpl r (x + W * y) v) W H := by
  have c64 := cell_64 h.1.2.2 hx hy
  have n : ∀ k, (k < 24 ∨ 152 ≤ k) → rpl r (x + W * y) v k = r k := fun k hk => by
    unfold rpl
    rw [if_neg (by omega)]
  obtain ⟨⟨a1, a2, a3⟩, b, c, d, e⟩ := h
  refine ⟨⟨by rw [n 0 (by omega)]; exact a1, by rw [n 1 (by omega)]; exact a2, a3⟩, fun u w hu hw => ?_, c.cg (fun j hj => n j (by unfold pF at hj; omega)), by rw [n 13 (by omega)]; exact d, by rw [n 14 (by omega)]; exact e⟩
  dsimp only
  unfold rpl
  split
  · exact ⟨v0, v1⟩
  · exact b u w hu hw
end TE
