/-! A sending, by the reference, whole. -/
section MZ
variable {m : Mm} {W H : Nat} {r : Nat → Int}
theorem tot_cg {b b' : Nat → Int} {n : Nat} (h : ∀ c, c < n → b' c = b c) : tot n b' = tot n b := fo_congr (fun k hk s => by rw [h k hk])
theorem twi_cg {b b' : Nat → Int} {x y X Y : Nat} (hx : x < W) (hy : y < H) (hX : X < W) (hY : Y < H) (h : ∀ c, c < W * H → b' c = b c) : twi W H b' x y X Y = twi W H b x y X Y := by
  unfold twi
  rw [tot_cg h, h _ (cell_lt hx hy), h _ (cell_lt hX hY)]
theorem rfo_n {q s : Nat} {rd : Int} {x y X Y j : Nat} (hj : ¬ pB q j) : rfo W H r q s rd x y X Y j = r j := by
  unfold rfo
  split
  · exact rb1_n hj
  · split
    · exact rb3_n hj
    · rfl
theorem rfo_cg {r1 r2 : Nat → Int} {q s : Nat} {rd : Int} {x y X Y j : Nat} (hw : WH W H) (hx : rd = 1 ∨ rd = 3 → x < W ∧ y < H) (hq : q ≤ 1) (h : ∀ i, pB q i → r1 i = r2 i) (hj : pB q j) : rfo W H r1 q s rd x y X Y j = rfo W H r2 q s rd x y X Y j := by
  unfold rfo
  by_cases q1 : rd = 1
  · have c1 := cell_64 hw (hx (Or.inl q1)).1 (hx (Or.inl q1)).2
    rw [if_pos q1, if_pos q1]
    unfold rb1
    by_cases k1 : 24 + 64 * q ≤ j ∧ j < 88 + 64 * q
    · rw [if_pos k1, if_pos k1]
      unfold mb
      dsimp only
      rw [h (24 + 64 * q + (x + W * y)) (by unfold pB; omega), h (24 + 64 * q + (j - (24 + 64 * q))) (by unfold pB; omega)]
    · rw [if_neg k1, if_neg k1]
      by_cases k2 : 152 + 64 * q ≤ j ∧ j < 216 + 64 * q
      · rw [if_pos k2, if_pos k2, h (j - 128) (by unfold pB; omega)]
      · rw [if_neg k2, if_neg k2, h (9 + q) (by unfold pB; omega), h j hj]
  · rw [if_neg q1, if_neg q1]
    by_cases q3 : rd = 3
    · have c1 := cell_64 hw (hx (Or.inr q3)).1 (hx (Or.inr q3)).2
      rw [if_pos q3, if_pos q3]
      unfold rb3
      by_cases k1 : 24 + 64 * q ≤ j ∧ j < 88 + 64 * q
      · rw [if_pos k1, if_pos k1]
        unfold mb
        dsimp only
        rw [h (152 + 64 * q + (x + W * y)) (by unfold pB; omega), h (152 + 64 * q + (j - (24 + 64 * q))) (by unfold pB; omega)]
      · rw [if_neg k1, if_neg k1, h j hj]
    · rw [if_neg q3, if_neg q3, h j hj]
theorem sl_q {q s : Nat} (hq : q ≤ 1) (hs : s ≤ 1) {d : Int} {vs : Nat → Int} {r1 : Nat → Int} {i : Nat} (hi : pB q i) : rls (rsp r1 s d) vs i = r1 i := by
  unfold pB at hi
  rw [rls_n (by unfold pL; omega)]
  unfold rsp
  rw [if_neg (by omega), if_neg (by omega)]
theorem sl_cg {q s : Nat} {r1 r2 : Nat → Int} {d : Int} {vs : Nat → Int} (hs : s ≤ 1) (hq : q ≤ 1) (h : ∀ i, ¬ pB q i → r1 i = r2 i) {j : Nat} (hj : ¬ pB q j) : rls (rsp r1 s d) vs j = rls (rsp r2 s d) vs j := by
  have o : ∀ i, ¬ pB q i → rsp r1 s d i = rsp r2 s d i := fun i hi => by
    unfold rsp
    rw [h 2 (by unfold pB; omega), h (15 + s) (by unfold pB; omega), h i hi]
  have o8 : ∀ k, 304 ≤ k → ¬ pB q k := fun k hk => by unfold pB; omega
  unfold rls
  rw [o 13 (by unfold pB; omega), o 12 (by unfold pB; omega), o j hj]
  by_cases k1 : 304 ≤ j ∧ j < 464
  · rw [o (j + 8) (o8 _ (by omega))]
  · rw [if_neg k1, if_neg k1]
/-- the row behind a sending, followed ahead of what is noted -/
theorem stw_c {s q x y X Y : Nat} {w : Int} (hw : WH W H) (hs : s ≤ 1) (hq : q ≤ 1) : ∀ k, stw W H r s q x y X Y w k = rls (rsp (rfo W H r q s (frd W H r s q x y X Y (r 2 + w)) (sx (fl r s x y X Y (r 2 + w))) (sy (fl r s x y X Y (r 2 + w))) (sX (fl r s x y X Y (r 2 + w))) (sY (fl r s x y X Y (r 2 + w)))) s (w + ftk W H r s q x y X Y (r 2 + w))) (svs W H r s q x y X Y (r 2 + w)) k := by
  intro k
  unfold stw
  by_cases hk : pB q k
  · rw [sl_q hq hs hk]
    exact rfo_cg hw (fun e => by
      have := frd_i (W := W) (H := H) (r := r) (s := s) (q := q) (x := x) (y := y) (X := X) (Y := Y) (t := r 2 + w) (by omega)
      exact ⟨this.1, this.2.1⟩) hq (fun i hi => sl_q hq hs hi) hk
  · rw [rfo_n hk]
    exact sl_cg hs hq (fun i hi => (rfo_n hi).symm) hk
theorem rsc {r1 : Nat → Int} {q : Nat} (hq : q ≤ 1) (h : ∀ i, ¬ pB q i → r1 i = r i) : rF r1 = rF r ∧ rL r1 = rL r ∧ rE r1 = rE r := by
  refine ⟨funext fun k => h _ ?_, funext fun k => h _ ?_, funext fun k => h _ ?_⟩ <;> (unfold pB; omega)
end MZ
