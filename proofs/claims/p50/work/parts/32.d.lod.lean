/-! loadGame of the law's text. -/
section TF
variable {m : Mm} {B : Nat → Int} {L W H : Nat}
theorem a122 {a b p w t : Nat} {ps : List (Nat × Nat × Nat × Nat)} {fs : List (Nat × Nat × Nat)} (hV : VL m) (hX : TX m) (hH : ∃ x : Nat, x < 8 ∧ m 80 1 = zI (x : Nat)) (hBT : BT m B L) (hW : WH W H) (ha : 60 ≤ a ∧ a ≤ 900) (hb : 60 ≤ b ∧ b ≤ 900) (hp : 1 ≤ p ∧ p ≤ 3) (hw : w ≤ 4) (ht : 1 ≤ t ∧ t ≤ 4) (hP : okP W H ps) (hP6 : ps.length ≤ 6) (hF : okF fs) (hF3 : fs.length ≤ 3)
    (h : Sg B L 0 (txt W H a b p w t (flP ps ++ flF fs))) :
    An (d_122 20 m) (fun q => q.1 = zI (2 + (ps.length : Nat)) ∧ ∃ r, St 1 q.2 r W H ((a : Nat) + (b : Nat)) ∧ r 2 = 0 ∧ ∀ c, c < W * H → r (24 + c) = r (88 + c)) := by
  unfold d_122
  rw [k_r0, k_r1, k_r2, k_r5]
  refine (c98 hBT hX).bd (fun m1 ⟨⟨o, C1, C2, C3⟩, G1, G2⟩ => ?_)
  obtain ⟨x1, x2, x3, x4, x5, x6, x7, x8⟩ := tx_all (o := o) hW ha hb hp hw ht hP hP6 hF hF3 h
  rw [x1, x2] at C2 C3
  rw [wbs, wr_nk (by decide), C1 2 (by decide) (by decide), x3, if_pos (show zI 0 = (0 : Int32) from rfl)]
  have g42 : GR (wr m1 21 1 0) 42 (aZ B L o).2 W H := C2.mm (fun a a1 a2 => wr_ne (by omega))
  refine (c49 gA_42 gA_23 (by decide) C3.k.1 C3.k.2.1 C3.k.2.2 g42).bd (fun m3 ⟨g3, f3⟩ => ?_)
  have e64 : d_64 80 m3 = some (wr m3 80 2 0) := rfl
  rw [e64, obs, wbs]
  have ff : ∀ a, a ≠ 20 → a ≠ 21 → a ≠ 80 → (a < 23 ∨ 60 < a) → wr (wr m3 80 2 0) 20 4 (bi false) a = m a := fun a a1 a2 a3 a4 => by
    rw [wr_ne a1, wr_ne a3, f3 a (by omega), wr_ne a2, G2 a a2 (by omega)]
  have f21 : wr (wr m3 80 2 0) 20 4 (bi false) 21 4 = m1 21 4 := by
    rw [wr_ne (by decide), wr_ne (by decide), f3 21 (by decide), wr_nk (by decide)]
  have f80 : wr (wr m3 80 2 0) 20 4 (bi false) 80 2 = 0 ∧ wr (wr m3 80 2 0) 20 4 (bi false) 80 1 = m 80 1 := ⟨by rw [wr_ne (by decide), wr_eq], by rw [wr_ne (by decide), wr_nk (by decide), f3 80 (by decide), wr_ne (by decide), G2 80 (by decide) (by decide)]⟩
  have g23 : GR (wr (wr m3 80 2 0) 20 4 (bi false)) 23 (aZ B L o).2 W H := g3.mm (fun a a1 a2 => by rw [wr_ne (by omega), wr_ne (by omega)])
  generalize wr (wr m3 80 2 0) 20 4 (bi false) = M at *
  obtain ⟨y1, y2, y3, -⟩ := x8
  have z2 : (aZ B L o).2 2 = 0 := by
    rw [y1 2 (by decide) (by omega) (by unfold pF; omega) (by omega)]
    exact rbg_0 (by omega)
  have z13 : (aZ B L o).2 13 = 0 := by
    rw [y1 13 (by decide) (by omega) (by unfold pF; omega) (by omega)]
    exact rbg_0 (by omega)
  obtain ⟨x, hx8, ex⟩ := hH
  refine An.so ⟨?_, (aZ B L o).2, ⟨⟨hV.mm (ff 0 (by decide) (by decide) (by decide) (by decide)) (ff 1 (by decide) (by decide) (by decide) (by decide)), x7, g23⟩, ⟨0, x, by decide, hx8, f80.1, f80.2.trans ex⟩, ⟨by rw [z13]; decide, fun k hk => by rw [z13] at hk; omega⟩, ?_⟩, z2, fun c hc => (y3 c hc).symm⟩
  · dsimp only
    rw [f21, C1 4 (by decide) (by decide), x4]
  · rw [z2, x5, x6]; omega
end TF
