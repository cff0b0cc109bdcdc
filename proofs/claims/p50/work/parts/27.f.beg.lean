/-! The game at the start. -/
section NF
variable {m M : Mm} {W H : Nat} {xs : Nat → Int32}
theorem c50 {A : (Nat → Int) × (Nat → Int)} {g : Nat} (hg : gA g) (hG : GR m g A.2 W H) (hR : WR A.2 W H) {x y : Nat} (hx : x < W) (hy : y < H) {v : Int} (v0 : 0 ≤ v) (v1 : v ≤ 12) : An (d_50 g (zI ((x + 8 * y : Nat) : Int)) (zI (v - 1)) m) (fun M => (GR M g (rpl A.2 (x + W * y) v) W H ∧ WR (rpl A.2 (x + W * y) v) W H) ∧ ∀ a, a < g ∨ g + 18 < a → M a = m a) := by
  have F := gA_F hg
  have hw := hR.1.2.2
  have hk := hR.k
  have hw' := hw
  obtain ⟨w1, w2, w3, w4⟩ := hw'
  have cc := cell_64 hw hx hy
  unfold d_50
  rw [F.1, F.2.1, F.2.2.2.2.2.1.1, F.2.2.2.2.2.2.1.1, c18 F.2.2.2.2.2.1.2.2.1 (by omega)]
  simp only [obs]
  rw [c18 F.2.2.2.2.2.2.1.2.2.1 (by omega)]
  refine An.so ⟨⟨?_, ?_⟩, fun a ha => by rw [wr_ne (by omega), wr_ne (by omega)]⟩
  · have g1 : GR (wr m (g + 1 + 1 + 1) (x + 8 * y) (zI (v - 1))) g (rs A.2 (24 + (x + W * y)) v) W H := by
      refine hG.cB hw hk.1 hk.2.1 hk.2.2 (s := 0) (by decide) (fun a a1 a2 a3 => wr_ne (by omega)) (fun j _ hj => rs_ne (fun e => hj (by unfold pB; omega))) ?_
      have b0 := hG.bd (s := 0) (by decide)
      refine ⟨(b0.1.put hw hx hy (p := v)).bb (fun u w hu hw' => ?_), (b0.2.1.mm (wr_ne (by omega)) (wr_ne (by omega))).bb (fun u w hu hw' => ?_), ?_, ?_, fun z => ⟨?_, ?_⟩⟩
      · show (if u + W * w = x + W * y then v else A.2 (24 + 64 * 0 + (u + W * w))) = rs A.2 (24 + (x + W * y)) v (24 + 64 * 0 + (u + W * w))
        unfold rs
        by_cases e : u + W * w = x + W * y
        · rw [if_pos e, if_pos (by omega)]
        · rw [if_neg e, if_neg (by omega)]
      · have := cell_64 hw hu hw'
        exact (rs_ne (by omega)).symm
      · rw [wr_ne (by omega), rs_ne (by omega)]; exact b0.2.2.1
      · rw [wr_ne (by omega), rs_ne (by omega)]; exact b0.2.2.2.1
      · rw [wr_ne (by omega), rs_ne (by omega)]
        rw [rs_ne (by omega)] at z
        exact (b0.2.2.2.2 z).1
      · rw [wr_ne (by omega), rs_ne (by omega)]
        rw [rs_ne (by omega)] at z
        exact (b0.2.2.2.2 z).2
    have g2 : GR (wr (wr m (g + 1 + 1 + 1) (x + 8 * y) (zI (v - 1))) (g + 6 + 1 + 1) (x + 8 * y) (zI (v - 1))) g (rs (rs A.2 (24 + (x + W * y)) v) (88 + (x + W * y)) v) W H := by
      refine g1.cB hw (by rw [rs_ne (by omega)]; exact hk.1) (by rw [rs_ne (by omega)]; exact hk.2.1) (by rw [rs_ne (by omega)]; exact hk.2.2) (s := 1) (by decide) (fun a a1 a2 a3 => wr_ne (by omega)) (fun j _ hj => rs_ne (fun e => hj (by unfold pB; omega))) ?_
      have b0 := g1.bd (s := 1) (by decide)
      refine ⟨(b0.1.put hw hx hy (p := v)).bb (fun u w hu hw' => ?_), (b0.2.1.mm (wr_ne (by omega)) (wr_ne (by omega))).bb (fun u w hu hw' => ?_), ?_, ?_, fun z => ⟨?_, ?_⟩⟩
      · show (if u + W * w = x + W * y then v else rs A.2 (24 + (x + W * y)) v (24 + 64 * 1 + (u + W * w))) = rs (rs A.2 (24 + (x + W * y)) v) (88 + (x + W * y)) v (24 + 64 * 1 + (u + W * w))
        have c1 := cell_64 hw hu hw'
        by_cases e : u + W * w = x + W * y
        · rw [if_pos e]
          unfold rs
          rw [if_pos (by omega)]
        · rw [if_neg e]
          conv => rhs; unfold rs
          rw [if_neg (by omega)]
          rfl
      · have := cell_64 hw hu hw'
        exact (rs_ne (by omega)).symm
      · rw [wr_ne (by omega), rs_ne (by omega)]; exact b0.2.2.1
      · rw [wr_ne (by omega), rs_ne (by omega)]; exact b0.2.2.2.1
      · rw [wr_ne (by omega), rs_ne (by omega)]
        rw [rs_ne (by omega)] at z
        exact (b0.2.2.2.2 z).1
      · rw [wr_ne (by omega), rs_ne (by omega)]
        rw [rs_ne (by omega)] at z
        exact (b0.2.2.2.2 z).2
    have e : rs (rs A.2 (24 + (x + W * y)) v) (88 + (x + W * y)) v = rpl A.2 (x + W * y) v := by
      funext k
      unfold rs rpl
      by_cases e1 : k = 88 + (x + W * y)
      · rw [if_pos e1, if_pos (Or.inr e1)]
      · rw [if_neg e1]
        by_cases e2 : k = 24 + (x + W * y)
        · rw [if_pos e2, if_pos (Or.inl e2)]
        · rw [if_neg e2, if_neg (fun z => z.elim e2 e1)]
    rw [← e]
    exact g2
  · obtain ⟨⟨a1, a2, a3⟩, b, c, d, e⟩ := hR
    have hn : ∀ j, j < 24 ∨ 280 ≤ j → rpl A.2 (x + W * y) v j = A.2 j := fun j hj => by
      unfold rpl
      rw [if_neg (by omega)]
    refine ⟨⟨by rw [hn 0 (by omega)]; exact a1, by rw [hn 1 (by omega)]; exact a2, a3⟩, fun u w hu hw' => ?_, c.cg (fun j hj => hn j (by unfold pF at hj; omega)), by rw [hn 13 (by omega)]; exact d, by rw [hn 14 (by omega)]; exact e⟩
    dsimp only
    have c1 := cell_64 hw hu hw'
    unfold rpl
    by_cases e1 : u + W * w = x + W * y
    · rw [if_pos (by omega)]; exact ⟨v0, v1⟩
    · rw [if_neg (by omega)]; exact b u w hu hw'
/-- the row at the start -/
def r_st : Nat → Int := rpl (rpl (rpl (rpl (rbg 5 5) 2 1) 0 3) 22 7) 24 9
theorem WH_5 : WH 5 5 := by unfold WH; omega
theorem c119 : An (d_119 20 m) (fun M => GR M 23 r_st 5 5 ∧ ∀ a, a < 23 ∨ 41 < a → M a = m a) := by
  unfold d_119
  rw [k_r1]
  refine (c48 (m := m) (W := 5) (H := 5) gA_23 WH_5).bd (fun m1 ⟨a1, a2⟩ => ?_)
  have e1 : d_12 2 0 = some (zI ((2 + 8 * 0 : Nat) : Int)) := by decide +kernel
  have e2 : d_12 0 0 = some (zI ((0 + 8 * 0 : Nat) : Int)) := by decide +kernel
  have e3 : d_12 2 4 = some (zI ((2 + 8 * 4 : Nat) : Int)) := by decide +kernel
  have e4 : d_12 4 4 = some (zI ((4 + 8 * 4 : Nat) : Int)) := by decide +kernel
  rw [e1, e2, e3, e4]
  simp only [obs]
  refine (c50 (A := (rbg 5 5, rbg 5 5)) gA_23 a1 (rbg_R WH_5) (x := 2) (y := 0) (by decide) (by decide) (v := 1) (by decide) (by decide)).bd (fun m3 ⟨⟨b1, b2⟩, b3⟩ => ?_)
  refine (c50 (A := (rpl (rbg 5 5) 2 1, rpl (rbg 5 5) 2 1)) gA_23 b1 b2 (x := 0) (y := 0) (by decide) (by decide) (v := 3) (by decide) (by decide)).bd (fun m5 ⟨⟨d1, d2⟩, d3⟩ => ?_)
  refine (c50 (A := (rpl (rpl (rbg 5 5) 2 1) 0 3, rpl (rpl (rbg 5 5) 2 1) 0 3)) gA_23 d1 d2 (x := 2) (y := 4) (by decide) (by decide) (v := 7) (by decide) (by decide)).bd (fun m7 ⟨⟨f1, f2⟩, f3⟩ => ?_)
  refine (c50 (A := (rpl (rpl (rpl (rbg 5 5) 2 1) 0 3) 22 7, rpl (rpl (rpl (rbg 5 5) 2 1) 0 3) 22 7)) gA_23 f1 f2 (x := 4) (y := 4) (by decide) (by decide) (v := 9) (by decide) (by decide)).bd (fun m9 ⟨⟨g1, g2⟩, g3⟩ => ?_)
  exact An.so ⟨g1, fun a ha => by rw [g3 a ha, f3 a ha, d3 a ha, b3 a ha, a2 a ha]⟩
end NF
