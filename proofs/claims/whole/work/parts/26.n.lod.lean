/-! loadGame. -/
section TN
variable {m M : Mm} {L n : Nat} {B : Nat → Int} {E : (Nat → Int) × (Nat → Int)} {W H : Nat}
theorem cnt_p {b : Nat → Int} {s : Int} {c : Nat} (hc : c < W * H) (h : sd (b c) = s) : 1 ≤ cnt W H b s := by
  have e : cnt W H b s = ctn (fun c => decide (sd (b c) = s)) (W * H) := by
    unfold cnt ctn
    simp only [decide_eq_true_eq]
  rw [e]
  have := ctn_lt (q := fun _ => false) (q' := fun c => decide (sd (b c) = s)) (n := W * H) (j := c) (fun _ _ h => by cases h) hc rfl (decide_eq_true h)
  omega
theorem BG_0 {b : Nat → Int} (h : ∀ c, c < W * H → b c = 0) : BG W H b := by
  refine ⟨fun x y hx hy => ?_, fun s s1 s2 c c' hc hc' e1 e2 => ?_, ?_, ?_⟩
  · rw [h _ (cell_lt hx hy)]; decide
  · rw [h c hc] at e1; omega
  · rw [cnt_0 (by decide) h]; decide
  · rw [cnt_0 (by decide) h]; decide
/-- a row that was read is a row of a game -/
theorem LJ.rg (h : LJ E W H) (hR : WR E.2 W H) (h4 : E.1 4 ≤ 32) (h48 : (E.1 5).toNat &&& 48 = 48) (hW : WA B L E) {k : Int} (hk : 1 ≤ k) : RG k E.2 W H := by
  obtain ⟨a, b, c, d, f, g⟩ := h
  have hw := hR.1.2.2
  have hN := WH_n hw
  have w5 := hW.2.2.1
  obtain ⟨t4, t5⟩ := (bit7 _ (by omega)).mp h48
  have g0 : kg W H E.2 0 = true := by rw [← g 0 (by decide)]; exact t4
  have g1 : kg W H E.2 1 = true := by rw [← g 1 (by decide)]; exact t5
  have one : ∀ s : Nat, s ≤ 1 → kg W H E.2 s = true → 1 ≤ cnt W H (bo E) (s : Nat) := fun s hs hg => by
    have q := of_decide_eq_true hg
    have := of_decide_eq_true (ff_at (p := fun c => decide (E.2 (24 + c) = 1 + 6 * (s : Nat))) (n := W * H) q)
    refine cnt_p q ?_
    show sd (E.2 (24 + _)) = _
    rw [this]
    have : s = 0 ∨ s = 1 := by omega
    rcases this with rfl | rfl <;> rfl
  have n0 := one 0 (by decide) g0
  have n1 := one 1 (by decide) g1
  have bg : BG W H (bo E) := by
    refine ⟨hR.2.1, d, ?_, ?_⟩
    · change 1 ≤ cnt W H (bo E) 1 at n1; omega
    · change 1 ≤ cnt W H (bo E) 0 at n0; omega
  have z : ∀ j, j < 584 → ¬ (j = 0 ∨ j = 1 ∨ j = 5 ∨ j = 6 ∨ j = 7 ∨ j = 15 ∨ j = 16 ∨ j = 17 ∨ j = 18) → ¬ pF j → ¬ (24 ≤ j ∧ j < 152) → E.2 j = 0 := fun j h0 h1 h2 h3 => by
    rw [a j h0 (by omega) h2 h3]
    exact rbg_0 h1
  refine RG.iff.mpr ⟨hR.1, ?_, fun s hs => ?_, hR.2.2.1, ?_, ?_⟩
  · obtain ⟨b1, b2⟩ := b
    exact ⟨⟨b1.1, by omega⟩, b2⟩
  · refine ⟨?_, ?_, ?_, ?_, ?_⟩
    · rw [z (9 + s) (by omega) (by omega) (by unfold pF; omega) (by omega)]; omega
    · have : E.2 (17 + s) = -1 := by
        rw [a (17 + s) (by omega) (by omega) (by unfold pF; omega) (by omega)]
        have : s = 0 ∨ s = 1 := by omega
        rcases this with rfl | rfl <;> rfl
      rw [this]; decide
    · intro x
      have : E.2 (17 + s) = -1 := by
        rw [a (17 + s) (by omega) (by omega) (by unfold pF; omega) (by omega)]
        have : s = 0 ∨ s = 1 := by omega
        rcases this with rfl | rfl <;> rfl
      exact absurd this x
    · refine bg.cg (fun j hj => ?_)
      have : s = 0 ∨ s = 1 := by omega
      rcases this with rfl | rfl
      · rfl
      · exact c j hj
    · exact BG_0 (fun j hj => z _ (by omega) (by omega) (by unfold pF; omega) (by omega))
  · rw [z 13 (by omega) (by omega) (by unfold pF; omega) (by omega)]; decide
  · have e14 : E.2 14 = 0 := z 14 (by omega) (by omega) (by unfold pF; omega) (by omega)
    refine ⟨by rw [e14]; decide, fun j hj => ?_⟩
    rw [e14] at hj
    omega
theorem P_2 (hn : n ≤ 512) (hI : Inv n m) : PP n m (d_122 20 m) (fun m1 => d_302 249 m1) := by
  obtain ⟨r, W0, H0, hG⟩ := hI.2.2.1
  obtain ⟨i1, i2, -, i4, i5, i6, i7, i8⟩ := hI
  obtain ⟨l, l1, l2, l3, l4⟩ := i6
  have mo : ((n : Nat) : Int) ≤ ((n + 1 : Nat) : Int) := by omega
  have hb : ∀ i, i < l → (-128 ≤ (m 22 i).toInt ∧ (m 22 i).toInt ≤ 127) ∧ m 22 i = zI (m 22 i).toInt ∧ m 264 i = zI (m 22 i).toInt := fun i hi => by
    obtain ⟨v, v1, v2, v3, v4⟩ := l4 i hi
    have e : (m 22 i).toInt = v := by rw [v3]; exact zI_to (by omega) (by omega)
    rw [e]
    exact ⟨⟨v1, v2⟩, v3, v4⟩
  generalize hB : (fun i : Nat => (m 22 i).toInt) = B
  have hb' : ∀ i, i < l → (-128 ≤ B i ∧ B i ≤ 127) ∧ m 22 i = zI (B i) ∧ m 264 i = zI (B i) := fun i hi => by
    rw [← hB]
    exact hb i hi
  have hBT : BT m B l := ⟨l1, l2, fun i hi => ⟨(hb' i hi).1, (hb' i hi).2.1⟩⟩
  unfold PP d_122
  rw [k_r0, k_r1, k_r2, k_r5]
  refine (c98 hBT i2).bd (fun m1 ⟨⟨o, C1, C2, C3⟩, G1, G2⟩ => ?_)
  rw [wbs, wr_nk (by decide), C1 2 (by decide) (by decide)]
  have wE : 0 ≤ (aZ B l o).1 2 ∧ (aZ B l o).1 2 ≤ 5 := by
    obtain ⟨-, -, -, X4⟩ := aH_W (B := B) (L := l) (o := o)
    have i := aX_I (W := (aHw B l o).toNat) (H := (aHh B l o).toNat) X4 _ (Nat.le_refl _)
    have : WA B l (aZ B l o) := by
      unfold aZ aE
      split
      · exact i.1
      · exact i.1.f (by decide)
    exact this.1
  by_cases q : (aZ B l o).1 2 = 0
  · -- read without error
    rw [q, if_pos (show zI 0 = (0 : Int32) from rfl)]
    have hw := C3.1.2.2
    have g42 : GR (wr m1 21 1 0) 42 (aZ B l o).2 (aHw B l o).toNat (aHh B l o).toNat := C2.mm (fun a a1 a2 => wr_ne (by omega))
    refine (c49 gA_42 gA_23 (by decide) C3.k.1 C3.k.2.1 C3.k.2.2 g42).bd (fun m3 ⟨g3, f3⟩ => ?_)
    have e64 : d_64 80 m3 = some (wr m3 80 2 0) := rfl
    rw [e64]
    simp only [obs]
    rw [wbs]
    have ff : ∀ a, a ≠ 20 → a ≠ 21 → a ≠ 80 → (a < 23 ∨ 60 < a) → wr (wr m3 80 2 0) 20 4 (bi false) a = m a := fun a a1 a2 a3 a4 => by
      rw [wr_ne a1, wr_ne a3, f3 a (by omega), wr_ne a2, G2 a a2 (by omega)]
    have f21 : ∀ j, wr (wr m3 80 2 0) 20 4 (bi false) 21 j = if j = 1 then 0 else m1 21 j := fun j => by
      rw [wr_ne (by decide), wr_ne (by decide), f3 21 (by decide), wr_at]
    have f20 : ∀ j, j ≠ 4 → wr (wr m3 80 2 0) 20 4 (bi false) 20 j = m 20 j := fun j hj => by
      rw [wr_nk hj, wr_ne (by decide), f3 20 (by decide), wr_ne (by decide), G2 20 (by decide) (by decide)]
    have f20e : wr (wr m3 80 2 0) 20 4 (bi false) 20 4 = bi false := wr_eq
    have f80 : wr (wr m3 80 2 0) 20 4 (bi false) 80 2 = 0 ∧ wr (wr m3 80 2 0) 20 4 (bi false) 80 1 = m 80 1 := ⟨by rw [wr_ne (by decide), wr_eq], by rw [wr_ne (by decide), wr_nk (by decide), f3 80 (by decide), wr_ne (by decide), G2 80 (by decide) (by decide)]⟩
    have g23 : GR (wr (wr m3 80 2 0) 20 4 (bi false)) 23 (aZ B l o).2 (aHw B l o).toNat (aHh B l o).toNat := g3.mm (fun a a1 a2 => by rw [wr_ne (by omega), wr_ne (by omega)])
    generalize wr (wr m3 80 2 0) 20 4 (bi false) = M at *
    refine An.so ⟨ff 2 (by decide) (by decide) (by decide) (by decide), ?_⟩
    dsimp only
    have e249 : M 249 = m 249 := ff 249 (by decide) (by decide) (by decide) (by decide)
    refine (m302 (m := M) (B := B) l1 (by rw [e249]; exact l3) (fun i hi => ⟨(hb' i hi).1, by rw [ff 264 (by decide) (by decide) (by decide) (by decide)]; exact (hb' i hi).2.2⟩) (i2.mm (fun a a1 a2 => ff a (by omega) (by omega) (by omega) (by omega))) o).mp (fun p hp => ?_)
    obtain ⟨p1, -, p3, p4, p5, p6, p7⟩ := hp
    obtain ⟨p11, p12, p13, p14, p15, p16, p17, p18, p19⟩ := p1 q
    have fa : ∀ a, a ≠ 20 → a ≠ 21 → a ≠ 80 → (a < 23 ∨ 60 < a) → a ≠ 249 → a ≠ 250 → a ≠ 254 → p.2 a = m a := fun a a1 a2 a3 a4 a5 a6 a7 => by
      rw [p7 a a5 a6 a7, ff a a1 a2 a3 a4]
    refine ⟨?_, i1.mm (fa 0 (by decide) (by decide) (by decide) (by decide) (by decide) (by decide) (by decide)) (fa 1 (by decide) (by decide) (by decide) (by decide) (by decide) (by decide) (by decide)), i2.mm (fun a a1 a2 => fa a (by omega) (by omega) (by omega) (by omega) (by omega) (by omega) (by omega)), ?_, ?_, ?_, ?_, ?_, ?_⟩
    · rw [f21, p11, C1 4 (by decide) (by decide)]; rfl
    · exact ⟨_, _, _, p12, p15.rg p16 p17 p18 p19 (by omega), g23.mm (fun a a1 a2 => p7 a (by omega) (by omega) (by omega))⟩
    · exact ⟨false, by rw [p7 20 (by decide) (by decide) (by decide)]; exact f20e, p14, fun h => by cases h⟩
    · obtain ⟨c, x, b1, b2, b3, b4, b5, b6⟩ := i5
      exact ⟨0, x, by omega, b2, by rw [p7 80 (by decide) (by decide) (by decide)]; exact f80.1, by rw [p7 80 (by decide) (by decide) (by decide), f80.2]; exact b4, p13, fun j hj => absurd hj (Nat.not_lt_zero j)⟩
    · exact ⟨0, by omega, by rw [p7 21 (by decide) (by decide) (by decide), f21]; rfl, p5, fun i hi => absurd hi (Nat.not_lt_zero i)⟩
    · refine ⟨?_, ?_⟩
      · rw [p7 21 (by decide) (by decide) (by decide), f21, p3]
        exact C1 2 (by decide) (by decide)
      · rw [p7 21 (by decide) (by decide) (by decide), f21, p4]
        exact C1 3 (by decide) (by decide)
    · exact i8.mm (by rw [p7 20 (by decide) (by decide) (by decide)]; exact f20 10 (by decide)) (by rw [p6, e249]) (fa 248 (by decide) (by decide) (by decide) (by decide) (by decide) (by decide) (by decide)) (fa 265 (by decide) (by decide) (by decide) (by decide) (by decide) (by decide) (by decide))
  · -- an error
    rw [if_neg (by rw [zl_0, zI_inj (by omega) (by omega) (by omega) (by omega)]; exact q)]
    have ff : ∀ a, a ≠ 21 → (a < 42 ∨ 60 < a) → wr m1 21 1 0 a = m a := fun a a1 a2 => by rw [wr_ne a1, G2 a a1 (by omega)]
    have f21 : ∀ j, wr m1 21 1 0 21 j = if j = 1 then 0 else m1 21 j := fun j => by rw [wr_at]
    generalize wr m1 21 1 0 = M at *
    refine An.so ⟨ff 2 (by decide) (by decide), ?_⟩
    dsimp only
    have e249 : M 249 = m 249 := ff 249 (by decide) (by decide)
    refine (m302 (m := M) (B := B) l1 (by rw [e249]; exact l3) (fun i hi => ⟨(hb' i hi).1, by rw [ff 264 (by decide) (by decide)]; exact (hb' i hi).2.2⟩) (i2.mm (fun a a1 a2 => ff a (by omega) (by omega))) o).mp (fun p hp => ?_)
    obtain ⟨-, p2, p3, p4, p5, p6, p7⟩ := hp
    obtain ⟨p21, p22, p23, p24⟩ := p2 q
    have fa : ∀ a, a ≠ 21 → (a < 42 ∨ 60 < a) → a ≠ 249 → a ≠ 250 → a ≠ 254 → p.2 a = m a := fun a a1 a2 a3 a4 a5 => by
      rw [p7 a a3 a4 a5, ff a a1 a2]
    refine ⟨p21.symm, i1.mm (fa 0 (by decide) (by decide) (by decide) (by decide) (by decide)) (fa 1 (by decide) (by decide) (by decide) (by decide) (by decide)), i2.mm (fun a a1 a2 => fa a (by omega) (by omega) (by omega) (by omega) (by omega)), ?_, ?_, ?_, ?_, ?_, ?_⟩
    · refine ⟨r, W0, H0, fun k hk => ?_, hG.2.1.mono mo, hG.2.2.mm (fun a a1 a2 => fa a (by omega) (by omega) (by omega) (by omega) (by omega))⟩
      rw [p22 k hk, ff 250 (by decide) (by decide)]
      exact hG.1 k hk
    · exact i4.mm mo (by rw [fa 20 (by decide) (by decide) (by decide) (by decide) (by decide)]) (by rw [p24, e249]) (fa 255 (by decide) (by decide) (by decide) (by decide) (by decide)) (fun a a1 a2 => fa a (by omega) (by omega) (by omega) (by omega) (by omega))
    · exact i5.mm mo (fa 80 (by decide) (by decide) (by decide) (by decide) (by decide)) (by rw [p23, e249]) (fa 256 (by decide) (by decide) (by decide) (by decide) (by decide)) (fun a a1 a2 => fa a (by omega) (by omega) (by omega) (by omega) (by omega))
    · exact ⟨0, by omega, by rw [p7 21 (by decide) (by decide) (by decide), f21]; rfl, p5, fun i hi => absurd hi (Nat.not_lt_zero i)⟩
    · refine ⟨?_, ?_⟩
      · rw [p7 21 (by decide) (by decide) (by decide), f21, p3]
        exact C1 2 (by decide) (by decide)
      · rw [p7 21 (by decide) (by decide) (by decide), f21, p4]
        exact C1 3 (by decide) (by decide)
    · exact i8.mm (by rw [fa 20 (by decide) (by decide) (by decide) (by decide) (by decide)]) (by rw [p6, e249]) (fa 248 (by decide) (by decide) (by decide) (by decide) (by decide)) (fa 265 (by decide) (by decide) (by decide) (by decide) (by decide))
end TN
