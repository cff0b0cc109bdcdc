/-! The text that the law sets up, read: the whole. -/
section TD
variable {B : Nat → Int} {L W H : Nat} {A : (Nat → Int) × (Nat → Int)}
def flP : List (Nat × Nat × Nat × Nat) → List Nat
  | [] => []
  | p :: l => txP p.1 p.2.1 p.2.2.1 p.2.2.2 ++ flP l
def flF : List (Nat × Nat × Nat) → List Nat
  | [] => []
  | p :: l => txF p.1 p.2.1 p.2.2 ++ flF l
/-- the text -/
def txB (W H a b p w t : Nat) (R : List Nat) : List Nat := wd 1 ++ ([32] ++ (dg a ++ ([32] ++ (dg b ++ ([59] ++ (wd 2 ++ ([32] ++ (dg p ++ ([59] ++ (wd 3 ++ ([32] ++ (dg w ++ ([59] ++ (wd 4 ++ ([32] ++ (dg t ++ ([59] ++ (txP 0 0 0 0 ++ (txP 1 0 (W - 1) (H - 1) ++ R)))))))))))))))))))
def txt (W H a b p w t : Nat) (R : List Nat) : List Nat := wd 0 ++ ([32] ++ (dg W ++ ([32] ++ (dg H ++ ([59] ++ txB W H a b p w t R)))))
/-- the cell of a piece -/
def pcl (W : Nat) (p : Nat × Nat × Nat × Nat) : Nat := p.2.2.1 + W * p.2.2.2
def okP (W H : Nat) (ps : List (Nat × Nat × Nat × Nat)) : Prop := ∀ i, i < ps.length → ((ps.getD i (0, 0, 0, 0)).1 ≤ 1 ∧ 1 ≤ (ps.getD i (0, 0, 0, 0)).2.1 ∧ (ps.getD i (0, 0, 0, 0)).2.1 ≤ 5 ∧ (ps.getD i (0, 0, 0, 0)).2.2.1 < W ∧ (ps.getD i (0, 0, 0, 0)).2.2.2 < H) ∧ pcl W (ps.getD i (0, 0, 0, 0)) ≠ 0 ∧ pcl W (ps.getD i (0, 0, 0, 0)) ≠ W * H - 1 ∧ ∀ j, j < i → pcl W (ps.getD j (0, 0, 0, 0)) ≠ pcl W (ps.getD i (0, 0, 0, 0))
def okF (fs : List (Nat × Nat × Nat)) : Prop := ∀ i, i < fs.length → (100 * i ≤ (fs.getD i (0, 0, 0)).1 ∧ (fs.getD i (0, 0, 0)).1 ≤ 100 * i + 90) ∧ (1 ≤ (fs.getD i (0, 0, 0)).2.1 ∧ (fs.getD i (0, 0, 0)).2.1 ≤ 40) ∧ 1 ≤ (fs.getD i (0, 0, 0)).2.2 ∧ (fs.getD i (0, 0, 0)).2.2 ≤ 9
theorem drop_c {α : Type} {l : List α} {d : α} {n : Nat} (h : n < l.length) : l.drop n = l.getD n d :: l.drop (n + 1) := by
  rw [List.drop_eq_getElem_cons h, List.getD_eq_getElem?_getD, List.getElem?_eq_getElem h]
  rfl
theorem rpl_n {r : Nat → Int} {c : Nat} {v : Int} {k : Nat} (h : k < 24 ∨ 152 ≤ k) (hc : c < 64) : rpl r c v k = r k := by
  unfold rpl
  rw [if_neg (by omega)]
theorem tx_run {a b p w t : Nat} {ps : List (Nat × Nat × Nat × Nat)} {fs : List (Nat × Nat × Nat)} (hW : WH W H) (ha : 60 ≤ a ∧ a ≤ 900) (hb : 60 ≤ b ∧ b ≤ 900) (hp : 1 ≤ p ∧ p ≤ 3) (hw : w ≤ 4) (ht : 1 ≤ t ∧ t ≤ 4) (hP : okP W H ps) (hP6 : ps.length ≤ 6) (hF : okF fs) (hF3 : fs.length ≤ 3)
    (h : Rd B L A (txB W H a b p w t (flP ps ++ flF fs))) (h4 : A.1 4 = 0) (h5 : A.1 5 = 0) (h2 : A.2 = rbg W H) (hJ : Jn B L W H A) :
    ∃ N, N ≤ 15 ∧ (∀ j, j < N → cnd (aX B L W H A j) = true) ∧ At B L (aX B L W H A N) 0 [] [] ∧ (aX B L W H A N).1 4 = 2 + (ps.length : Nat) ∧ (aX B L W H A N).1 5 = 63 ∧ (aX B L W H A N).2 15 = (a : Nat) ∧ (aX B L W H A N).2 16 = (b : Nat) ∧ Jn B L W H (aX B L W H A N) := by
  have hW' := hW
  obtain ⟨w1, w2, w3, w4⟩ := hW'
  have sX : ∀ k, aX B L W H A (k + 1) = aM B L (aSt B L W H (aX B L W H A k)) := fun k => rfl
  unfold txB at h
  have b1 := stC (W := W) (H := H) h (by omega) (by omega) (by omega) (by omega) (by rw [h5]; decide)
  rw [h4, h5, h2] at b1
  obtain ⟨r1, e1, f1, g1, c1⟩ := b1
  have j1 := hJ.st (by rw [h4]; decide) (by rw [e1]; exact ((rbg_R hW).sv (k := 15) (by unfold pS; omega)).sv (k := 16) (by unfold pS; omega))
  have b2 := stS (W := W) (H := H) (Or.inl ⟨rfl, rfl, rfl, rfl, rfl⟩) r1 (by omega) (by omega) (by rw [g1]; decide)
  rw [e1, f1, g1] at b2
  obtain ⟨r2, e2, f2, g2, c2⟩ := b2
  have j2 := j1.st (by rw [f1]; decide) (by rw [e2, ← e1]; exact j1.2.1.sv (k := 5) (by unfold pS; omega))
  have b3 := stS (W := W) (H := H) (Or.inr (Or.inl ⟨rfl, rfl, rfl, rfl, rfl⟩)) r2 (by omega) (by omega) (by rw [g2]; decide)
  rw [e2, f2, g2] at b3
  obtain ⟨r3, e3, f3, g3, c3⟩ := b3
  have j3 := j2.st (by rw [f2]; decide) (by rw [e3, ← e2]; exact j2.2.1.sv (k := 6) (by unfold pS; omega))
  have b4 := stS (W := W) (H := H) (Or.inr (Or.inr ⟨rfl, rfl, rfl, rfl, rfl⟩)) r3 (by omega) (by omega) (by rw [g3]; decide)
  rw [e3, f3, g3] at b4
  obtain ⟨r4, e4, f4, g4, c4⟩ := b4
  have j4 := j3.st (by rw [f3]; decide) (by rw [e4, ← e3]; exact j3.2.1.sv (k := 7) (by unfold pS; omega))
  have bd : ∀ c, c < 64 → rs (rs (rs (rs (rs (rbg W H) 15 (a : Nat)) 16 (b : Nat)) 5 (p : Nat)) 6 (w : Nat)) 7 (t : Nat) (24 + c) = 0 := fun c hc => by
    rw [rs_ne (by omega), rs_ne (by omega), rs_ne (by omega), rs_ne (by omega), rs_ne (by omega)]
    exact rbg_0 (by omega)
  have q15 : rs (rs (rs (rs (rs (rbg W H) 15 (a : Nat)) 16 (b : Nat)) 5 (p : Nat)) 6 (w : Nat)) 7 (t : Nat) 15 = (a : Nat) := by
    rw [rs_ne (by decide), rs_ne (by decide), rs_ne (by decide), rs_ne (by decide), rs_eq]
  have q16 : rs (rs (rs (rs (rs (rbg W H) 15 (a : Nat)) 16 (b : Nat)) 5 (p : Nat)) 6 (w : Nat)) 7 (t : Nat) 16 = (b : Nat) := by
    rw [rs_ne (by decide), rs_ne (by decide), rs_ne (by decide), rs_eq]
  have q8 : rs (rs (rs (rs (rs (rbg W H) 15 (a : Nat)) 16 (b : Nat)) 5 (p : Nat)) 6 (w : Nat)) 7 (t : Nat) 8 = 0 := by
    rw [rs_ne (by decide), rs_ne (by decide), rs_ne (by decide), rs_ne (by decide), rs_ne (by decide)]
    exact rbg_0 (by omega)
  generalize rs (rs (rs (rs (rs (rbg W H) 15 (a : Nat)) 16 (b : Nat)) 5 (p : Nat)) 6 (w : Nat)) 7 (t : Nat) = ρ4 at *
  have hlast : (W - 1) + W * (H - 1) = W * H - 1 := by
    have : W * H = W * (H - 1) + W := by
      obtain ⟨H', rfl⟩ : ∃ H', H = H' + 1 := ⟨H - 1, by omega⟩
      rw [Nat.add_sub_cancel, Nat.mul_add, Nat.mul_one]
    omega
  have hN := WH_n hW
  have b5 := stP (W := W) (H := H) (κ := 0) (s := 0) (x := 0) (y := 0) (by decide) (by decide) hW (by omega) (by omega) r4 (by rw [f4]; decide) (fun _ => by rw [g4]; decide) (by rw [e4]; exact bd _ (by omega))
  rw [e4, f4, g4, if_pos rfl] at b5
  obtain ⟨r5, e5, f5, g5, c5⟩ := b5
  have j5 := j4.st (by rw [f4]; decide) (by rw [e5, ← e4]; exact WR_rpl j4.2.1 (by omega) (by omega) (by decide) (by decide))
  have b6 := stP (W := W) (H := H) (κ := 0) (s := 1) (x := W - 1) (y := H - 1) (by decide) (by decide) hW (by omega) (by omega) r5 (by rw [f5]; decide) (fun _ => by rw [g5]; decide) (by
    rw [e5]
    unfold rpl
    rw [if_neg (by omega)]
    exact bd _ (by omega))
  rw [e5, f5, g5, if_pos rfl] at b6
  obtain ⟨r6, e6, f6, g6, c6⟩ := b6
  have j6 := j5.st (by rw [f5]; decide) (by rw [e6, ← e5]; exact WR_rpl j5.2.1 (by omega) (by omega) (by decide) (by decide))
  -- the pieces
  have lp : ∀ n, n ≤ ps.length → Rd B L (aX B L W H A (6 + n)) (flP (ps.drop n) ++ flF fs) ∧ (aX B L W H A (6 + n)).1 4 = 2 + (n : Nat) ∧ (aX B L W H A (6 + n)).1 5 = 63 ∧ (aX B L W H A (6 + n)).2 8 = 0 ∧ (aX B L W H A (6 + n)).2 15 = (a : Nat) ∧ (aX B L W H A (6 + n)).2 16 = (b : Nat) ∧ (∀ c, c < 64 → (aX B L W H A (6 + n)).2 (24 + c) ≠ 0 → c = 0 ∨ c = W * H - 1 ∨ ∃ j, j < n ∧ pcl W (ps.getD j (0, 0, 0, 0)) = c) ∧ (∀ j, j < 6 + n → cnd (aX B L W H A j) = true) ∧ Jn B L W H (aX B L W H A (6 + n)) := by
    intro n
    induction n with
    | zero =>
      intro _
      refine ⟨r6, f6, g6, ?_, ?_, ?_, fun c hc h0 => ?_, fun j hj => ?_, j6⟩
      · show (aM B L (aSt B L W H (aM B L (aSt B L W H (aM B L (aSt B L W H (aM B L (aSt B L W H (aM B L (aSt B L W H (aM B L (aSt B L W H A)))))))))))).2 8 = 0
        rw [e6, rpl_n (by omega) (by omega), rpl_n (by omega) (by omega), q8]
      · show (aM B L (aSt B L W H (aM B L (aSt B L W H (aM B L (aSt B L W H (aM B L (aSt B L W H (aM B L (aSt B L W H (aM B L (aSt B L W H A)))))))))))).2 15 = _
        rw [e6, rpl_n (by omega) (by omega), rpl_n (by omega) (by omega), q15]
      · show (aM B L (aSt B L W H (aM B L (aSt B L W H (aM B L (aSt B L W H (aM B L (aSt B L W H (aM B L (aSt B L W H (aM B L (aSt B L W H A)))))))))))).2 16 = _
        rw [e6, rpl_n (by omega) (by omega), rpl_n (by omega) (by omega), q16]
      · have h0' : (aM B L (aSt B L W H (aM B L (aSt B L W H (aM B L (aSt B L W H (aM B L (aSt B L W H (aM B L (aSt B L W H (aM B L (aSt B L W H A)))))))))))).2 (24 + c) ≠ 0 := h0
        rw [e6] at h0'
        unfold rpl at h0'
        by_cases z1 : c = 0
        · exact Or.inl z1
        · by_cases z2 : c = W * H - 1
          · exact Or.inr (Or.inl z2)
          · rw [if_neg (by omega), if_neg (by omega)] at h0'
            exact absurd (bd c hc) h0'
      · have : j = 0 ∨ j = 1 ∨ j = 2 ∨ j = 3 ∨ j = 4 ∨ j = 5 := by omega
        rcases this with rfl | rfl | rfl | rfl | rfl | rfl
        · exact c1
        · exact c2
        · exact c3
        · exact c4
        · exact c5
        · exact c6
    | succ n ih =>
      intro hn
      obtain ⟨i1, i2, i3, i4, i5, i6, i7, i8, i9⟩ := ih (by omega)
      obtain ⟨⟨p1, p2, p3, p4, p5⟩, p6, p7, p8⟩ := hP n (by omega)
      rw [drop_c (d := (0, 0, 0, 0)) (show n < ps.length by omega)] at i1
      generalize hq : ps.getD n (0, 0, 0, 0) = q at *
      have i1' : Rd B L (aX B L W H A (6 + n)) (txP q.1 q.2.1 q.2.2.1 q.2.2.2 ++ (flP (ps.drop (n + 1)) ++ flF fs)) := by
        rw [← List.append_assoc]; exact i1
      have hcell : q.2.2.1 + W * q.2.2.2 < 64 := cell_64 hW p4 p5
      have free : (aX B L W H A (6 + n)).2 (24 + (q.2.2.1 + W * q.2.2.2)) = 0 := by
        by_cases z : (aX B L W H A (6 + n)).2 (24 + (q.2.2.1 + W * q.2.2.2)) = 0
        · exact z
        · rcases i7 _ hcell z with z | z | ⟨j, hj, z⟩
          · exact absurd z p6
          · exact absurd z p7
          · exact absurd z (p8 j hj)
      obtain ⟨s1, s2, s3, s4, s5⟩ := stP (W := W) (H := H) p1 p3 hW p4 p5 i1' (by rw [i2]; omega) (fun z => by omega) free
      rw [if_neg (by omega), i3] at s4
      rw [i2] at s3
      refine ⟨s1, s3.trans (by omega), s4, ?_, ?_, ?_, fun c hc h0 => ?_, fun j hj => ?_, i9.st (by rw [i2]; omega) (by rw [s2]; exact WR_rpl i9.2.1 p4 p5 (by omega) (by omega))⟩
      · show (aM B L (aSt B L W H (aX B L W H A (6 + n)))).2 8 = 0
        rw [s2, rpl_n (by omega) hcell, i4]
      · show (aM B L (aSt B L W H (aX B L W H A (6 + n)))).2 15 = _
        rw [s2, rpl_n (by omega) hcell, i5]
      · show (aM B L (aSt B L W H (aX B L W H A (6 + n)))).2 16 = _
        rw [s2, rpl_n (by omega) hcell, i6]
      · have h0' : (aM B L (aSt B L W H (aX B L W H A (6 + n)))).2 (24 + c) ≠ 0 := h0
        rw [s2] at h0'
        by_cases z : c = pcl W q
        · exact Or.inr (Or.inr ⟨n, by omega, by rw [hq]; exact z.symm⟩)
        · unfold rpl at h0'
          unfold pcl at z
          rw [if_neg (by omega)] at h0'
          rcases i7 c hc h0' with z | z | ⟨j, hj, z⟩
          · exact Or.inl z
          · exact Or.inr (Or.inl z)
          · exact Or.inr (Or.inr ⟨j, by omega, z⟩)
      · by_cases z : j = 6 + n
        · rw [z]; exact s5
        · exact i8 j (by omega)
  obtain ⟨l1, l2, l3, l4, l5, l6, -, l8, l9⟩ := lp ps.length (Nat.le_refl _)
  rw [List.drop_length] at l1
  -- the fogs
  have lf : ∀ n, n ≤ fs.length → Rd B L (aX B L W H A (6 + ps.length + n)) (flF (fs.drop n)) ∧ (aX B L W H A (6 + ps.length + n)).1 4 = 2 + (ps.length : Nat) ∧ (aX B L W H A (6 + ps.length + n)).1 5 = 63 ∧ (aX B L W H A (6 + ps.length + n)).2 8 = (n : Nat) ∧ (aX B L W H A (6 + ps.length + n)).2 15 = (a : Nat) ∧ (aX B L W H A (6 + ps.length + n)).2 16 = (b : Nat) ∧ (∀ k, k < n → (aX B L W H A (6 + ps.length + n)).2 (280 + 3 * k) < 100 * (n : Nat)) ∧ (∀ j, j < 6 + ps.length + n → cnd (aX B L W H A j) = true) ∧ Jn B L W H (aX B L W H A (6 + ps.length + n)) := by
    intro n
    induction n with
    | zero => intro _; exact ⟨l1, l2, l3, l4, l5, l6, fun k hk => absurd hk (Nat.not_lt_zero k), l8, l9⟩
    | succ n ih =>
      intro hn
      obtain ⟨i1, i2, i3, i4, i5, i6, i7, i8, i9⟩ := ih (by omega)
      obtain ⟨⟨p1, p2⟩, ⟨p3, p4⟩, p5, p6⟩ := hF n (by omega)
      rw [drop_c (d := (0, 0, 0)) (show n < fs.length by omega)] at i1
      generalize hq : fs.getD n (0, 0, 0) = q at *
      have t8 : ((aX B L W H A (6 + ps.length + n)).2 8).toNat = n := by rw [i4]; omega
      obtain ⟨s1, s2, s3, s4, s5⟩ := stF (W := W) (H := H) (f := q.1) (l := q.2.1) (e := q.2.2) (by omega) p3 (by omega) p5 p6 i1 (by rw [i4]; omega) (fun k hk => by have := i7 k (by omega); omega)
      obtain ⟨j1, -, -⟩ := ip_f (F := fun k => (aX B L W H A (6 + ps.length + n)).2 (280 + 3 * k)) (v := (q.1 : Nat)) (N := n)
      rw [t8] at s2
      refine ⟨s1, s3.trans i2, s4.trans i3, ?_, ?_, ?_, fun k hk => ?_, fun j hj => ?_, i9.st (by rw [i2]; omega) (by rw [s2]; exact i9.2.1.rg (by rw [i4]; omega) (by rw [t8]; exact j1) (by omega) (by omega) (by omega))⟩
      · show (aM B L (aSt B L W H (aX B L W H A (6 + ps.length + n)))).2 8 = _
        rw [s2]
        unfold raf
        rw [if_pos rfl, i4]; omega
      · show (aM B L (aSt B L W H (aX B L W H A (6 + ps.length + n)))).2 15 = _
        rw [s2, raf_n (by unfold pF; omega) (by rw [i4]; omega), i5]
      · show (aM B L (aSt B L W H (aX B L W H A (6 + ps.length + n)))).2 16 = _
        rw [s2, raf_n (by unfold pF; omega) (by rw [i4]; omega), i6]
      · show (aM B L (aSt B L W H (aX B L W H A (6 + ps.length + n)))).2 (280 + 3 * k) < _
        rw [s2, (raf_0 (by rw [t8]; exact j1) (by rw [t8]; exact hk)).1]
        unfold ins
        split
        · have := i7 k (by omega); dsimp only; omega
        · split
          · omega
          · have := i7 (k - 1) (by omega); dsimp only; omega
      · by_cases z : j = 6 + ps.length + n
        · rw [z]; exact s5
        · exact i8 j (by omega)
  obtain ⟨m1, m2, m3, m4, m5, m6, -, m8, m9⟩ := lf fs.length (Nat.le_refl _)
  rw [List.drop_length] at m1
  exact ⟨6 + ps.length + fs.length, by omega, m8, m1 0 [] [] rfl (Or.inr (Or.inr (Or.inr ⟨rfl, rfl, rfl⟩))), m2, m3, m5, m6, m9⟩
/-- what is made of the whole text -/
theorem tx_all {a b p w t : Nat} {ps : List (Nat × Nat × Nat × Nat)} {fs : List (Nat × Nat × Nat)} {o : Int} (hW : WH W H) (ha : 60 ≤ a ∧ a ≤ 900) (hb : 60 ≤ b ∧ b ≤ 900) (hp : 1 ≤ p ∧ p ≤ 3) (hw : w ≤ 4) (ht : 1 ≤ t ∧ t ≤ 4) (hP : okP W H ps) (hP6 : ps.length ≤ 6) (hF : okF fs) (hF3 : fs.length ≤ 3)
    (h : Sg B L 0 (txt W H a b p w t (flP ps ++ flF fs))) : (aHw B L o).toNat = W ∧ (aHh B L o).toNat = H ∧ (aZ B L o).1 2 = 0 ∧ (aZ B L o).1 4 = 2 + (ps.length : Nat) ∧ (aZ B L o).2 15 = (a : Nat) ∧ (aZ B L o).2 16 = (b : Nat) ∧ RG 1 (aZ B L o).2 W H ∧ LJ (aZ B L o) W H := by
  have hW' := hW
  obtain ⟨w1, w2, w3, w4⟩ := hW'
  unfold txt at h
  have a0 := aI_at (o := o) h (wd_t (j := 0) (by decide) hL32)
  have e1 : aH1 B L o = aT B L (aI B L o) := by
    unfold aH1 aW
    rw [isw_d a0 (by decide) (k := 0) (by decide), if_pos (by decide)]
  obtain ⟨a1, s1⟩ := aT_at a0 rfl sp1 (dg_t (v := W) (l := [32] ++ (dg H ++ ([59] ++ txB W H a b p w t (flP ps ++ flF fs)))) (by omega) hD32)
  rw [← e1] at a1 s1
  obtain ⟨n1, n2⟩ := aN_at (lo := 4) (hi := 8) (show W < 1000 by omega) a1 (by omega) (by omega)
  have eW : aHw B L o = (W : Nat) := n1
  have e2 : aH2 B L o = aT B L (aH1 B L o) := by
    unfold aH2
    rw [n2]
  obtain ⟨a2, s2⟩ := aT_at a1 rfl sp1 (dg_t (v := H) (l := [59] ++ txB W H a b p w t (flP ps ++ flF fs)) (by omega) hD59)
  rw [← e2] at a2 s2
  obtain ⟨p1, p2⟩ := aN_at (lo := 4) (hi := 8) (show H < 1000 by omega) a2 (by omega) (by omega)
  have eH : aHh B L o = (H : Nat) := p1
  have e3 : aH3 B L o = aT B L (aH2 B L o) := by
    unfold aH3
    rw [p2]
  obtain ⟨a3, s3⟩ := aT_at (sp := []) a2 rfl sp0 (t59 (l := txB W H a b p w t (flP ps ++ flF fs)))
  rw [← e3] at a3 s3
  obtain ⟨m1, m2⟩ := aM_at a3
  have ss := (s1.tr s2).tr (s3.tr m2)
  have e4 : aH4 B L o = ((aM B L (aH3 B L o)).1, rbg W H) := by
    unfold aH4
    rw [eW, eH, Int.toNat_natCast, Int.toNat_natCast]
  have r4 : Rd B L (aH4 B L o) (txB W H a b p w t (flP ps ++ flF fs)) := by
    rw [e4]; exact m1
  have z4 : (aH4 B L o).1 4 = 0 := by rw [e4]; exact ss.2.1.trans rfl
  have z5 : (aH4 B L o).1 5 = 0 := by rw [e4]; exact ss.2.2.trans rfl
  have jn : Jn B L W H (aH4 B L o) := ⟨aH_W.2.2.2.1, by rw [e4]; exact rbg_R hW, fun _ => by rw [e4] at z4 z5 ⊢; exact rbg_J hW z4 z5⟩
  obtain ⟨N, hN, q1, q2, q3, q4, q5, q6, q7⟩ := tx_run hW ha hb hp hw ht hP hP6 hF hF3 r4 z4 z5 (by rw [e4]) jn
  have eN : nX B L W H (aH4 B L o) = N := by
    unfold nX
    refine ff_eq (fun j hj => by rw [q1 j hj]; rfl) (by omega) (fun _ => ?_)
    have : cnd (aX B L W H (aH4 B L o) N) = false := decide_eq_false (fun z => z.2 q2.2.1)
    rw [this]; rfl
  have eZ : aZ B L o = aX B L W H (aH4 B L o) N := by
    unfold aZ
    rw [eW, eH, Int.toNat_natCast, Int.toNat_natCast, eN]
    unfold aE
    rw [q4, if_pos (by decide)]
  rw [eZ, eW, eH]
  have lj := q7.2.2 q2.1
  exact ⟨Int.toNat_natCast _, Int.toNat_natCast _, q2.1, q3, q5, q6, lj.rg q7.2.1 (by rw [q3]; omega) (by rw [q4]; decide) q7.1 (Int.le_refl _), lj⟩
end TD
