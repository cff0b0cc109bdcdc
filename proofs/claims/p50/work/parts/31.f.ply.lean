/-! What is foretold of a move comes by it: the calls in their order. -/
section LF
variable {m : Mm} {r : Nat → Int} {W H : Nat}
/-- the move itself -/
theorem a185_357 {L n : Nat} (hn : n ≤ 512) {T : Int} {M : Mm} (h : St n M r W H T) (h4 : r 4 = 0) {c d : Nat} (hc : c < W * H) (hd : d < W * H) (hm : mv W (fun c => r (24 + 64 * tS r + c)) (tS r : Nat) (c % W) (c / W) (d % W) (d / W) = true) {B : Bool} :
    An (d_185_357 L 20 (zI (tS r : Nat)) (zI (W : Nat)) (zI (c : Nat)) (zI (d : Nat)) (zI (trN W H r (tS r) (1 - tS r) (c % W) (c / W) (d % W) (d / W))) (zI (trR W H r (tS r) (1 - tS r) (c % W) (c / W) (d % W) (d / W) 2 - r 2)) (zI (dif (W * H) (fun i => trR W H r (tS r) (1 - tS r) (c % W) (c / W) (d % W) (d / W) (24 + i)) (fun i => trR W H r (tS r) (1 - tS r) (c % W) (c / W) (d % W) (d / W) (88 + i)))) (zI (if trR W H r (tS r) (1 - tS r) (c % W) (c / W) (d % W) (d / W) 4 = 0 then 0 else 1)) (zI (frd W H r (tS r) (1 - tS r) (c % W) (c / W) (d % W) (d / W) (r 2))) (zI (flen r (tS r) (c % W) (c / W) (d % W) (d / W) : Nat)) (zI (r 2)) (zI (r (15 + tS r))) (zI (r 12)) (zI (r 11)) B B M) (fun p => p.1 = true ∧ ∃ r', St (n + 1) p.2 r' W H T) := by
  obtain ⟨hg, hh, hI, hT⟩ := h
  obtain ⟨s1, s2, s3⟩ := tS_f hg
  have hW := iG_w hg
  have hW' := hW
  obtain ⟨w1, w2, w3, w4⟩ := hW'
  have hN := WH_n hW
  obtain ⟨c1, c2, c3⟩ := cell_of hW hc
  obtain ⟨d1, d2, d3⟩ := cell_of hW hd
  have n0 := x_n0 (W := W) (by omega) (by omega)
  have hRt := trR_R hn hg.2.1 s3 s2 c1 c2 d1 d2
  obtain ⟨b1, b2, b3, b4, b5, b6⟩ := pl_b (n := n) hn hg.2.1 s3
  have pf := pls_f s3 c1 c2 d1 d2 (r 7).toNat 1 r b2 hI s2 (Nat.le_refl _) b3 b4 b5 b6
  have pr := pls_R s3 c1 c2 d1 d2 (r 7).toNat 1 r b2 s2 (Nat.le_refl _) b3 b4 b5 b6
  have eN : trN W H r (tS r) (1 - tS r) (c % W) (c / W) (d % W) (d / W) = (pls W H (tS r) (1 - tS r) (c % W) (c / W) (d % W) (d / W) (r 7).toNat 1 r).1 := if_pos hm
  have eR : trR W H r (tS r) (1 - tS r) (c % W) (c / W) (d % W) (d / W) = (pls W H (tS r) (1 - tS r) (c % W) (c / W) (d % W) (d / W) (r 7).toNat 1 r).2 := if_pos hm
  have pl := a154 hn hh hg h4 c1 c2 d1 d2 hm
  rw [← eN, ← eR] at pf
  rw [← eN] at pr
  have ifj : (if (1 : Nat) = 1 then (0 : Int) else r 6) = 0 := rfl
  rw [ifj, show ((1 : Nat) : Int) = 1 from rfl] at pf
  have hl : flen r (tS r) (c % W) (c / W) (d % W) (d / W) ≤ 1000 := by
    have tk := ftk_r hg.2.1 (s := tS r) (q := 1 - tS r) (by omega) c1 c2 d1 d2 (t := r 2)
    have fa := (fan_r hg.2.1 (s := tS r) (q := 1 - tS r) (x := c % W) (y := c / W) (X := d % W) (Y := d / W) (by omega) (t := r 2)).1
    have h5 := (RG.iff.mp hg.2.1).2.1.2.2.2.1
    unfold ftk at tk
    omega
  have x1 := x_rm (c := c) (W := W) (by omega) (by omega)
  have x2 := x_dv (c := c) (W := W) (by omega) (by omega)
  have x3 := x_rm (c := d) (W := W) (by omega) (by omega)
  have x4 := x_dv (c := d) (W := W) (by omega) (by omega)
  unfold d_185_357
  rw [if_neg (fun e => e rfl), if_neg n0, if_neg n0, if_neg n0, if_neg n0, x1, x2, x3, x4]
  refine pl.bd (fun p hp => ?_)
  obtain ⟨p1, p2⟩ := hp
  have g1 := p2.g hg hRt
  generalize trN W H r (tS r) (1 - tS r) (c % W) (c / W) (d % W) (d / W) = v at *
  generalize hρ : trR W H r (tS r) (1 - tS r) (c % W) (c / W) (d % W) (d / W) = ρ at *
  obtain ⟨f1, f2, f3, f4, f5, f6⟩ := pf
  have hS := (RG.iff.mp hg.2.1).2.1
  have hSρ := (RG.iff.mp hRt).2.1
  have h7 := hS.2.2.2.2.2.1
  have h2 := hS.1
  have h4ρ := hSρ.2.2.1
  have eT : ρ 2 + ρ 15 + ρ 16 = T := by
    have : tS r = 0 ∨ tS r = 1 := by omega
    rcases this with e | e <;> rw [e] at f2 f3 <;> simp only [Nat.add_zero, Nat.reduceAdd, Nat.reduceSub] at f2 f3 <;> omega
  have hst : St (n + 1) p.2 ρ W H T := ⟨g1, p2.h hh, f1, eT⟩
  rw [p1, if_neg (fun e => e rfl), a125_2 g1, obs, zI_add, show r 2 + (ρ 2 - r 2) = ρ 2 by omega, if_neg (fun e => e rfl), a126 g1 s1, obs, zI_sub, show r (15 + tS r) - (ρ 2 - r 2) = ρ (15 + tS r) by omega, if_neg (fun e => e rfl), a137_0 g1, obs, if_neg (fun e => e rfl), a125_4 g1, obs]
  have fin : ∀ B : Bool, An (d_185_449 L 20 (zI (tS r : Nat)) (zI v) (zI (ρ 2 - r 2)) (zI (frd W H r (tS r) (1 - tS r) (c % W) (c / W) (d % W) (d / W) (r 2))) (zI (flen r (tS r) (c % W) (c / W) (d % W) (d / W) : Nat)) (zI (r 2)) (zI (r 12)) (zI (r 11)) B B p.2) (fun p => p.1 = true ∧ ∃ r', St (n + 1) p.2 r' W H T) := fun B =>
    (a185_449 (r := r) (n := n) s3 g1 (by omega) pr.2.1 pr.2.2 f4 (by omega) hS.1.1 (by omega) hl f6).mp (fun p' hp' => ⟨hp'.1, ρ, by rw [hp'.2]; exact hst⟩)
  unfold d_185_438
  by_cases q : ρ 4 = 0
  · rw [if_pos q, if_pos (by rw [zl_0, zI_le (by omega) (by omega) (by omega) (by omega)]; omega), if_pos (by decide)]
    exact fin false
  · rw [if_neg q, if_neg (by rw [zl_0, zI_le (by omega) (by omega) (by omega) (by omega)]; omega), if_neg (fun e => e rfl)]
    exact fin true
end LF
