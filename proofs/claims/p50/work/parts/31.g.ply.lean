/-! isPlayed. -/
section LG
variable {m : Mm} {r : Nat → Int} {W H : Nat}
theorem a185_82 {L n : Nat} (hn : n ≤ 512) {T : Int} {M : Mm} (h : St n M r W H T) (h4 : r 4 = 0) {c d : Nat} (hc : c < W * H) (hd : d < W * H) (hm : mv W (fun c => r (24 + 64 * tS r + c)) (tS r : Nat) (c % W) (c / W) (d % W) (d / W) = true) :
    An (d_185_82 L 20 (zI (tS r : Nat)) (zI (W : Nat)) (zI (c : Nat)) (zI (d : Nat)) M) (fun p => p.1 = true ∧ ∃ r', St (n + 1) p.2 r' W H T) := by
  have hg := h.1
  obtain ⟨s1, s2, s3⟩ := tS_f hg
  have hW := iG_w hg
  have hW' := hW
  obtain ⟨w1, w2, w3, w4⟩ := hW'
  have hN := WH_n hW
  obtain ⟨c1, c2, c3⟩ := cell_of hW hc
  obtain ⟨d1, d2, d3⟩ := cell_of hW hd
  have n0 := x_n0 (W := W) (by omega) (by omega)
  have x1 := x_rm (c := c) (W := W) (by omega) (by omega)
  have x2 := x_dv (c := c) (W := W) (by omega) (by omega)
  have x3 := x_rm (c := d) (W := W) (by omega) (by omega)
  have x4 := x_dv (c := d) (W := W) (by omega) (by omega)
  rw [x2] at x1
  rw [x4] at x3
  have hk : ((n : Nat) : Int) ≤ 520 := by omega
  have h7 := (RG.iff.mp hg.2.1).2.1.2.2.2.2.2.1
  have hd0 := dl_0 (W := W) (H := H) (r := r) (s := tS r) (q := 1 - tS r) (x := c % W) (y := c / W) (X := d % W) (Y := d / W) (n := (r 7).toNat - 1)
  rw [show (r 7).toNat - 1 + 1 = (r 7).toNat by omega] at hd0
  have eN : trN W H r (tS r) (1 - tS r) (c % W) (c / W) (d % W) (d / W) = (pls W H (tS r) (1 - tS r) (c % W) (c / W) (d % W) (d / W) (r 7).toNat 1 r).1 := if_pos hm
  rw [← eN] at hd0
  have hdr : -1 ≤ dlD W H r (tS r) (1 - tS r) (c % W) (c / W) (d % W) (d / W) 3 ∧ dlD W H r (tS r) (1 - tS r) (c % W) (c / W) (d % W) (d / W) 3 ≤ 4 := by
    unfold dlD
    split <;> omega
  obtain ⟨b1, b2, b3, b4, b5, b6⟩ := pl_b (n := n) hn hg.2.1 s3
  have pr := pls_R s3 c1 c2 d1 d2 (r 7).toNat 1 r b2 s2 (Nat.le_refl _) b3 b4 b5 b6
  rw [← eN] at pr
  have z0 : zI ((0 : Nat) : Int) = 0 := rfl
  have z1 : zI ((1 : Nat) : Int) = 1 := rfl
  have z2 : zI ((2 : Nat) : Int) = 2 := rfl
  have z3 : zI ((3 : Nat) : Int) = 3 := rfl
  unfold d_185_82
  simp only [if_neg n0, x1, x2, x3, x4]
  refine (a143_1 hk hg c1 c2 d1 d2).bd (fun p7 hp7 => ?_)
  have q7 := hp7.2
  have eG : fG r (tS r) (c % W) (c / W) (d % W) (d / W) 1 = c % W + 1 := rfl
  rw [if_pos (by rw [hp7.1, eG, zl_1, zI_add]; rfl)]
  have k8 := a148 hn (hg.q q7) h4 c1 c2 d1 d2 (w := 0) (by decide)
  rw [z0] at k8
  refine k8.bd (fun p8 hp8 => ?_)
  have q8 := q7.tr hp8.2
  have k9 := a148 hn (hg.q q8) h4 c1 c2 d1 d2 (w := 1) (by decide)
  rw [z1] at k9
  refine k9.bd (fun p9 hp9 => ?_)
  have q9 := q8.tr hp9.2
  have k10 := a148 hn (hg.q q9) h4 c1 c2 d1 d2 (w := 2) (by decide)
  rw [z2] at k10
  refine k10.bd (fun p10 hp10 => ?_)
  have q10 := q9.tr hp10.2
  have k11 := a148 hn (hg.q q10) h4 c1 c2 d1 d2 (w := 3) (by decide)
  rw [z3] at k11
  refine k11.bd (fun p11 hp11 => ?_)
  have q11 := q10.tr hp11.2
  refine (a149_3 hn (hg.q q11) h4 c1 c2 d1 d2 hm).bd (fun p12 hp12 => ?_)
  have q12 := q11.tr hp12.2
  refine (a146 hk (hg.q q12) c1 c2 d1 d2).bd (fun p13 hp13 => ?_)
  have q13 := q12.tr hp13.2
  refine (a145 hk (hg.q q13) c1 c2 d1 d2).bd (fun p14 hp14 => ?_)
  have q14 := q13.tr hp14.2
  have g14 := hg.q q14
  have v0 : trV W H r (tS r) (1 - tS r) (c % W) (c / W) (d % W) (d / W) ((0 : Nat) : Int) = trN W H r (tS r) (1 - tS r) (c % W) (c / W) (d % W) (d / W) := rfl
  have v1 : trV W H r (tS r) (1 - tS r) (c % W) (c / W) (d % W) (d / W) ((1 : Nat) : Int) = trR W H r (tS r) (1 - tS r) (c % W) (c / W) (d % W) (d / W) 2 - r 2 := rfl
  have v2 : trV W H r (tS r) (1 - tS r) (c % W) (c / W) (d % W) (d / W) ((2 : Nat) : Int) = dif (W * H) (fun i => trR W H r (tS r) (1 - tS r) (c % W) (c / W) (d % W) (d / W) (24 + i)) (fun i => trR W H r (tS r) (1 - tS r) (c % W) (c / W) (d % W) (d / W) (88 + i)) := rfl
  have v3 : trV W H r (tS r) (1 - tS r) (c % W) (c / W) (d % W) (d / W) ((3 : Nat) : Int) = if trR W H r (tS r) (1 - tS r) (c % W) (c / W) (d % W) (d / W) 4 = 0 then 0 else 1 := rfl
  rw [a125_2 g14, obs, a126 g14 s1, obs, a125_12 g14, obs, a125_11 g14, obs, hp8.1, hp9.1, hp10.1, hp11.1, hp12.1, hp13.1, hp14.1, v0, v1, v2, v3]
  have fin : ∀ B : Bool, _ := fun B => a185_357 (L := L) (B := B) hn (h.q q14) h4 hc hd hm
  unfold d_185_347
  by_cases q : trN W H r (tS r) (1 - tS r) (c % W) (c / W) (d % W) (d / W) = 1
  · have e := hd0.mp q
    rw [if_neg (by rw [q]; exact fun e => e rfl), if_neg (by rw [e]; exact fun e => e rfl)]
    exact fin true
  · have e : ¬ dlD W H r (tS r) (1 - tS r) (c % W) (c / W) (d % W) (d / W) 3 = 0 := fun e => q (hd0.mpr e)
    rw [if_pos (by rw [zl_1, zI_inj (by omega) (by omega) (by omega) (by omega)]; exact q), if_pos (by rw [zl_0, zI_inj (by omega) (by omega) (by omega) (by omega)]; exact e)]
    exact fin false
theorem a185 {L n : Nat} (hL : L ≤ 2147483647) (hn : n ≤ 512) {T : Int} (h : St n m r W H T) (h4 : r 4 = 0) {at_ : Nat} (hat : at_ ≤ 1000) :
    An (d_185 L 20 (zI (at_ : Nat)) m) (fun p => p.1 = true ∧ ∃ r', St (n + 1) p.2 r' W H T) := by
  have hg := h.1
  obtain ⟨s1, s2, s3⟩ := tS_f hg
  have hW := iG_w hg
  have hB := ml_837 hW (iG_b hg s1) (s01 s1)
  unfold d_185
  rw [a125_3 hg, obs, s2]
  refine (a129 hg s1 s1).bd (fun p2 hp2 => ?_)
  have q2 := hp2.2
  rw [hp2.1]
  by_cases q : (ml W H (fun d => r (24 + 64 * tS r + d)) (tS r : Nat)).length = 0
  · rw [q, if_neg (fun e => e rfl)]
    exact An.so ⟨rfl, r, (h.q q2).s (by omega)⟩
  · rw [if_pos (by rw [zl_0, zI_inj (by omega) (by omega) (by omega) (by omega)]; omega)]
    obtain ⟨v, v0, v1, ev⟩ := a182 (m := p2.2) hL (j := at_) (lo := 0) (hi := (ml W H (fun d => r (24 + 64 * tS r + d)) (tS r : Nat)).length - 1) (by omega) (by omega) (by omega)
    have e1 : zI ((ml W H (fun d => r (24 + 64 * tS r + d)) (tS r : Nat)).length : Nat) - 1 = zI (((ml W H (fun d => r (24 + 64 * tS r + d)) (tS r : Nat)).length - 1 : Nat) : Int) := by
      rw [zl_1, zI_sub]; exact congrArg zI (by omega)
    rw [show zI ((0 : Nat) : Int) = 0 from rfl] at ev
    have hv : v < (ml W H (fun d => r (24 + 64 * tS r + d)) (tS r : Nat)).length := by omega
    obtain ⟨m1, m2, m3⟩ := rkp_mv hv
    rw [e1, ev, obs, a125_0 (hg.q q2), obs]
    have k5 := a131 (hg.q q2) hv (w := 0) (by decide)
    rw [show zI ((0 : Nat) : Int) = 0 from rfl] at k5
    refine k5.bd (fun p5 hp5 => ?_)
    have q5 := q2.tr hp5.2
    have k6 := a131 (hg.q q5) hv (w := 1) (by decide)
    rw [show zI ((1 : Nat) : Int) = 1 from rfl] at k6
    refine k6.bd (fun p6 hp6 => ?_)
    have q6 := q5.tr hp6.2
    have t0 : pt W H (fun d => r (24 + 64 * tS r + d)) (tS r : Nat) (rkp W H (fun d => r (24 + 64 * tS r + d)) (tS r : Nat) v) ((0 : Nat) : Int) = ((rkp W H (fun d => r (24 + 64 * tS r + d)) (tS r : Nat) v).1 : Nat) := rfl
    have t1 : pt W H (fun d => r (24 + 64 * tS r + d)) (tS r : Nat) (rkp W H (fun d => r (24 + 64 * tS r + d)) (tS r : Nat) v) ((1 : Nat) : Int) = ((rkp W H (fun d => r (24 + 64 * tS r + d)) (tS r : Nat) v).2 : Nat) := rfl
    rw [hp5.1, hp6.1, t0, t1]
    by_cases q0 : v = 0
    · rw [if_pos (by rw [zl_0, zI_le (by omega) (by omega) (by omega) (by omega)]; omega)]
      exact a185_82 hn (h.q q6) h4 m1 m2 m3
    · rw [if_neg (by rw [zl_0, zI_le (by omega) (by omega) (by omega) (by omega)]; omega)]
      have k7 := a131 (hg.q q6) hv (w := 3) (by decide)
      rw [show zI ((3 : Nat) : Int) = 3 from rfl] at k7
      refine k7.bd (fun p7 hp7 => ?_)
      have q7 := q6.tr hp7.2
      have k8 := a131 (hg.q q7) (v := v - 1) (w := 3) (by omega) (by decide)
      rw [show zI ((3 : Nat) : Int) = 3 from rfl, show zI ((v - 1 : Nat) : Int) = zI (v : Nat) - 1 by rw [zl_1, zI_sub]; exact congrArg zI (by omega)] at k8
      refine k8.bd (fun p8 hp8 => ?_)
      have q8 := q7.tr hp8.2
      have w1 := wl_rg (W := W) (H := H) (fun d => r (24 + 64 * tS r + d)) (tS r : Nat) (ml W H (fun d => r (24 + 64 * tS r + d)) (tS r : Nat)) (pl (ml W H (fun d => r (24 + 64 * tS r + d)) (tS r : Nat)).length (wl W H (fun d => r (24 + 64 * tS r + d)) (tS r : Nat) (ml W H (fun d => r (24 + 64 * tS r + d)) (tS r : Nat))) (v : Nat))
      have w2 := wl_rg (W := W) (H := H) (fun d => r (24 + 64 * tS r + d)) (tS r : Nat) (ml W H (fun d => r (24 + 64 * tS r + d)) (tS r : Nat)) (pl (ml W H (fun d => r (24 + 64 * tS r + d)) (tS r : Nat)).length (wl W H (fun d => r (24 + 64 * tS r + d)) (tS r : Nat) (ml W H (fun d => r (24 + 64 * tS r + d)) (tS r : Nat))) ((v - 1 : Nat) : Int))
      have le := rk_le (n := (ml W H (fun d => r (24 + 64 * tS r + d)) (tS r : Nat)).length) (w := wl W H (fun d => r (24 + 64 * tS r + d)) (tS r : Nat) (ml W H (fun d => r (24 + 64 * tS r + d)) (tS r : Nat))) (v := (v : Nat)) (by omega) (by omega)
      rw [show ((v : Nat) : Int) - 1 = ((v - 1 : Nat) : Int) by omega] at le
      rw [hp7.1, hp8.1, show ((3 : Nat) : Int) = 3 from rfl, rkp_w, rkp_w, if_neg (by rw [zI_lt (by omega) (by omega) (by omega) (by omega)]; omega)]
      exact a185_82 hn (h.q q8) h4 m1 m2 m3
end LG
