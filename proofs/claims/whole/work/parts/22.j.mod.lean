/-! A move told, by the reference. -/
section NA
variable {m : Mm} {W H : Nat} {r : Nat → Int}
theorem rs6 {b : Nat} {v : Nat → Int} {k : Nat} : rs (rs (rs (rs (rs (rs r (b + 0) (v 0)) (b + 1) (v 1)) (b + 2) (v 2)) (b + 3) (v 3)) (b + 4) (v 4)) (b + 5) (v 5) k = if b ≤ k ∧ k < b + 6 then v (k - b) else r k := by
  by_cases h : b ≤ k ∧ k < b + 6
  · rw [if_pos h]
    have : k = b + 0 ∨ k = b + 1 ∨ k = b + 2 ∨ k = b + 3 ∨ k = b + 4 ∨ k = b + 5 := by omega
    rcases this with rfl | rfl | rfl | rfl | rfl | rfl
    · rw [rs_ne (by omega), rs_ne (by omega), rs_ne (by omega), rs_ne (by omega), rs_ne (by omega)]
      exact rs_eq.trans (congrArg v (by omega))
    · rw [rs_ne (by omega), rs_ne (by omega), rs_ne (by omega), rs_ne (by omega), rs_eq, show b + 1 - b = 1 by omega]
    · rw [rs_ne (by omega), rs_ne (by omega), rs_ne (by omega), rs_eq, show b + 2 - b = 2 by omega]
    · rw [rs_ne (by omega), rs_ne (by omega), rs_eq, show b + 3 - b = 3 by omega]
    · rw [rs_ne (by omega), rs_eq, show b + 4 - b = 4 by omega]
    · rw [rs_eq, show b + 5 - b = 5 by omega]
  · rw [if_neg h, rs_ne (by omega), rs_ne (by omega), rs_ne (by omega), rs_ne (by omega), rs_ne (by omega), rs_ne (by omega)]
theorem kdt_r {s X Y : Nat} (b : 0 ≤ r (24 + 64 * s + (X + W * Y)) ∧ r (24 + 64 * s + (X + W * Y)) ≤ 12) : -1 ≤ kdt W r s X Y ∧ kdt W r s X Y ≤ 5 := by
  have := kd_r b.1 b.2
  unfold kdt
  omega
theorem RG.fn {K : Int} (hR : RG K r W H) {s : Nat} (hs : s ≤ 1) (hC : r (9 + s) + 1 ≤ 20 * K) {x y X Y : Nat} (hx : x < W) (hy : y < H) (hX : X < W) (hY : Y < H) {times : Int} (t1 : 1 ≤ times) (t9 : times ≤ 9) : RG K (rfn W H r s x y X Y times) W H := by
  have hb := (RG.iff.mp hR).2.2.1 s hs
  have d1 := cell_lt hx hy
  have d2 := cell_lt hX hY
  have kr := kdt_r (W := W) (r := r) (s := s) (X := X) (Y := Y) (hb.2.2.2.1.1 X Y hX hY)
  have h1 := hR.b1 (q := s) (s := s) hs hs hC hx hy hX hY
  have h2 := h1.la (vs := avs W r s x y X Y times) ⟨by show (0 : Int) ≤ (s : Nat); omega, by show ((s : Nat) : Int) ≤ 1; omega⟩ ⟨by show (0 : Int) ≤ ((x + W * y : Nat) : Int); omega, by show ((x + W * y : Nat) : Int) < _; omega⟩ ⟨by show (0 : Int) ≤ ((X + W * Y : Nat) : Int); omega, by show ((X + W * Y : Nat) : Int) < _; omega⟩ kr ⟨t1, t9⟩
  have h3 := (RG.iff.mp h2).2.1
  unfold rfn
  refine h2.cS (fun j _ hj => ?_) ?_
  · unfold rnd
    unfold pS at hj
    rw [if_neg (by omega), if_neg (by omega)]
  · unfold rS rnd at *
    obtain ⟨a2, a3, a4, a5, a6, a7, a8⟩ := h3
    refine ⟨by rw [if_neg (by omega), if_neg (by omega)]; exact a2, by rw [if_neg (by omega), if_pos rfl]; omega, ?_, by rw [if_neg (by omega), if_neg (by omega)]; exact a5, by rw [if_neg (by omega), if_neg (by omega)]; exact a6, by rw [if_neg (by omega), if_neg (by omega)]; exact a7, fun t ht => by rw [if_neg (by omega), if_neg (by omega)]; exact a8 t ht⟩
    by_cases q : kdt W r s X Y = 0
    · rw [if_pos ⟨rfl, q⟩]; omega
    · rw [if_neg (fun e => q e.2), if_neg (by decide)]; exact a4
theorem m262 (h : MW m r W H) {K : Int} (hR : RG K r W H) {s : Nat} (hs : s ≤ 1) (h3 : r 3 = s) {x y X Y : Nat} (hx : x < W) (hy : y < H) (hX : X < W) (hY : Y < H) (hn : ¬ (x = X ∧ y = Y)) {times : Int} :
    An (d_262 249 (zI ((x + W * y : Nat) : Int)) (zI ((X + W * Y : Nat) : Int)) (zI times) m) (fun m' => MR m' (rfn W H r s x y X Y times) ∧ ∀ a, a ≠ 250 → m' a = m a) := by
  have hw := h.2.2.2
  have c2 := cell_64 hw hX hY
  obtain ⟨hW, hrS, hrB, hrF, hr13, hrA⟩ := RG.iff.mp hR
  have hb := (hrB s hs).2.2.2.1.1
  have bp : 0 ≤ r (24 + 64 * s + (X + W * Y)) ∧ r (24 + 64 * s + (X + W * Y)) ≤ 12 := hb X Y hX hY
  have kr := kd_r bp.1 bp.2
  unfold d_262
  rw [z3n, z2n]
  refine i_r (by decide) ?_
  rw [mr_k (by decide) h.1, h3, wbs, m194, t24]
  simp only [obs]
  rw [z_ad]
  refine i_r (by omega) ?_
  rw [mr_k (by omega) h.1, m197 bp.1 bp.2]
  simp only [obs]
  refine (m251 h (q := s) (s := s) hs (B := true) hb hx hy hX hY hn).bd (fun m4 hm4 => ?_)
  obtain ⟨g4, f4⟩ := hm4
  rw [btr] at g4
  have e14 : rb1 W H r s s x y X Y 14 = r 14 := rb1_n (by unfold pB; omega)
  have h14 : 0 ≤ rb1 W H r s s x y X Y 14 ∧ rb1 W H r s s x y X Y 14 ≤ 20 := by rw [e14]; exact hrA.1
  refine (m259 (ci := 14) (ba := 464) (w := 6) g4 (by decide) (by decide) (by decide) h14.1 h14.2).bd (fun p hp => ?_)
  obtain ⟨p1, p2, p3⟩ := hp
  obtain ⟨z, m2⟩ := p
  dsimp only at p1 p2 p3 ⊢
  generalize hN : (if rb1 W H r s s x y X Y 14 = 20 then 19 else (rb1 W H r s s x y X Y 14).toNat : Nat) = N at p1
  have hN2 : N < 20 := by split at hN <;> omega
  rw [show ((464 : Nat) : Int) + ((6 : Nat) : Int) * (N : Nat) = ((464 + 6 * N : Nat) : Int) by omega] at p1
  subst p1
  generalize hρ : (fun k => if k = 14 then (if rb1 W H r s s x y X Y 14 = 20 then 20 else rb1 W H r s s x y X Y 14 + 1) else if rb1 W H r s s x y X Y 14 = 20 ∧ 464 ≤ k ∧ k < 464 + 19 * 6 then rb1 W H r s s x y X Y (k + 6) else rb1 W H r s s x y X Y k) = ρ at p2
  have ρ2 : ρ 2 = r 2 := by
    rw [← hρ]
    show (if (2 : Nat) = 14 then _ else _) = _
    rw [if_neg (by decide), if_neg (by omega)]
    exact rb1_n (by unfold pB; omega)
  rw [z1n, z4n, z5n, show (11 : Int32) = zI ((11 : Nat) : Int) from rfl]
  simp only [z_ad, zI_sub]
  refine i_r (by omega) ?_
  rw [wbs]
  have h0 := p2.pt (k := 464 + 6 * N) (by omega) (v := (s : Nat))
  refine i_r (by omega) ?_
  rw [wbs]
  have h1 := h0.pt (k := 464 + 6 * N + 1) (by omega) (v := ((x + W * y : Nat) : Int))
  refine i_r (by omega) ?_
  rw [wbs]
  have h2 := h1.pt (k := 464 + 6 * N + 2) (by omega) (v := ((X + W * Y : Nat) : Int))
  refine i_r (by omega) ?_
  rw [wbs]
  have h3' := h2.pt (k := 464 + 6 * N + 3) (by omega) (v := kd (r (24 + 64 * s + (X + W * Y))) - (1 : Nat))
  refine i_r (by omega) ?_
  rw [wbs]
  have h4 := h3'.pt (k := 464 + 6 * N + 4) (by omega) (v := times)
  refine i_r (by decide) (i_r (by omega) ?_)
  rw [mr_k (by decide) h4, rs_ne (by omega), rs_ne (by omega), rs_ne (by omega), rs_ne (by omega), rs_ne (by omega), ρ2, wbs]
  have h5 := h4.pt (k := 464 + 6 * N + 5) (by omega) (v := r 2)
  have f5 : ∀ c, c ≠ 250 → wr (wr (wr (wr (wr (wr m2 (sh_r 249 1) (ix (zI ((464 + 6 * N : Nat) : Int))) (zI (s : Nat))) (sh_r 249 1) (ix (zI ((464 + 6 * N + 1 : Nat) : Int))) (zI ((x + W * y : Nat) : Int))) (sh_r 249 1) (ix (zI ((464 + 6 * N + 2 : Nat) : Int))) (zI ((X + W * Y : Nat) : Int))) (sh_r 249 1) (ix (zI ((464 + 6 * N + 3 : Nat) : Int))) (zI (kd (r (24 + 64 * s + (X + W * Y))) - (1 : Nat)))) (sh_r 249 1) (ix (zI ((464 + 6 * N + 4 : Nat) : Int))) (zI times)) (sh_r 249 1) (ix (zI ((464 + 6 * N + 5 : Nat) : Int))) (zI (r 2)) c = m c := fun c hc => by rw [wr_r hc, wr_r hc, wr_r hc, wr_r hc, wr_r hc, wr_r hc, p3 c hc, f4 c hc]
  generalize wr (wr (wr (wr (wr (wr m2 (sh_r 249 1) (ix (zI ((464 + 6 * N : Nat) : Int))) (zI (s : Nat))) (sh_r 249 1) (ix (zI ((464 + 6 * N + 1 : Nat) : Int))) (zI ((x + W * y : Nat) : Int))) (sh_r 249 1) (ix (zI ((464 + 6 * N + 2 : Nat) : Int))) (zI ((X + W * Y : Nat) : Int))) (sh_r 249 1) (ix (zI ((464 + 6 * N + 3 : Nat) : Int))) (zI (kd (r (24 + 64 * s + (X + W * Y))) - (1 : Nat)))) (sh_r 249 1) (ix (zI ((464 + 6 * N + 4 : Nat) : Int))) (zI times)) (sh_r 249 1) (ix (zI ((464 + 6 * N + 5 : Nat) : Int))) (zI (r 2)) = M at h5 f5 ⊢
  have e6 : ∀ k, rs (rs (rs (rs (rs (rs ρ (464 + 6 * N) (s : Nat)) (464 + 6 * N + 1) ((x + W * y : Nat) : Int)) (464 + 6 * N + 2) ((X + W * Y : Nat) : Int)) (464 + 6 * N + 3) (kd (r (24 + 64 * s + (X + W * Y))) - (1 : Nat))) (464 + 6 * N + 4) times) (464 + 6 * N + 5) (r 2) k = if 464 + 6 * N ≤ k ∧ k < 464 + 6 * N + 6 then avs W r s x y X Y times (k - (464 + 6 * N)) else ρ k := fun k => rs6 (v := avs W r s x y X Y times)
  generalize rs (rs (rs (rs (rs (rs ρ (464 + 6 * N) (s : Nat)) (464 + 6 * N + 1) ((x + W * y : Nat) : Int)) (464 + 6 * N + 2) ((X + W * Y : Nat) : Int)) (464 + 6 * N + 3) (kd (r (24 + 64 * s + (X + W * Y))) - (1 : Nat))) (464 + 6 * N + 4) times) (464 + 6 * N + 5) (r 2) = ρ6 at h5 e6
  refine i_r (by decide) (i_r (by decide) ?_)
  rw [mr_k (by decide) h5, zI_add, wbs]
  have h6 := h5.pt (k := 11) (by decide) (v := ρ6 11 + (1 : Nat))
  have ρ11 : ρ6 11 = r 11 := by
    rw [e6, if_neg (by omega), ← hρ]
    show (if (11 : Nat) = 14 then _ else _) = _
    rw [if_neg (by decide), if_neg (by omega)]
    exact rb1_n (by unfold pB; omega)
  -- what the rows of moves come to
  have rl : ∀ k, k < 584 → rla (rb1 W H r s s x y X Y) (avs W r s x y X Y times) k = rs ρ6 11 (ρ6 11 + (1 : Nat)) k := fun k hk => by
    by_cases k11 : k = 11
    · rw [k11, rs_eq, ρ11]
      unfold rla
      rw [if_neg (by decide), if_pos rfl, rb1_n (by unfold pB; omega)]
      rfl
    · rw [rs_ne k11, e6 k]
      unfold rla
      rw [hN]
      by_cases k14 : k = 14
      · rw [if_pos k14, if_neg (show ¬ (464 + 6 * N ≤ k ∧ k < 464 + 6 * N + 6) by omega), ← hρ]
        show _ = (if k = 14 then _ else _)
        rw [if_pos k14]
      · rw [if_neg k14, if_neg k11]
        have ρk : ρ k = if rb1 W H r s s x y X Y 14 = 20 ∧ 464 ≤ k ∧ k < 464 + 19 * 6 then rb1 W H r s s x y X Y (k + 6) else rb1 W H r s s x y X Y k := by
          rw [← hρ]
          show (if k = 14 then _ else _) = _
          rw [if_neg k14]
        by_cases kl : 464 ≤ k ∧ k < 584
        · rw [if_pos kl]
          by_cases kn : 464 + 6 * N ≤ k ∧ k < 470 + 6 * N
          · rw [if_pos kn, if_pos (show 464 + 6 * N ≤ k ∧ k < 464 + 6 * N + 6 by omega)]
          · rw [if_neg kn, if_neg (show ¬ (464 + 6 * N ≤ k ∧ k < 464 + 6 * N + 6) by omega), ρk]
            by_cases k20 : rb1 W H r s s x y X Y 14 = 20 ∧ k < 578
            · rw [if_pos k20, if_pos (show rb1 W H r s s x y X Y 14 = 20 ∧ 464 ≤ k ∧ k < 464 + 19 * 6 by omega)]
            · rw [if_neg k20, if_neg (show ¬ (rb1 W H r s s x y X Y 14 = 20 ∧ 464 ≤ k ∧ k < 464 + 19 * 6) by omega)]
        · rw [if_neg kl, if_neg (show ¬ (464 + 6 * N ≤ k ∧ k < 464 + 6 * N + 6) by omega), ρk, if_neg (show ¬ (rb1 W H r s s x y X Y 14 = 20 ∧ 464 ≤ k ∧ k < 464 + 19 * 6) by omega)]
  have h7 : MR (wr M (sh_r 249 1) (ix (zI ((11 : Nat) : Int))) (zI (ρ6 11 + (1 : Nat)))) (rla (rb1 W H r s s x y X Y) (avs W r s x y X Y times)) := h6.cg rl
  have f7 : ∀ c, c ≠ 250 → wr M (sh_r 249 1) (ix (zI ((11 : Nat) : Int))) (zI (ρ6 11 + (1 : Nat))) c = m c := fun c hc => by rw [wr_r hc, f5 c hc]
  generalize wr M (sh_r 249 1) (ix (zI ((11 : Nat) : Int))) (zI (ρ6 11 + (1 : Nat))) = M7 at h7 f7 ⊢
  have tl : ∀ (M8 : Mm) (r8 : Nat → Int), MR M8 r8 → (∀ c, c ≠ 250 → M8 c = m c) → (∀ k, k < 584 → k ≠ 3 → rfn W H r s x y X Y times k = r8 k) → An (d_262_148 249 (zI (s : Nat)) M8) (fun m' => MR m' (rfn W H r s x y X Y times) ∧ ∀ a, a ≠ 250 → m' a = m a) := fun M8 r8 h8 f8 e8 => by
    unfold d_262_148
    rw [z3n, z1n, zI_sub]
    refine i_r (by decide) ?_
    rw [wbs]
    refine An.so ⟨(h8.pt (k := 3) (by decide) (v := ((1 : Nat) : Int) - (s : Nat))).cg (fun k hk => ?_), fun c hc => by rw [wr_r hc]; exact f8 c hc⟩
    by_cases k3 : k = 3
    · rw [k3, rs_eq]
      unfold rfn rnd
      rw [if_neg (by omega), if_pos rfl]
      rfl
    · rw [rs_ne k3]; exact e8 k hk k3
  by_cases q1 : kd (r (24 + 64 * s + (X + W * Y))) = 1
  · rw [if_neg (by rw [q1]; exact fun e => e rfl)]
    refine i_r (by decide) ?_
    rw [wbs]
    refine tl _ _ (h7.pt (k := 4) (by decide) (v := ((1 + s : Nat) : Int))) (fun c hc => by rw [wr_r hc]; exact f7 c hc) (fun k hk k3 => ?_)
    unfold rfn rnd
    by_cases k4 : k = 4
    · rw [if_pos ⟨k4, by unfold kdt; omega⟩, k4, rs_eq]; omega
    · rw [if_neg (fun e => k4 e.1), if_neg k3, rs_ne k4]
  · rw [if_pos (by rw [zI_inj (by omega) (by omega) (by omega) (by omega)]; omega)]
    refine tl _ _ h7 f7 (fun k hk k3 => ?_)
    unfold rfn rnd
    rw [if_neg (fun e => q1 (by have := e.2; unfold kdt at this; omega)), if_neg k3]
theorem m263 {K : Int} (hK : K ≤ 520) {s q : Nat} (hs : s + q = 1) {x y X Y : Nat} (hx : x < W) (hy : y < H) (hX : X < W) (hY : Y < H) (hn : ¬ (x = X ∧ y = Y)) :
    ∀ (n j : Nat) (m : Mm) (r : Nat → Int), MR m r → RG K r W H → r 3 = s → 1 ≤ j → (j : Int) + n = r 7 + 1 → r 2 + r (15 + s) ≤ 10000 * K → r (9 + q) + n ≤ 20 * K → r (9 + s) + 1 ≤ 20 * K →
    An (d_263_2 249 (zI ((x + W * y : Nat) : Int)) (zI ((X + W * Y : Nat) : Int)) (zI (j : Nat)) m) (fun p => p.1 = zI (pls W H s q x y X Y n j r).1 ∧ MR p.2 (pls W H s q x y X Y n j r).2 ∧ ∀ a, a ≠ 250 → a ≠ 253 → a ≠ 262 → a ≠ 263 → p.2 a = m a) ∧ RG K (pls W H s q x y X Y n j r).2 W H ∧ -1 ≤ (pls W H s q x y X Y n j r).1 ∧ (pls W H s q x y X Y n j r).1 ≤ 9 := by
  intro n
  induction n with
  | zero =>
    intro j m r h hR h3 j1 j7 ht hC hC2
    have h7 := (RG.iff.mp hR).2.1.2.2.2.2.2.1
    refine ⟨⟨(0, m), ?_, rfl, h, fun _ _ _ _ _ => rfl⟩, hR, (by show (-1 : Int) ≤ 0; decide), (by show (0 : Int) ≤ 9; decide)⟩
    unfold d_263_2
    refine it_r ?_
    show s_263_2 249 _ _ (zI (j : Nat)) m = _
    unfold s_263_2
    rw [z7n, if_pos (in_r (by decide)), mr_k (by decide) h, if_pos (by rw [zI_lt (by omega) (by omega) (by omega) (by omega)]; omega)]
  | succ n ih =>
    intro j m r h hR h3 j1 j7 ht hC hC2
    have hrS := (RG.iff.mp hR).2.1
    have hW := (RG.iff.mp hR).1
    have h7 := hrS.2.2.2.2.2.1
    have h6 := hrS.2.2.2.2.1
    have hcl := hrS.2.2.2.2.2.2 s (by omega)
    have tkr := ftk_r hR (s := s) (q := q) (by omega) hx hy hX hY (t := r 2 + (if j = 1 then 0 else r 6))
    have st : ∀ (B : Bool), (B = true ↔ j ≠ 1) → s_263_2 249 (zI ((x + W * y : Nat) : Int)) (zI ((X + W * Y : Nat) : Int)) (zI (j : Nat)) m = d_263_26 249 (zI ((x + W * y : Nat) : Int)) (zI ((X + W * Y : Nat) : Int)) (zI (j : Nat)) 249 (zI ((x + W * y : Nat) : Int)) (zI ((X + W * Y : Nat) : Int)) B m := fun B hB => by
      unfold s_263_2
      rw [z7n, if_pos (in_r (by decide)), mr_k (by decide) h, if_neg (by rw [zI_lt (by omega) (by omega) (by omega) (by omega)]; omega)]
      by_cases q1 : j = 1
      · rw [if_pos (by rw [q1]; decide), show B = false from by cases B <;> simp_all]
      · rw [if_neg (by rw [zl_1, zI_le (by omega) (by omega) (by omega) (by omega)]; omega), hB.mpr q1]
    have k := m261 h hK hR hs h3 hx hy hX hY hn (B := decide (j ≠ 1)) (w := if j = 1 then 0 else r 6) (by
      by_cases q1 : j = 1
      · rw [if_pos q1, if_neg (by simp [q1])]
      · rw [if_neg q1, if_pos (by simp [q1])])
    have st' := st (decide (j ≠ 1)) decide_eq_true_iff
    obtain ⟨p, ep, p1, p2, p3⟩ := k
    unfold d_263_2 pls
    generalize hw : (if j = 1 then 0 else r 6) = w at *
    have w0 : 0 ≤ w := by rw [← hw]; split <;> omega
    unfold d_263_26 at st'
    rw [ep] at st'
    simp only [obs] at st'
    by_cases qc : w + ftk W H r s q x y X Y (r 2 + w) < r (15 + s)
    · have hRs := stw_R hR hs w0 hx hy hX hY qc ht (by omega)
      have s3 : stw W H r s q x y X Y w 3 = s := by
        rw [stw_n (by decide) (by omega) (by unfold pL; omega) (by unfold pB; omega)]; exact h3
      have s9 : stw W H r s q x y X Y w (9 + s) = r (9 + s) := stw_n (by omega) (by omega) (by unfold pL; omega) (by unfold pB; omega)
      simp only [if_pos qc] at p1 p2 ⊢
      by_cases qi : fia W H r s q x y X Y (r 2 + w) = true
      · simp only [if_pos qi] at p1 ⊢
        rw [p1, if_pos (by decide), if_pos (by decide)] at st'
        obtain ⟨m2, e2, g2, f2⟩ := m262 ⟨p2, (RG.iff.mp hRs).1.1, (RG.iff.mp hRs).1.2.1, hW.2.2⟩ hRs (s := s) (by omega) s3 hx hy hX hY hn (times := (j : Nat))
        unfold d_263_47 at st'
        rw [e2] at st'
        refine ⟨⟨((zI (j : Nat)), m2), it_r st', rfl, g2, fun a a1 a2 a3 a4 => ?_⟩, hRs.fn (by omega) (by rw [s9]; exact hC2) hx hy hX hY (by omega) (by omega), by omega, by omega⟩
        dsimp only
        rw [f2 a a1, p3 a a1 a2 a3 a4]
      · simp only [if_neg qi] at p1 ⊢
        rw [p1, if_pos (by decide), if_neg (by decide), wbs, z1n, z_ad] at st'
        have s7 : stw W H r s q x y X Y w 7 = r 7 := stw_n (by decide) (by omega) (by unfold pL; omega) (by unfold pB; omega)
        have sq := stw_9 (W := W) (H := H) (r := r) (s := s) (q := q) (x := x) (y := y) (X := X) (Y := Y) (w := w) (by omega) (by omega)
        obtain ⟨t1, t2⟩ := stw_t (W := W) (H := H) (r := r) (s := s) (q := q) (x := x) (y := y) (X := X) (Y := Y) (w := w) (by omega) (by omega)
        obtain ⟨⟨p', ep', p1', p2', p3'⟩, u1, u2, u3⟩ := ih (j + 1) p.2 (stw W H r s q x y X Y w) p2 hRs s3 (by omega) (by rw [s7]; omega) (by rw [t1, t2]; omega) (by omega) (by rw [s9]; exact hC2)
        exact ⟨⟨p', it_l st' ep', p1', p2', fun a a1 a2 a3 a4 => by rw [p3' a a1 a2 a3 a4, p3 a a1 a2 a3 a4]⟩, u1, u2, u3⟩
    · simp only [if_neg qc] at p1 p2 ⊢
      rw [p1, if_neg (by decide)] at st'
      refine ⟨⟨_, it_r st', ?_, p2, p3⟩, hR.tm (by omega) ht, by decide, by decide⟩
      show (-1 : Int32) = zI (-1)
      decide
end NA
