/-! The calls that the law makes: those that change the game. -/
section AC
variable {m m0 m1 : Mm} {r r' : Nat → Int} {W H n : Nat} {k : Int}
def iHis (m : Mm) : Prop := ∃ c x : Nat, c ≤ 8 ∧ x < 8 ∧ m 80 2 = zI (c : Nat) ∧ m 80 1 = zI (x : Nat)
/-- a change of the game: what it leaves, the row, what is kept -/
def Ch (m M : Mm) (r r' : Nat → Int) (W H : Nat) : Prop := (∀ a, a < 23 ∨ (61 ≤ a ∧ a < 80) → M a = m a) ∧ GR M 23 r' W H ∧ Hc m M r W H
theorem Ch.h (h : Ch m m1 r r' W H) (hi : iHis m) : iHis m1 := by
  obtain ⟨c, x, c1, x1, e2, e1⟩ := hi
  obtain ⟨k1, k2, -, -⟩ := h.2.2 c x c1 x1 e2 e1
  exact ⟨_, _, by split <;> omega, Nat.mod_lt _ (by decide), k1, k2⟩
theorem Ch.g (h : Ch m m1 r r' W H) (hg : iGam k m r W H) {k' : Int} (hR : RG k' r' W H) : iGam k' m1 r' W H := ⟨hg.1.mm (h.1 0 (by omega)) (h.1 1 (by omega)), hR, h.2.1⟩
theorem Ch.of (h1 : Hc m m0 r W H) (f1 : ∀ a, a ≠ 80 → ¬ (82 ≤ a ∧ a < 234) → m0 a = m a) (f2 : ∀ a, a < 23 ∨ (41 < a ∧ a < 234) ∨ 236 < a → m1 a = m0 a) (g : GR m1 23 r' W H) : Ch m m1 r r' W H := by
  refine ⟨fun a ha => by rw [f2 a (by omega), f1 a (by omega) (by omega)], g, fun c x hc hx e2 e1 => ?_⟩
  obtain ⟨k1, k2, k3, k4⟩ := h1 c x hc hx e2 e1
  exact ⟨by rw [f2 80 (by omega)]; exact k1, by rw [f2 80 (by omega)]; exact k2, k3.mm (fun a _ _ => f2 a (by omega)), fun a q1 q2 q3 => by rw [f2 a (by omega)]; exact k4 a q1 q2 q3⟩
theorem c65i (hi : iHis m) (hG : iGam k m r W H) : An (d_65 80 23 m) (fun M => GR M 23 r W H ∧ Hc m M r W H ∧ ∀ a, a ≠ 80 → ¬ (82 ≤ a ∧ a < 234) → M a = m a) := by
  obtain ⟨c, x, c1, x1, e2, e1⟩ := hi
  exact (c65 hG.2.1.rok hG.2.2 c1 x1 e2 e1).mp (fun M h => ⟨hG.2.2.mm (fun a _ _ => h.2 a (by omega) (by omega)), h.1, h.2⟩)
theorem a154 (hn : n ≤ 512) (hi : iHis m) (h : iGam (n : Nat) m r W H) (h4 : r 4 = 0) {x y X Y : Nat} (hx : x < W) (hy : y < H) (hX : X < W) (hY : Y < H) (hm : mv W (fun c => r (24 + 64 * tS r + c)) (tS r : Nat) x y X Y = true) :
    An (d_154 20 (zI (x : Nat)) (zI (y : Nat)) (zI (X : Nat)) (zI (Y : Nat)) m) (fun p => p.1 = zI (trN W H r (tS r) (1 - tS r) x y X Y) ∧ Ch m p.2 r (trR W H r (tS r) (1 - tS r) x y X Y) W H) := by
  obtain ⟨s1, s2, s3⟩ := tS_f h
  have hW := iG_w h
  have hb := (iG_b h s1).1
  obtain ⟨b1, b2, b3, b4, b5, b6⟩ := pl_b (n := n) hn h.2.1 s3
  unfold d_154 trN trR
  rw [k179 h hx hy hX hY, obs, k180 h h4, obs, k12, obs, k12, obs, k_r1, k_r5, k_r6, c56 gA_23 h.2.2 hW s1 s2 hb hx hy hX hY, obs, hm, if_pos rfl, if_pos rfl, if_pos rfl]
  refine (c65i hi h).bd (fun M0 h0 => ?_)
  obtain ⟨g0, k0, f0⟩ := h0
  unfold d_60
  rw [c56 gA_23 g0 hW s1 s2 hb hx hy hX hY, hm]
  simp only [obs, ift]
  refine (c60 gA_23 (by decide) b1 s3 hx hy hX hY (r 7).toNat 1 M0 r g0 b2 s2 (Nat.le_refl _) b3 b4 b5 b6).bd (fun p hp => ?_)
  obtain ⟨p1, p2, p3⟩ := hp
  exact An.so ⟨p1, Ch.of k0 f0 (fun a ha => p3 a (by omega)) p2⟩
theorem a156 (hi : iHis m) (h : iGam k m r W H) (h4 : r 4 = 0) : An (d_156 20 m) (fun p => p.1 = zI (1 - (tS r : Nat)) ∧ Ch m p.2 r (rs r 4 (2 - (tS r : Nat))) W H) := by
  obtain ⟨s1, s2, s3⟩ := tS_f h
  have hk := h.2.1.rok
  unfold d_156
  rw [k180 h h4, obs, k_r1, k_r5]
  refine (c65i hi h).bd (fun M0 h0 => ?_)
  obtain ⟨g0, k0, f0⟩ := h0
  have e6 : M0 23 6 = zI (tS r : Nat) := by rw [g0.2.2.2.2.2.2.1, s2]
  rw [e6, wbs, zl_1, zI_sub, c57]
  simp only [obs]
  refine An.so ⟨rfl, Ch.of k0 f0 (fun a ha => wr_ne (by omega)) (g0.cS (iG_w h) hk.1 hk.2.1 hk.2.2 (fun a a1 a2 => wr_ne (by omega)) (rs_n (by unfold pS; omega)) ?_)⟩
  obtain ⟨u1, u2, u3, u4, u5, u6, u7, u8⟩ := g0.2.2.2.2.2
  unfold SV
  dsimp only
  rw [rs_ne (by decide), rs_ne (by decide), rs_eq, rs_ne (by decide), rs_ne (by decide), rs_ne (by decide), rs_ne (by decide), rs_ne (by decide)]
  refine ⟨by rw [wr_nk (by decide)]; exact u1, by rw [wr_nk (by decide)]; exact u2, ?_, by rw [wr_nk (by decide)]; exact u4, by rw [wr_nk (by decide)]; exact u5, by rw [wr_nk (by decide)]; exact u6, by rw [wr_nk (by decide)]; exact u7, by rw [wr_nk (by decide)]; exact u8⟩
  rw [wr_eq, zl_1, zI_add]
  exact congrArg zI (by omega)
theorem a157 (hi : iHis m) (h : iGam k m r W H) {s t : Nat} (ht : s + t = 1) : An (d_157 20 (zI (s : Nat)) m) (fun p => p.1 = zI (dif (W * H) (fun c => r (24 + c)) (fun c => r (88 + c))) ∧ Ch m p.2 r (rst r s t) W H) := by
  have hW := iG_w h
  have hk := h.2.1.rok
  have hs : s ≤ 1 := by omega
  obtain ⟨d1, d2, d3, d4⟩ := rst_c (r := r) (s := s) (t := t) (by omega)
  have eq : zI 1 - zI (s : Nat) = zI (t : Nat) := by rw [zI_sub]; congr 1; omega
  unfold d_157
  rw [k175 hs, obs, k_r1, k_r5]
  refine (c65i hi h).bd (fun M0 h0 => ?_)
  obtain ⟨g0, k0, f0⟩ := h0
  rw [c54 gA_23 g0 hW (iG_0 h) (iG_1 h), obs, zl_1, eq, c51 gA_23 (by omega), obs, c51 gA_23 hs, obs]
  refine (c2 (gA_b gA_23 hs) (gA_b gA_23 (s := t) (by omega)) (by omega) (g0.bd hs)).bd (fun m9 h9 => ?_)
  obtain ⟨k9, f9⟩ := h9
  refine An.so ⟨rfl, Ch.of k0 f0 (fun a ha => f9 a (by omega)) (g0.cB hW hk.1 hk.2.1 hk.2.2 (s := t) (by omega) (fun a a1 a2 a3 => f9 a (by omega)) (fun j _ hj => rst_n hj) ?_)⟩
  rw [d1, d2, d3, d4]
  refine k9.cg (fun u v hu hv => ?_) (fun u v hu hv => ?_)
  · exact (rst_a (cell_64 hW hu hv)).symm
  · exact (rst_b (by omega) (cell_64 hW hu hv)).symm
theorem rst_R (hR : RG k r W H) {s t : Nat} (ht : s + t = 1) : RG k (rst r s t) W H := by
  have hBs := (RG.iff.mp hR).2.2.1 s (by omega)
  have hN := WH_n (RG.iff.mp hR).1.2.2
  obtain ⟨d1, d2, d3, d4⟩ := rst_c (r := r) (s := s) (t := t) (by omega)
  refine hR.cB (s := t) (by omega) (fun j _ hj => rst_n hj) ?_
  unfold rB
  rw [d1, d2, d3, d4]
  exact ⟨hBs.1, hBs.2.1, hBs.2.2.1, hBs.2.2.2.1.cg (fun c hc => rst_a (by omega)), hBs.2.2.2.2.cg (fun c hc => rst_b (by omega) (by omega))⟩
theorem rs4_R (hR : RG k r W H) {v : Int} (h : 0 ≤ v ∧ v ≤ 2) : RG k (rs r 4 v) W H := by
  have h' := (RG.iff.mp hR).2.1
  refine hR.cS (rs_n (by unfold pS; omega)) ?_
  unfold rS rs at *
  exact ⟨h'.1, h'.2.1, by rw [if_pos rfl]; omega, h'.2.2.2.1, h'.2.2.2.2.1, h'.2.2.2.2.2.1, fun s hs => by rw [if_neg (by omega)]; exact h'.2.2.2.2.2.2 s hs⟩
theorem a158_1 (hi : iHis m) (h : iGam k m r W H) {s : Nat} (hs : s ≤ 1) (h9 : r (15 + s) ≤ 9998) : An (d_158 20 (zI (s : Nat)) 1 m) (fun p => p.1 = zI (r (15 + s) + 1) ∧ Ch m p.2 r (rs r (15 + s) (r (15 + s) + 1)) W H) := by
  have hk := h.2.1.rok
  have hcl := (RG.iff.mp h.2.1).2.1.2.2.2.2.2.2 s hs
  have pS15 : pS (15 + s) := by unfold pS; omega
  unfold d_158
  rw [k175 hs, obs, show d_177 1 1 999 = some () from by decide, obs, k_r1, k_r5, c52 h.2.2 hs, obs, wbs, zl_1, zI_add, zl_9999, if_pos (by rw [zI_le (by omega) (by omega) (by omega) (by omega)]; omega)]
  refine (c65i hi h).bd (fun M0 h0 => ?_)
  obtain ⟨g0, k0, f0⟩ := h0
  rw [c53 hs]
  simp only [obs]
  refine An.so ⟨rfl, Ch.of k0 f0 (fun a ha => wr_ne (by omega)) (g0.cS (iG_w h) hk.1 hk.2.1 hk.2.2 (fun a a1 a2 => wr_ne (by omega)) (rs_n pS15) ?_)⟩
  obtain ⟨u1, u2, u3, u4, u5, u6, u7, u8⟩ := g0.2.2.2.2.2
  unfold SV
  dsimp only
  have : s = 0 ∨ s = 1 := by omega
  rcases this with rfl | rfl
  · refine ⟨by rw [wr_nk (by decide), rs_ne (by decide)]; exact u1, by rw [wr_nk (by decide), rs_ne (by decide)]; exact u2, by rw [wr_nk (by decide), rs_ne (by decide)]; exact u3, by rw [wr_nk (by decide), rs_ne (by decide)]; exact u4, by rw [wr_nk (by decide), rs_ne (by decide)]; exact u5, by rw [wr_nk (by decide), rs_ne (by decide)]; exact u6, ?_, by rw [wr_nk (by decide), rs_ne (by decide)]; exact u8⟩
    exact wr_eq.trans (congrArg zI rs_eq.symm)
  · refine ⟨by rw [wr_nk (by decide), rs_ne (by decide)]; exact u1, by rw [wr_nk (by decide), rs_ne (by decide)]; exact u2, by rw [wr_nk (by decide), rs_ne (by decide)]; exact u3, by rw [wr_nk (by decide), rs_ne (by decide)]; exact u4, by rw [wr_nk (by decide), rs_ne (by decide)]; exact u5, by rw [wr_nk (by decide), rs_ne (by decide)]; exact u6, by rw [wr_nk (by decide), rs_ne (by decide)]; exact u7, ?_⟩
    exact wr_eq.trans (congrArg zI rs_eq.symm)
/-- one step back -/
theorem a165 {ρ : Nat → Int} {W' H' c x : Nat} (c0 : 0 < c) (c8 : c ≤ 8) (x1 : x < 8) (e2 : m 80 2 = zI (c : Nat)) (e1 : m 80 1 = zI (x : Nat)) {k : Int} (hR : RG k ρ W' H') (g : GR m (82 + 19 * ((x + 7) % 8)) ρ W' H') :
    An (d_165 20 m) (fun p => p.1 = zI ((c - 1 : Nat) : Int) ∧ GR p.2 23 ρ W' H' ∧ iHis p.2 ∧ ∀ a, a < 23 ∨ (41 < a ∧ a < 80) → p.2 a = m a) := by
  have hk := hR.rok
  have y1 : (x + 7) % 8 < 8 := Nat.mod_lt _ (by decide)
  have ea : zI (((x + 7) % 8 : Nat) : Int) &&& 7 = zI (((x + 7) % 8 : Nat) : Int) := by
    have := zI_and7 ((x + 7) % 8)
    rw [Nat.mod_eq_of_lt y1] at this
    exact this
  unfold d_165
  rw [k_r5, k_r1, e2, if_pos (by rw [zl_0, zI_inj (by omega) (by omega) (by omega) (by omega)]; omega)]
  unfold d_66
  rw [e1, and7m x x1, wbs, wbs, wr_nk (show 2 ≠ 1 by decide), e2, wr_nk (show 1 ≠ 2 by decide), wr_eq, ea, h_r0, h_n, if_pos (in_k y1 (by decide)), z_ix (by omega), h_r _ y1]
  have s3' : GR (wr (wr m 80 1 (zI (((x + 7) % 8 : Nat) : Int))) 80 2 (zI (c : Nat) - 1)) (82 + 19 * ((x + 7) % 8)) ρ W' H' := g.mm (fun a _ _ => by rw [wr_ne (by omega), wr_ne (by omega)])
  obtain ⟨m1, em, g1, f1⟩ := c49 (gA_h y1) gA_23 (by omega) hk.1 hk.2.1 hk.2.2 s3'
  rw [em]
  simp only [obs]
  have e82 : m1 80 2 = zI ((c - 1 : Nat) : Int) := by
    rw [f1 80 (by decide), wr_eq, zl_1, zI_sub]
    exact congrArg zI (by omega)
  have e81 : m1 80 1 = zI (((x + 7) % 8 : Nat) : Int) := by rw [f1 80 (by decide), wr_nk (by decide), wr_eq]
  exact An.so ⟨e82, g1, ⟨c - 1, (x + 7) % 8, by omega, y1, e82, e81⟩, fun a ha => by dsimp only; rw [f1 a (by omega), wr_ne (by omega), wr_ne (by omega)]⟩
theorem a173 (h : iGam k m r W H) : An (d_173 20 m) (fun p => p.1 = zI (r 2) ∧ p.2 20 4 = bi true ∧ GR p.2 61 r W H ∧ (∀ a, a ≠ 20 → ¬ (61 ≤ a ∧ a < 80) → p.2 a = m a)) := by
  have hk := h.2.1.rok
  unfold d_173
  rw [k_r1, k_r3]
  refine (c49 gA_23 gA_61 (by decide) hk.1 hk.2.1 hk.2.2 h.2.2).bd (fun m1 h1 => ?_)
  obtain ⟨g1, f1⟩ := h1
  rw [wbs]
  refine An.so ⟨?_, (by dsimp only; exact wr_eq), g1.mm (fun a _ _ => wr_ne (by omega)), fun a a1 a2 => ?_⟩
  · dsimp only
    rw [wr_ne (by decide), f1 23 (by decide)]; exact (iG_s h).1
  · dsimp only
    rw [wr_ne a1, f1 a (by omega)]
theorem a174 {ρ : Nat → Int} {W' H' : Nat} (e : m 20 4 = bi true) {k : Int} (hR : RG k ρ W' H') (g : GR m 61 ρ W' H') : An (d_174 20 m) (fun p => p.1 = zI (ρ 2) ∧ p.2 80 2 = 0 ∧ GR p.2 23 ρ W' H' ∧ ∀ a, a ≠ 80 → ¬ (23 ≤ a ∧ a ≤ 41) → p.2 a = m a) := by
  have hk := hR.rok
  unfold d_174
  rw [e, zbb, if_pos rfl, k_r1, k_r3, k_r5]
  obtain ⟨m1, em, g1, f1⟩ := c49 gA_61 gA_23 (by decide) hk.1 hk.2.1 hk.2.2 g
  rw [em, obs]
  unfold d_64
  rw [wbs, obs]
  refine An.so ⟨?_, (by dsimp only; exact wr_eq), g1.mm (fun a _ _ => wr_ne (by omega)), fun a a1 a2 => ?_⟩
  · dsimp only
    rw [wr_ne (by decide)]; exact g1.2.2.2.2.2.1
  · dsimp only
    rw [wr_ne a1, f1 a (by omega)]
end AC
