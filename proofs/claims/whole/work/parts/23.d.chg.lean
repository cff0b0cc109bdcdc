/-! Calls: saveState, restoreState, undo. -/
section HE
variable {m m2 : Mm} {W H n : Nat} {r : Nat → Int}
theorem VL.mm (h : VL m) (e0 : m2 0 = m 0) (e1 : m2 1 = m 1) : VL m2 := by
  unfold VL; rw [e0, e1]; exact h
theorem TX.mm (h : TX m) (e : ∀ a, 3 ≤ a → a < 20 → m2 a = m a) : TX m2 := fun k hk i hi => by
  rw [e (3 + k) (by omega) (by omega)]; exact h k hk i hi
theorem iSav.mm {k k' : Int} (h : iSav k m) (hk : k ≤ k') (e1 : m2 20 4 = m 20 4) (e2 : m2 249 9 = m 249 9) (e3 : m2 255 = m 255) (e4 : ∀ a, 61 ≤ a → a ≤ 79 → m2 a = m a) : iSav k' m2 := by
  obtain ⟨B, b1, b2, b3⟩ := h
  refine ⟨B, by rw [e1]; exact b1, by rw [e2]; exact b2, fun hB => ?_⟩
  obtain ⟨r, W, H, a1, a2, a3⟩ := b3 hB
  exact ⟨r, W, H, a1.mm e3, a2.mono hk, a3.mm (fun a _ _ => e4 a (by omega) (by omega))⟩
theorem iHis.mm {k k' : Int} (h : iHis k m) (hk : k ≤ k') (e1 : m2 80 = m 80) (e2 : m2 249 8 = m 249 8) (e3 : m2 256 = m 256) (e4 : ∀ a, 82 ≤ a → a < 234 → m2 a = m a) : iHis k' m2 := by
  obtain ⟨c, x, b1, b2, b3, b4, b5, b6⟩ := h
  refine ⟨c, x, b1, b2, by rw [e1]; exact b3, by rw [e1]; exact b4, by rw [e2]; exact b5, fun j hj => ?_⟩
  obtain ⟨r, W, H, a1, a2, a3⟩ := b6 j hj
  exact ⟨r, W, H, a1.mm e3, a2.mono hk, a3.mm (fun a _ _ => e4 a (by omega) (by omega))⟩
theorem iBuf.mm (h : iBuf m) (e1 : m2 21 = m 21) (e2 : m2 249 18 = m 249 18) (e3 : m2 22 = m 22) (e4 : m2 264 = m 264) : iBuf m2 := by
  obtain ⟨l, b1, b2, b3, b4⟩ := h
  exact ⟨l, b1, by rw [e1]; exact b2, by rw [e2]; exact b3, fun i hi => by rw [e3, e4]; exact b4 i hi⟩
theorem iErr.mm (h : iErr m) (e1 : m2 21 = m 21) (e2 : m2 249 25 = m 249 25) (e3 : m2 249 26 = m 249 26) : iErr m2 := by
  unfold iErr
  rw [e1, e2, e3]; exact h
theorem iOut.mm (h : iOut m) (e1 : m2 20 10 = m 20 10) (e2 : m2 249 30 = m 249 30) (e3 : m2 248 = m 248) (e4 : m2 265 = m 265) : iOut m2 := by
  obtain ⟨l, b1, b2, b3, b4⟩ := h
  exact ⟨l, b1, by rw [e1]; exact b2, by rw [e2]; exact b3, fun i hi => by rw [e3, e4]; exact b4 i hi⟩
theorem k_r3' : sh_r 20 3 = 61 := k_r3
theorem P_45 (hn : n ≤ 512) (hI : Inv n m) : PP n m (d_173 20 m) (fun m1 => d_191 249 m1) := by
  obtain ⟨r, W, H, hG⟩ := hI.2.2.1
  obtain ⟨i1, i2, -, i4, i5, i6, i7, i8⟩ := hI
  have hk := hG.2.1.rok
  have mo : ((n : Nat) : Int) ≤ ((n + 1 : Nat) : Int) := by omega
  unfold d_173
  rw [k_r1, k_r3]
  refine (c49 gA_23 gA_61 (by decide) hk.1 hk.2.1 hk.2.2 hG.2.2).bd (fun m1 h1 => ?_)
  obtain ⟨g1, f1⟩ := h1
  rw [wbs]
  refine An.so ⟨by dsimp only; rw [wr_ne (by decide), f1 2 (by decide)], ?_⟩
  dsimp only
  have e5 : wr m1 20 4 (bi true) 23 5 = zI (r 2) := by rw [wr_ne (by decide), f1 23 (by decide)]; exact hG.2.2.2.2.2.2.2.1
  rw [e5]
  have f2 : ∀ a, a ≠ 20 → (a < 61 ∨ 79 < a) → wr m1 20 4 (bi true) a = m a := fun a a1 a2 => by rw [wr_ne a1, f1 a (by omega)]
  have g2 : GR (wr m1 20 4 (bi true)) 61 r W H := g1.mm (fun a _ _ => wr_ne (by omega))
  have q2 : ∀ k, k ≠ 4 → wr m1 20 4 (bi true) 20 k = m 20 k := fun k hk => by rw [wr_nk hk, f1 20 (by decide)]
  have q4 : wr m1 20 4 (bi true) 20 4 = bi true := wr_eq
  generalize wr m1 20 4 (bi true) = M at f2 g2 q2 q4 ⊢
  unfold d_191
  rw [wbs, m_r1, m_r6]
  refine (m186 (a := 250) (b := 255) (by decide) n_250 n_255).bd (fun m3 h3 => ?_)
  rw [wbs, n_250, if_pos (by decide)]
  have f3 : ∀ a, a ≠ 249 → a ≠ 255 → wr m3 249 9 (bi true) a = M a := fun a a1 a2 => by rw [wr_ne a1, h3.2 a a2, wr_ne a1]
  have e9 : ∀ k, k ≠ 0 → k ≠ 9 → wr m3 249 9 (bi true) 249 k = m 249 k := fun k k0 k9 => by rw [wr_nk k9, h3.2 249 (by decide), wr_nk k0, f2 249 (by decide) (by omega)]
  have e255 : ∀ k, k < 584 → wr m3 249 9 (bi true) 255 k = zI (r k) := fun k hk => by rw [wr_ne (by decide), h3.1 k hk, wr_ne (by decide), f2 250 (by decide) (by omega)]; exact hG.1 k hk
  have e99 : wr m3 249 9 (bi true) 249 9 = bi true := wr_eq
  generalize wr m3 249 9 (bi true) = M2 at f3 e9 e255 e99 ⊢
  have ff : ∀ a, a ≠ 20 → (a < 61 ∨ 79 < a) → a ≠ 249 → a ≠ 255 → M2 a = m a := fun a a1 a2 a3 a4 => by (try dsimp only); rw [f3 a a3 a4, f2 a a1 a2]
  refine An.so ⟨?_, i1.mm (ff 0 (by decide) (by omega) (by decide) (by decide)) (ff 1 (by decide) (by omega) (by decide) (by decide)), i2.mm (fun a a1 a2 => ff a (by omega) (by omega) (by omega) (by omega)), ?_, ?_, ?_, ?_, ?_, ?_⟩
  · show zI (r 2) = M2 250 (ix 2)
    rw [show ix (2 : Int32) = 2 from by decide, ff 250 (by decide) (by omega) (by decide) (by decide), hG.1 2 (by decide)]
  · exact ⟨r, W, H, hG.1.mm (ff 250 (by decide) (by omega) (by decide) (by decide)), hG.2.1.mono mo, hG.2.2.mm (fun a a1 a2 => ff a (by omega) (by omega) (by omega) (by omega))⟩
  · refine ⟨true, ?_, e99, fun _ => ⟨r, W, H, fun k hk => by rw [Nat.zero_add]; exact e255 k hk, hG.2.1.mono mo, g2.mm (fun a a1 a2 => f3 a (by omega) (by omega))⟩⟩
    dsimp only
    rw [f3 20 (by decide) (by decide)]; exact q4
  · exact i5.mm mo (ff 80 (by decide) (by omega) (by decide) (by decide)) (e9 8 (by decide) (by decide)) (ff 256 (by decide) (by omega) (by decide) (by decide)) (fun a a1 a2 => ff a (by omega) (by omega) (by omega) (by omega))
  · exact i6.mm (ff 21 (by decide) (by omega) (by decide) (by decide)) (e9 18 (by decide) (by decide)) (ff 22 (by decide) (by omega) (by decide) (by decide)) (ff 264 (by decide) (by omega) (by decide) (by decide))
  · exact i7.mm (ff 21 (by decide) (by omega) (by decide) (by decide)) (e9 25 (by decide) (by decide)) (e9 26 (by decide) (by decide))
  · exact i8.mm (by (try dsimp only); rw [f3 20 (by decide) (by decide)]; exact q2 10 (by decide)) (e9 30 (by decide) (by decide)) (ff 248 (by decide) (by omega) (by decide) (by decide)) (ff 265 (by decide) (by omega) (by decide) (by decide))
theorem P_46 (hn : n ≤ 512) (hI : Inv n m) : PR n m (d_347 20 266 m) (fun m1 => d_192 249 m1) := by
  obtain ⟨r, W, H, hG⟩ := hI.2.2.1
  have hI' := hI
  obtain ⟨i1, i2, -, i4, i5, i6, i7, i8⟩ := hI
  have mo : ((n : Nat) : Int) ≤ ((n + 1 : Nat) : Int) := by omega
  obtain ⟨B, b1, b2, b3⟩ := i4
  cases B
  · refine PR_of hI' (code := 1) (v := 0) (Or.inr (Or.inl rfl)) ?_ (fun m1 qe => ?_)
    · unfold d_347 d_174
      rw [b1, zbb, if_neg (by decide), bE_r, if_pos rfl]
      exact lq_ex (c := 1) (by decide) (Qe.rf m)
    · unfold d_192
      rw [qe.2 9 (by decide), b2, zbb]
      simp only [m183, obs, ifn, Bool.false_eq_true]
      exact rq_t (code := 1) (fun e => by cases e)
  · obtain ⟨ρ, W', H', s1, s2, s3⟩ := b3 rfl
    have hk := s2.rok
    obtain ⟨c, x, c1, x1, e2, e1, e3, -⟩ := i5
    unfold PR d_347 d_174
    rw [b1, zbb, if_pos rfl, k_r1, k_r3, k_r5]
    obtain ⟨m1, em, g1, f1⟩ := c49 gA_61 gA_23 (by decide) hk.1 hk.2.1 hk.2.2 s3
    rw [em]
    simp only [obs]
    unfold d_64
    rw [wbs]
    simp only [obs]
    rw [bE_l, if_pos (by decide), wbs]
    have e5 : wr m1 80 2 0 23 5 = zI (ρ 2) := by rw [wr_ne (by decide)]; exact g1.2.2.2.2.2.1
    rw [e5]
    have q1 : ∀ a, a ≠ 80 → ¬ (23 ≤ a ∧ a ≤ 41) → a ≠ 266 → wr (wr m1 80 2 0) 266 (ix 0) (zI (ρ 2)) a = m a := fun a a1 a2 a3 => by rw [wr_ne a3, wr_ne a1, f1 a (by omega)]
    have q2 : GR (wr (wr m1 80 2 0) 266 (ix 0) (zI (ρ 2))) 23 ρ W' H' := g1.mm (fun a _ _ => by rw [wr_ne (by omega), wr_ne (by omega)])
    have q3 : wr (wr m1 80 2 0) 266 (ix 0) (zI (ρ 2)) 80 2 = zI ((0 : Nat) : Int) := by rw [wr_ne (by decide), wr_eq]; rfl
    have q4 : wr (wr m1 80 2 0) 266 (ix 0) (zI (ρ 2)) 80 1 = zI (x : Nat) := by rw [wr_ne (by decide), wr_nk (by decide), f1 80 (by decide)]; exact e1
    have q5 : wr (wr m1 80 2 0) 266 (ix 0) (zI (ρ 2)) 266 0 = zI (ρ 2) := by rw [show ix (0 : Int32) = 0 from by decide, wr_eq]
    generalize wr (wr m1 80 2 0) 266 (ix 0) (zI (ρ 2)) = M at q1 q2 q3 q4 q5 ⊢
    refine An.so ⟨q1 2 (by decide) (by decide) (by decide), 0, zI (ρ 2), Or.inl rfl, rfl, fun _ => q5, ?_⟩
    show An (d_192 249 M) _
    unfold d_192
    rw [q1 249 (by decide) (by decide) (by decide), b2, zbb]
    simp only [m183, obs, ift]
    rw [m_r1, m_r6]
    refine (m186 (a := 255) (b := 250) (by decide) n_255 n_250).bd (fun m3 h3 => ?_)
    rw [wbs, n_250, if_pos (by decide)]
    have f3 : ∀ a, a ≠ 249 → a ≠ 250 → wr m3 249 8 0 a = M a := fun a a1 a2 => by rw [wr_ne a1, h3.2 a a2, wr_ne a1]
    have e9 : ∀ k, k ≠ 0 → k ≠ 8 → wr m3 249 8 0 249 k = m 249 k := fun k k0 k8 => by rw [wr_nk k8, h3.2 249 (by decide), wr_nk k0, q1 249 (by decide) (by decide) (by decide)]
    have e0 : wr m3 249 8 0 249 0 = zI 0 := by rw [wr_nk (by decide), h3.2 249 (by decide), wr_eq]
    have e8 : wr m3 249 8 0 249 8 = zI ((0 : Nat) : Int) := by rw [wr_eq]; rfl
    have g3 : MR (wr m3 249 8 0) ρ := fun k hk => by
      rw [wr_ne (by decide), h3.1 k hk, wr_ne (by decide), q1 255 (by decide) (by decide) (by decide)]
      have := s1 k hk
      rw [Nat.zero_add] at this
      exact this
    generalize wr m3 249 8 0 = M2 at f3 e9 e0 e8 g3 ⊢
    have ff : ∀ a, a ≠ 80 → ¬ (23 ≤ a ∧ a ≤ 41) → a ≠ 266 → a ≠ 249 → a ≠ 250 → M2 a = m a := fun a a1 a2 a3 a4 a5 => by (try dsimp only); rw [f3 a a4 a5, q1 a a1 a2 a3]
    have ff' : ∀ a, a ≠ 80 ∧ ¬ (23 ≤ a ∧ a ≤ 41) ∧ a ≠ 266 ∧ a ≠ 249 ∧ a ≠ 250 → M2 a = m a := fun a h => ff a h.1 h.2.1 h.2.2.1 h.2.2.2.1 h.2.2.2.2
    refine An.so ⟨e0, fun _ => ?_, f3 266 (by decide) (by decide), i1.mm (ff' 0 (by decide)) (ff' 1 (by decide)), i2.mm (fun a a1 a2 => ff' a (by omega)), ⟨ρ, W', H', g3, s2.mono mo, q2.mm (fun a _ _ => f3 a (by omega) (by omega))⟩, ?_, ?_, ?_, ?_, ?_⟩
    · show M2 250 (ix 2) = zI (ρ 2)
      rw [show ix (2 : Int32) = 2 from by decide, g3 2 (by decide)]
    · exact iSav.mm (m := m) ⟨true, b1, b2, b3⟩ mo (by (try dsimp only); rw [ff' 20 (by decide)]) (e9 9 (by decide) (by decide)) (ff' 255 (by decide)) (fun a a1 a2 => ff' a (by omega))
    · exact ⟨0, x, by decide, x1, by (try dsimp only); rw [f3 80 (by decide) (by decide)]; exact q3, by (try dsimp only); rw [f3 80 (by decide) (by decide)]; exact q4, e8, fun j hj => absurd hj (Nat.not_lt_zero j)⟩
    · exact i6.mm (ff' 21 (by decide)) (e9 18 (by decide) (by decide)) (ff' 22 (by decide)) (ff' 264 (by decide))
    · exact i7.mm (ff' 21 (by decide)) (e9 25 (by decide) (by decide)) (e9 26 (by decide) (by decide))
    · exact i8.mm (by (try dsimp only); rw [ff' 20 (by decide)]) (e9 30 (by decide) (by decide)) (ff' 248 (by decide)) (ff' 265 (by decide))
theorem and7m : ∀ x : Nat, x < 8 → (zI (x : Nat) - 1) &&& 7 = zI (((x + 7) % 8 : Nat) : Int) := by decide +kernel
theorem P_40 (hn : n ≤ 512) (hI : Inv n m) : PR n m (d_344 20 266 m) (fun m1 => d_190 249 m1) := by
  have hI' := hI
  obtain ⟨i1, i2, -, i4, i5, i6, i7, i8⟩ := hI
  have mo : ((n : Nat) : Int) ≤ ((n + 1 : Nat) : Int) := by omega
  obtain ⟨c, x, c1, x1, e2, e1, e3, c6⟩ := i5
  by_cases q0 : c = 0
  · subst q0
    refine PR_of hI' (code := 1) (v := 0) (Or.inr (Or.inl rfl)) ?_ (fun m1 qe => ?_)
    · unfold d_344 d_165
      rw [k_r5, e2, if_neg (by decide), bE_r, if_pos rfl]
      exact lq_ex (c := 1) (by decide) (Qe.rf m)
    · unfold d_190 d_190_13
      rw [qe.2 8 (by decide), e3, if_pos (by decide)]
      simp only [m183, obs, ifn, Bool.false_eq_true]
      exact rq_t (code := 1) (fun e => by cases e)
  · obtain ⟨ρ, W', H', s1, s2, s3⟩ := c6 (c - 1) (by omega)
    rw [show (x + 8 - c + (c - 1)) % 8 = (x + 7) % 8 by omega] at s3
    have hk := s2.rok
    have y1 : (x + 7) % 8 < 8 := Nat.mod_lt _ (by decide)
    have ea : zI (((x + 7) % 8 : Nat) : Int) &&& 7 = zI (((x + 7) % 8 : Nat) : Int) := by
      have := zI_and7 ((x + 7) % 8)
      rw [Nat.mod_eq_of_lt y1] at this
      exact this
    unfold PR d_344 d_165
    rw [k_r5, k_r1, e2, if_pos (by rw [zl_0, zI_inj (by omega) (by omega) (by omega) (by omega)]; omega)]
    unfold d_66
    rw [e1, and7m x x1, wbs, wbs, wr_nk (show 2 ≠ 1 by decide), e2, wr_nk (show 1 ≠ 2 by decide), wr_eq, ea, h_r0, h_n, if_pos (in_k y1 (by decide)), z_ix (by omega), h_r _ y1]
    have s3' : GR (wr (wr m 80 1 (zI (((x + 7) % 8 : Nat) : Int))) 80 2 (zI (c : Nat) - 1)) (82 + 19 * ((x + 7) % 8)) ρ W' H' := s3.mm (fun a _ _ => by rw [wr_ne (by omega), wr_ne (by omega)])
    obtain ⟨m1, em, g1, f1⟩ := c49 (gA_h y1) gA_23 (by omega) hk.1 hk.2.1 hk.2.2 s3'
    rw [em]
    simp only [obs]
    have e82 : m1 80 2 = zI ((c - 1 : Nat) : Int) := by
      rw [f1 80 (by decide), wr_eq, zl_1, zI_sub]
      exact congrArg zI (by omega)
    rw [bE_l, if_pos (by decide), wbs, e82]
    have q1 : ∀ a, a ≠ 80 → ¬ (23 ≤ a ∧ a ≤ 41) → a ≠ 266 → wr m1 266 (ix 0) (zI ((c - 1 : Nat) : Int)) a = m a := fun a a1 a2 a3 => by rw [wr_ne a3, f1 a (by omega), wr_ne a1, wr_ne a1]
    have q2 : GR (wr m1 266 (ix 0) (zI ((c - 1 : Nat) : Int))) 23 ρ W' H' := g1.mm (fun a _ _ => wr_ne (by omega))
    have q3 : wr m1 266 (ix 0) (zI ((c - 1 : Nat) : Int)) 80 2 = zI ((c - 1 : Nat) : Int) := by rw [wr_ne (by decide)]; exact e82
    have q4 : wr m1 266 (ix 0) (zI ((c - 1 : Nat) : Int)) 80 1 = zI (((x + 7) % 8 : Nat) : Int) := by rw [wr_ne (by decide), f1 80 (by decide), wr_nk (by decide), wr_eq]
    have q5 : wr m1 266 (ix 0) (zI ((c - 1 : Nat) : Int)) 266 0 = zI ((c - 1 : Nat) : Int) := by rw [show ix (0 : Int32) = 0 from by decide, wr_eq]
    generalize wr m1 266 (ix 0) (zI ((c - 1 : Nat) : Int)) = M at q1 q2 q3 q4 q5 ⊢
    refine An.so ⟨q1 2 (by decide) (by decide) (by decide), 0, zI ((c - 1 : Nat) : Int), Or.inl rfl, rfl, fun _ => q5, ?_⟩
    show An (d_190 249 M) _
    unfold d_190 d_190_13
    rw [q1 249 (by decide) (by decide) (by decide), e3, if_neg (by rw [zl_0, zI_le (by omega) (by omega) (by omega) (by omega)]; omega)]
    simp only [m183, obs, ift]
    rw [wbs, wr_nk (show 8 ≠ 0 by decide), q1 249 (by decide) (by decide) (by decide), e3]
    have z8 : zI (c : Nat) - 1 = zI ((c - 1 : Nat) : Int) := by
      rw [zl_1, zI_sub]
      exact congrArg zI (by omega)
    rw [z8]
    have f2 : ∀ a, a ≠ 249 → wr (wr M 249 0 (zI 0)) 249 8 (zI ((c - 1 : Nat) : Int)) a = M a := fun a a1 => by rw [wr_ne a1, wr_ne a1]
    have f29 : ∀ k, k ≠ 0 → k ≠ 8 → wr (wr M 249 0 (zI 0)) 249 8 (zI ((c - 1 : Nat) : Int)) 249 k = m 249 k := fun k k0 k8 => by rw [wr_nk k8, wr_nk k0, q1 249 (by decide) (by decide) (by decide)]
    have f20 : wr (wr M 249 0 (zI 0)) 249 8 (zI ((c - 1 : Nat) : Int)) 249 0 = zI 0 := by rw [wr_nk (by decide), wr_eq]
    have f28 : wr (wr M 249 0 (zI 0)) 249 8 (zI ((c - 1 : Nat) : Int)) 249 8 = zI ((c - 1 : Nat) : Int) := wr_eq
    generalize wr (wr M 249 0 (zI 0)) 249 8 (zI ((c - 1 : Nat) : Int)) = M0 at f2 f29 f20 f28 ⊢
    have s1' : ∀ k, k < 584 → M0 256 (584 * (c - 1) + k) = zI (ρ k) := fun k hk => by rw [f2 256 (by decide), q1 256 (by decide) (by decide) (by decide)]; exact s1 k hk
    have lp : An (d_190_33 249 0 M0) (fun p => p.1 = zI ((c - 1 : Nat) : Int) ∧ MR p.2 ρ ∧ ∀ a, a ≠ 250 → p.2 a = M0 a) := by
      unfold d_190_33
      rw [zl_0]
      refine it_inv (fun j (u : Int32 × Mm) => u.1 = zI (j : Nat) ∧ (∀ k, k < j → u.2 250 k = zI (ρ k)) ∧ ∀ a, a ≠ 250 → u.2 a = M0 a) _ 584 ⟨rfl, fun k hk => absurd hk (Nat.not_lt_zero k), fun _ _ => rfl⟩ (fun j hj u hu => ?_) (fun u hu => ?_)
      · obtain ⟨z, M2⟩ := u
        obtain ⟨u1, u2, u3⟩ := hu
        dsimp only at u1 u2 u3
        subst u1
        show An (s_190_33 249 (zI (j : Nat)) M2) _
        unfold s_190_33
        rw [if_neg (by rw [show (584 : Int32) = zI 584 from rfl, zI_le (by omega) (by omega) (by omega) (by omega)]; omega), m_r1, m_r7, n_250, n_256, u3 249 (by decide), f28, show (584 : Int32) = zI 584 from rfl, zI_mul, zI_add, show (584 : Int) * ((c - 1 : Nat) : Int) + (j : Nat) = ((584 * (c - 1) + j : Nat) : Int) by omega, if_pos (in_k (by omega) (by decide)), if_pos (in_k hj (by decide)), z_ix (by omega), z_ix (by omega), u3 256 (by decide), s1' j hj]
        simp only [wbs]
        refine An.so ⟨by rw [zl_1, zI_add]; rfl, fun k hk => ?_, fun a ha => ?_⟩
        · dsimp only
          by_cases e : k = j
          · rw [e, wr_eq]
          · rw [wr_nk e]; exact u2 k (by omega)
        · dsimp only
          rw [wr_ne ha]; exact u3 a ha
      · obtain ⟨z, M2⟩ := u
        obtain ⟨u1, u2, u3⟩ := hu
        dsimp only at u1 u2 u3
        subst u1
        show An (s_190_33 249 (zI ((584 : Nat) : Int)) M2) _
        unfold s_190_33 d_190_67
        rw [if_pos (by decide)]
        refine An.mo (An.so ⟨?_, u2, u3⟩)
        show M2 249 8 = _
        rw [u3 249 (by decide)]; exact f28
    refine lp.mp (fun p hp => ?_)
    obtain ⟨p1, p2, p3⟩ := hp
    have ff' : ∀ a, a ≠ 80 ∧ ¬ (23 ≤ a ∧ a ≤ 41) ∧ a ≠ 266 ∧ a ≠ 249 ∧ a ≠ 250 → p.2 a = m a := fun a h => by rw [p3 a h.2.2.2.2, f2 a h.2.2.2.1, q1 a h.1 h.2.1 h.2.2.1]
    have e9 : ∀ k, k ≠ 0 → k ≠ 8 → p.2 249 k = m 249 k := fun k k0 k8 => by rw [p3 249 (by decide)]; exact f29 k k0 k8
    refine ⟨by rw [p3 249 (by decide)]; exact f20, fun _ => p1, by rw [p3 266 (by decide), f2 266 (by decide)], i1.mm (ff' 0 (by decide)) (ff' 1 (by decide)), i2.mm (fun a a1 a2 => ff' a (by omega)), ⟨ρ, W', H', p2, s2.mono mo, q2.mm (fun a _ _ => by rw [p3 a (by omega), f2 a (by omega)])⟩, ?_, ?_, ?_, ?_, ?_⟩
    · exact i4.mm mo (by (try dsimp only); rw [ff' 20 (by decide)]) (e9 9 (by decide) (by decide)) (ff' 255 (by decide)) (fun a a1 a2 => ff' a (by omega))
    · refine ⟨c - 1, (x + 7) % 8, by omega, y1, by rw [p3 80 (by decide), f2 80 (by decide)]; exact q3, by rw [p3 80 (by decide), f2 80 (by decide)]; exact q4, by rw [p3 249 (by decide)]; exact f28, fun j hj => ?_⟩
      obtain ⟨ρ', W2, H2, t1, t2, t3⟩ := c6 j (by omega)
      refine ⟨ρ', W2, H2, t1.mm (ff' 256 (by decide)), t2.mono mo, ?_⟩
      rw [show ((x + 7) % 8 + 8 - (c - 1) + j) % 8 = (x + 8 - c + j) % 8 by omega]
      exact t3.mm (fun a _ _ => ff' a (by omega))
    · exact i6.mm (ff' 21 (by decide)) (e9 18 (by decide) (by decide)) (ff' 22 (by decide)) (ff' 264 (by decide))
    · exact i7.mm (ff' 21 (by decide)) (e9 25 (by decide) (by decide)) (e9 26 (by decide) (by decide))
    · exact i8.mm (by (try dsimp only); rw [ff' 20 (by decide)]) (e9 30 (by decide) (by decide)) (ff' 248 (by decide)) (ff' 265 (by decide))
end HE
