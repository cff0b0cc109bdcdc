/-! Calls, one by one: what a message would be, on. -/
section CG
variable {m : Mm} {r : Nat → Int} {W H n : Nat}
/-- the reference's groups laid and looked at -/
theorem m246i {k : Nat} (hk : k ≤ 513) (hG : iGam k m r W H) {x y X Y : Nat} (hx : x < W) (hy : y < H) (hX : X < W) (hY : Y < H) {t : Int} (t1 : 0 ≤ t) (t2 : t ≤ 9000000) (hg : ∀ k, k < 6 → m 262 k = zI (fG r (tS r) x y X Y k : Nat)) :
    An (d_246 249 (zI t) m) (fun q => q.1 = zI (fo (fun i v => v + fl r (tS r) x y X Y t i) 6 0 : Nat) ∧ (∀ k, k < 6 → q.2 263 k = zI (fl r (tS r) x y X Y t k : Nat)) ∧ ∀ a, a ≠ 263 → q.2 a = m a) := by
  obtain ⟨f1, f2, f3⟩ := iG_F hG
  obtain ⟨w1, w2, w3, w4⟩ := iG_w hG
  have h5 := hG.2.1.2.2.2.2.1
  exact m246 hG.1 f3 f2 hg (fun k _ => fG_le (by omega) (by omega) (by omega) (by omega) k) t1 t2 (p := (r 5).toNat) (by omega) (by omega)
theorem fl_le {s x y X Y : Nat} (hx : x < 8) (hy : y < 8) (hX : X < 8) (hY : Y < 8) {t : Int} (k : Nat) : fl r s x y X Y t k ≤ 9 :=
  Nat.le_trans see_le (fG_le hx hy hX hY k)
theorem P_23 (hn : n ≤ 512) (hI : Inv n m) : ∀ (a1 a2 a3 a4 a5 : Int32), PR n m (d_329 20 a1 a2 a3 a4 a5 266 m) (fun m1 => d_255 249 a1 a2 a3 a4 a5 m1) := by
  intro x y X Y g
  obtain ⟨x, rfl, hx⟩ := zI_ex x
  obtain ⟨y, rfl, hy⟩ := zI_ex y
  obtain ⟨X, rfl, hX⟩ := zI_ex X
  obtain ⟨Y, rfl, hY⟩ := zI_ex Y
  obtain ⟨g, rfl, hg⟩ := zI_ex g
  obtain ⟨r, W, H, hG⟩ := hI.2.2.1
  have hW := iG_w hG
  obtain ⟨w1, w2, w3, w4⟩ := hW
  obtain ⟨t1, t2, t3⟩ := iG_t hG
  by_cases qg : 0 ≤ g ∧ g < 6
  · by_cases qi : inC W H x y ∧ inC W H X Y
    · have i1 := qi.1
      have i2 := qi.2
      refine PR_of hI (code := 0) (v := zI (fl r (tS r) x.toNat y.toNat X.toNat Y.toNat (r 2) g.toNat : Nat)) (Or.inl rfl) ?_ (fun m1 qe => ?_)
      · unfold d_329 d_144
        rw [zl_6, k176y hg.1 hg.2 (by decide) (by decide) qg, bE_l]
        obtain ⟨q', e, h1, h2, h3⟩ := k147i (k := n) (by omega) hG hx hy hX hY qi
        obtain ⟨u, m2⟩ := q'
        dsimp only at h1 h2 h3
        subst h1
        rw [e, bE_l, k_r6]
        have e85 : d_85 234 (zI g) m2 = some (zI (fl r (tS r) x.toNat y.toNat X.toNat Y.toNat (r 2) g.toNat : Nat)) := by
          unfold d_85
          rw [s_r1, s_n6, if_neg (by rw [zl_0, zI_lt hg.1 hg.2 (by decide) (by decide)]; omega), if_neg (by rw [zl_6, zI_le (by decide) (by decide) hg.1 hg.2]; omega), if_pos (zI_in_t qg.1 (by omega) (by omega)), show ix (zI g) = g.toNat from zI_ix hg.1 hg.2, h2.2.2.2.2.2.2.2 _ (by omega)]
        rw [e85]
        simp only [obs]
        rw [bE_l]
        exact lq_ok h3
      · have hG1 := hG.q qe
        unfold d_255 d_252
        rw [zl_0, zl_5, m185 hg.1 hg.2 (by decide) (by decide) (by decide) (by decide), decide_eq_true (by omega)]
        simp only [obs, m183, ift]
        rw [m253i hG1.mw.told hx hy hX hY qi]
        simp only [obs, m184, ift, wr_wr]
        rw [m214n hG1.mw.told (by omega) (by omega), m214n hG1.mw.told (by omega) (by omega)]
        simp only [obs]
        refine An.bd (m243i (k := n) (by omega) (hG1.q Qe.told) (x := x.toNat) (y := y.toNat) (X := X.toNat) (Y := Y.toNat) (by omega) (by omega) (by omega) (by omega)) (fun m7 h7 => ?_)
        have q7 : Qe m1 m7 := Qe.told.tr (Qe.of (fun a ha => h7.2 a (by unfold core at ha; omega)))
        have hG7 := hG1.q q7
        rw [m_r1, n_250, if_pos (by decide), show ix (2 : Int32) = 2 from by decide, hG7.1 2 (by decide)]
        refine An.bd (m246i (k := n) (by omega) hG7 (x := x.toNat) (y := y.toNat) (X := X.toNat) (Y := Y.toNat) (by omega) (by omega) (by omega) (by omega) t2 (by omega) h7.1) (fun q8 h8 => ?_)
        obtain ⟨-, h81, h82⟩ := h8
        rw [m_r16, n_263, if_pos (zI_in_t qg.1 (by omega) (by omega)), show ix (zI g) = g.toNat from zI_ix hg.1 hg.2, h81 _ (by omega)]
        refine rq_ok ?_ (fun _ => rfl) (q7.tr (Qe.of (fun a ha => h82 a (by unfold core at ha; omega)))) ?_
        · rw [h82 249 (by decide), h7.2 249 (by decide), wr_eq]
        · rw [h82 266 (by decide), h7.2 266 (by decide), wr_ne (by decide)]
    · refine PR_of hI (code := 2) (v := 0) (Or.inr (Or.inr (Or.inl rfl))) ?_ (fun m1 qe => ?_)
      · unfold d_329 d_144
        rw [zl_6, k176y hg.1 hg.2 (by decide) (by decide) qg, bE_l, k147o hG hx hy hX hY qi, bE_r, bE_r, if_neg (by decide), if_pos rfl]
        exact lq_ex (c := 2) (by decide) (Qe.rf m)
      · have hG1 := hG.q qe
        unfold d_255 d_252
        rw [zl_0, zl_5, m185 hg.1 hg.2 (by decide) (by decide) (by decide) (by decide), decide_eq_true (by omega)]
        simp only [obs, m183, ift]
        rw [m253o hG1.mw.told hx hy hX hY qi]
        simp only [obs, m184, ifn, wr_wr, Bool.false_eq_true]
        exact rq_t (code := 2) (fun e => by cases e)
  · refine PR_of hI (code := 1) (v := 0) (Or.inr (Or.inl rfl)) ?_ (fun m1 qe => ?_)
    · unfold d_329 d_144
      rw [zl_6, k176n hg.1 hg.2 (by decide) (by decide) qg, bE_r, bE_r, if_pos rfl]
      exact lq_ex (c := 1) (by decide) (Qe.rf m)
    · unfold d_255 d_252
      rw [zl_0, zl_5, m185 hg.1 hg.2 (by decide) (by decide) (by decide) (by decide), decide_eq_false (by omega)]
      simp only [obs, m183, ifn, Bool.false_eq_true]
      exact rq_t (code := 1) (fun e => by cases e)
theorem gs_6 (G : Nat → Nat) (p : Nat) : gs G p 6 = fo (fun i v => v + G i) 6 0 + 6 * p := by
  simp only [gs, fo]
  omega
theorem P_24 (hn : n ≤ 512) (hI : Inv n m) : ∀ (a1 a2 a3 a4 : Int32), PR n m (d_330 20 a1 a2 a3 a4 266 m) (fun m1 => d_256 249 a1 a2 a3 a4 m1) := by
  intro x y X Y
  obtain ⟨x, rfl, hx⟩ := zI_ex x
  obtain ⟨y, rfl, hy⟩ := zI_ex y
  obtain ⟨X, rfl, hX⟩ := zI_ex X
  obtain ⟨Y, rfl, hY⟩ := zI_ex Y
  obtain ⟨r, W, H, hG⟩ := hI.2.2.1
  have hW := iG_w hG
  obtain ⟨w1, w2, w3, w4⟩ := hW
  have h5 := hG.2.1.2.2.2.2.1
  by_cases qi : inC W H x y ∧ inC W H X Y
  · have i1 := qi.1
    have i2 := qi.2
    refine PR_of hI (code := 0) (v := zI (flen r (tS r) x.toNat y.toNat X.toNat Y.toNat : Nat)) (Or.inl rfl) ?_ (fun m1 qe => ?_)
    · unfold d_330 d_145
      obtain ⟨q', e, h1, h2, h3⟩ := k147i (k := n) (by omega) hG hx hy hX hY qi
      obtain ⟨u, m2⟩ := q'
      dsimp only at h1 h2 h3
      subst h1
      rw [e, bE_l, bE_l, k_r6, h2.1]
      exact lq_ok h3
    · have hG1 := hG.q qe
      unfold d_256
      rw [m253i hG1.mw hx hy hX hY qi]
      simp only [obs, m183, ift]
      rw [m214n hG1.mw.told (by omega) (by omega), m214n hG1.mw.told (by omega) (by omega)]
      simp only [obs]
      refine An.bd (m243i (k := n) (by omega) (hG1.q Qe.told) (x := x.toNat) (y := y.toNat) (X := X.toNat) (Y := Y.toNat) (by omega) (by omega) (by omega) (by omega)) (fun m7 h7 => ?_)
      have q7 : Qe m1 m7 := Qe.told.tr (Qe.of (fun a ha => h7.2 a (by unfold core at ha; omega)))
      have hG7 := hG1.q q7
      have e245 : d_245 249 m7 = some (zI (flen r (tS r) x.toNat y.toNat X.toNat Y.toNat : Nat)) := by
        unfold d_245
        rw [m244 h7.1]
        simp only [obs]
        rw [m_r1, n_250, if_pos (by decide), show ix (5 : Int32) = 5 from by decide, hG7.1 5 (by decide), zl_6, zI_mul, zI_add]
        unfold flen
        rw [gs_6]
        exact congrArg some (congrArg zI (by omega))
      rw [e245]
      simp only [obs]
      refine An.so ⟨?_, fun _ => rfl, q7, ?_⟩
      · show m7 249 0 = _
        rw [h7.2 249 (by decide), wr_eq]
      · show m7 266 = _
        rw [h7.2 266 (by decide), wr_ne (by decide)]
  · refine PR_of hI (code := 1) (v := 0) (Or.inr (Or.inl rfl)) ?_ (fun m1 qe => ?_)
    · unfold d_330 d_145
      rw [k147o hG hx hy hX hY qi, bE_r, bE_r, if_pos rfl]
      exact lq_ex (c := 1) (by decide) (Qe.rf m)
    · have hG1 := hG.q qe
      unfold d_256
      rw [m253o hG1.mw hx hy hX hY qi]
      simp only [obs, m183, ifn, Bool.false_eq_true]
      exact rq_t (code := 1) (fun e => by cases e)
theorem P_25 (hn : n ≤ 512) (hI : Inv n m) : ∀ (a1 a2 a3 a4 : Int32), PR n m (d_331 20 a1 a2 a3 a4 266 m) (fun m1 => d_257 249 a1 a2 a3 a4 m1) := by
  intro x y X Y
  obtain ⟨x, rfl, hx⟩ := zI_ex x
  obtain ⟨y, rfl, hy⟩ := zI_ex y
  obtain ⟨X, rfl, hX⟩ := zI_ex X
  obtain ⟨Y, rfl, hY⟩ := zI_ex Y
  obtain ⟨r, W, H, hG⟩ := hI.2.2.1
  have hW := iG_w hG
  obtain ⟨w1, w2, w3, w4⟩ := hW
  obtain ⟨t1, t2, t3⟩ := iG_t hG
  obtain ⟨s1, s2, s3⟩ := tS_f hG
  by_cases qi : inC W H x y ∧ inC W H X Y
  · have i1 := qi.1
    have i2 := qi.2
    refine PR_of hI (code := 0) (v := zI (frd W H r (tS r) (1 - tS r) x.toNat y.toNat X.toNat Y.toNat (r 2))) (Or.inl rfl) ?_ (fun m1 qe => ?_)
    · unfold d_331 d_146
      obtain ⟨q', e, h1, h2, h3⟩ := k147i (k := n) (by omega) hG hx hy hX hY qi
      obtain ⟨u, m2⟩ := q'
      dsimp only at h1 h2 h3
      subst h1
      rw [e, bE_l, bE_l, k_r6, h2.2.1]
      exact lq_ok h3
    · have hG1 := hG.q qe
      unfold d_257
      rw [m253i hG1.mw hx hy hX hY qi]
      simp only [obs, m183, ift]
      rw [m214n hG1.mw.told (by omega) (by omega), m214n hG1.mw.told (by omega) (by omega)]
      simp only [obs]
      refine An.bd (m243i (k := n) (by omega) (hG1.q Qe.told) (x := x.toNat) (y := y.toNat) (X := X.toNat) (Y := Y.toNat) (by omega) (by omega) (by omega) (by omega)) (fun m7 h7 => ?_)
      have q7 : Qe m1 m7 := Qe.told.tr (Qe.of (fun a ha => h7.2 a (by unfold core at ha; omega)))
      have hG7 := hG1.q q7
      rw [m_r1, n_250, if_pos (by decide), show ix (2 : Int32) = 2 from by decide, hG7.1 2 (by decide)]
      refine An.bd (m246i (k := n) (by omega) hG7 (x := x.toNat) (y := y.toNat) (X := X.toNat) (Y := Y.toNat) (by omega) (by omega) (by omega) (by omega) t2 (by omega) h7.1) (fun q8 h8 => ?_)
      obtain ⟨-, h81, h82⟩ := h8
      have q8' : Qe m1 q8.2 := q7.tr (Qe.of (fun a ha => h82 a (by unfold core at ha; omega)))
      have hG8 := hG1.q q8'
      rw [m250 hG8.mw (k := n) (by omega) hG8.2.1 s3 s2 h81 (fun k _ => Nat.le_trans (fl_le (by omega) (by omega) (by omega) (by omega) k) (by decide))]
      simp only [obs]
      refine An.so ⟨?_, fun _ => rfl, q8', ?_⟩
      · show q8.2 249 0 = _
        rw [h82 249 (by decide), h7.2 249 (by decide), wr_eq]
      · show q8.2 266 = _
        rw [h82 266 (by decide), h7.2 266 (by decide), wr_ne (by decide)]
  · refine PR_of hI (code := 1) (v := 0) (Or.inr (Or.inl rfl)) ?_ (fun m1 qe => ?_)
    · unfold d_331 d_146
      rw [k147o hG hx hy hX hY qi, bE_r, bE_r, if_pos rfl]
      exact lq_ex (c := 1) (by decide) (Qe.rf m)
    · have hG1 := hG.q qe
      unfold d_257
      rw [m253o hG1.mw hx hy hX hY qi]
      simp only [obs, m183, ifn, Bool.false_eq_true]
      exact rq_t (code := 1) (fun e => by cases e)
end CG
