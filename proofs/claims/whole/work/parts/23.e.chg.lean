/-! Calls that try a move: ifPlayed, delay. -/
section HF
variable {m m2 : Mm} {W H n : Nat} {r : Nat → Int}
/-- a call behind which the reference's row shows what it showed -/
theorem Inv.q2 (hI : Inv n m) (hG : iGam n m r W H) (q : ∀ a, core a → a ≠ 250 → m2 a = m a) (q9 : ∀ k, k ≠ 0 → m2 249 k = m 249 k) (g : MR m2 r) : Inv (n + 1) m2 := by
  obtain ⟨i1, i2, -, i4, i5, i6, i7, i8⟩ := hI
  have mo : ((n : Nat) : Int) ≤ ((n + 1 : Nat) : Int) := by omega
  have lo : ∀ a, a < 42 → m2 a = m a := fun a ha => q a (Or.inl ha) (by omega)
  have mid : ∀ a, 61 ≤ a → a < 234 → m2 a = m a := fun a ha hb => q a (Or.inr (Or.inl ⟨ha, hb⟩)) (by omega)
  have hi : ∀ a, (a = 248 ∨ a = 255 ∨ a = 256 ∨ a = 264 ∨ a = 265) → m2 a = m a := fun a ha => q a (by unfold core; omega) (by omega)
  exact ⟨i1.mm (lo 0 (by decide)) (lo 1 (by decide)), i2.mm (fun a _ _ => lo a (by omega)), ⟨r, W, H, g, hG.2.1.mono mo, hG.2.2.mm (fun a _ _ => lo a (by omega))⟩, i4.mm mo (by rw [lo 20 (by decide)]) (q9 9 (by decide)) (hi 255 (by decide)) (fun a a1 a2 => mid a (by omega) (by omega)), i5.mm mo (mid 80 (by decide) (by decide)) (q9 8 (by decide)) (hi 256 (by decide)) (fun a a1 a2 => mid a (by omega) (by omega)), i6.mm (lo 21 (by decide)) (q9 18 (by decide)) (lo 22 (by decide)) (hi 264 (by decide)), i7.mm (lo 21 (by decide)) (q9 25 (by decide)) (q9 26 (by decide)), i8.mm (by rw [lo 20 (by decide)]) (q9 30 (by decide)) (hi 248 (by decide)) (hi 265 (by decide))⟩
theorem PR_tr {qc : Option (Int32 × Mm)} {qm : Mm → Option (Int32 × Mm)} {v : Int32} (hI : Inv n m) (hG : iGam n m r W H) (h1 : LQ qc m 0 v) (h2 : ∀ M, Qe m M → An (qm M) (fun p => p.1 = v ∧ p.2 249 0 = 0 ∧ MR p.2 r ∧ ∀ a, a ≠ 249 → a ≠ 250 → a ≠ 252 → a ≠ 253 → a ≠ 262 → a ≠ 263 → p.2 a = M a) ∧ ∀ p, qm M = some p → ∀ k, k ≠ 0 → p.2 249 k = M 249 k) : PR n m qc qm := by
  refine h1.mp (fun r1 ⟨a1, a2, a3⟩ => ⟨a3.1 2 (Or.inl (by decide)), 0, v, Or.inl rfl, a1, a2, ?_⟩)
  obtain ⟨⟨p, ep, p1, p2, p3, p4⟩, h9⟩ := h2 r1.2 a3
  exact ⟨p, ep, p2, fun _ => p1, p4 266 (by decide) (by decide) (by decide) (by decide) (by decide) (by decide), hI.q2 hG (fun a ha h250 => by
    have ha' := ha
    unfold core at ha'
    rw [p4 a (by omega) h250 (by omega) (by omega) (by omega) (by omega)]
    exact a3.1 a ha) (fun k hk => (h9 p ep k hk).trans (a3.2 k hk)) p3⟩
/-- a move tried: what it comes to -/
noncomputable def trN (W H : Nat) (r : Nat → Int) (s q x y X Y : Nat) : Int := if mv W (fun c => r (24 + 64 * s + c)) s x y X Y = true then (pls W H s q x y X Y (r 7).toNat 1 r).1 else -2
noncomputable def trR (W H : Nat) (r : Nat → Int) (s q x y X Y : Nat) : Nat → Int := if mv W (fun c => r (24 + 64 * s + c)) s x y X Y = true then (pls W H s q x y X Y (r 7).toNat 1 r).2 else r
noncomputable def trV (W H : Nat) (r : Nat → Int) (s q x y X Y : Nat) (what : Int) : Int := if what = 0 then trN W H r s q x y X Y else if what = 1 then trR W H r s q x y X Y 2 - r 2 else if what = 2 then dif (W * H) (fun c => trR W H r s q x y X Y (24 + c)) (fun c => trR W H r s q x y X Y (88 + c)) else if trR W H r s q x y X Y 4 = 0 then 0 else 1
theorem trR_R (hn : n ≤ 512) (hM : MR m r) (hR : RG (n : Nat) r W H) {s q : Nat} (hs : s + q = 1) (h3 : r 3 = s) {x y X Y : Nat} (hx : x < W) (hy : y < H) (hX : X < W) (hY : Y < H) : RG (n + 1 : Nat) (trR W H r s q x y X Y) W H := by
  unfold trR
  by_cases qm : mv W (fun c => r (24 + 64 * s + c)) s x y X Y = true
  · obtain ⟨b1, b2, b3, b4, b5, b6⟩ := pl_b (n := n) hn hR hs
    rw [if_pos qm]
    exact (m263 b1 hs hx hy hX hY (mv_f qm).1 (r 7).toNat 1 m r hM b2 h3 (Nat.le_refl _) b3 b4 b5 b6).2.1
  · rw [if_neg qm]
    exact hR.mono (by omega)
theorem dif_r {N : Nat} {b b' : Nat → Int} (h : N ≤ 64) : 0 ≤ dif N b b' ∧ dif N b b' ≤ 64 := by
  have : ∀ k, 0 ≤ dif k b b' ∧ dif k b b' ≤ k := fun k => by
    induction k with
    | zero => exact ⟨Int.le_refl _, Int.le_refl _⟩
    | succ k ih =>
      unfold dif at *
      rw [fo_s]
      split <;> omega
  have := this N
  omega
theorem P_26 (hn : n ≤ 512) (hI : Inv n m) : ∀ (a1 a2 a3 a4 a5 : Int32), PR n m (d_332 20 a1 a2 a3 a4 a5 266 m) (fun m1 => d_268 249 a1 a2 a3 a4 a5 m1) := by
  intro x y X Y w
  obtain ⟨x, rfl, hx⟩ := zI_ex x
  obtain ⟨y, rfl, hy⟩ := zI_ex y
  obtain ⟨X, rfl, hX⟩ := zI_ex X
  obtain ⟨Y, rfl, hY⟩ := zI_ex Y
  obtain ⟨w, rfl, hw⟩ := zI_ex w
  obtain ⟨r, W, H, hG⟩ := hI.2.2.1
  have hW := iG_w hG
  obtain ⟨-, hrS, -⟩ := RG.iff.mp hG.2.1
  have h4 := hrS.2.2.1
  have h2 := hrS.1
  obtain ⟨s1, s2, s3⟩ := tS_f hG
  have hk := hG.2.1.rok
  have no : ∀ M, d_268_31 249 (zI x) (zI y) (zI X) (zI Y) (zI w) 249 false M = some (0, wr M 249 0 (zI 1)) := fun M => by
    unfold d_268_31
    simp only [m183, obs, ifn, Bool.false_eq_true]
  by_cases qi : inC W H x y ∧ inC W H X Y
  · have i1 := qi.1
    have i2 := qi.2
    have hb := (iG_b hG s1).1
    by_cases qw : 0 ≤ w ∧ w ≤ 3
    · have y1 : ∀ M, MR M r → d_268 249 (zI x) (zI y) (zI X) (zI Y) (zI w) M = d_268_31 249 (zI x) (zI y) (zI X) (zI Y) (zI w) 249 true M := fun M hM => by
        unfold d_268
        rw [m253i ⟨hM, hG.mw.2⟩ hx hy hX hY qi]
        simp only [obs, ift]
        rw [zl_0, zl_3, m185 hw.1 hw.2 (by decide) (by decide) (by decide) (by decide), decide_eq_true qw]
        simp only [obs, ift]
      by_cases q4 : r 4 = 0
      · have hRt := trR_R hn hG.1 hG.2.1 s3 s2 (x := x.toNat) (y := y.toNat) (X := X.toNat) (Y := Y.toNat) (by omega) (by omega) (by omega) (by omega)
        obtain ⟨hWt, hSt, hBt, -⟩ := RG.iff.mp hRt
        have h4t := hSt.2.2.1
        have h2t := hSt.1
        obtain ⟨b1, b2, b3, b4, b5, b6⟩ := pl_b (n := n) hn hG.2.1 s3
        refine PR_tr hI hG (v := zI (trV W H r (tS r) (1 - tS r) x.toNat y.toNat X.toNat Y.toNat w)) ?_ (fun M hQ => ?_)
        · unfold d_332 d_148
          rw [k179i hG.2.2 hW hx hy hX hY qi, bE_l, zl_0, zl_3, k177y hw.1 hw.2 (by decide) (by decide) (by decide) (by decide) qw, bE_l, k180 hG.2.2 h4, if_pos q4, bE_l, k_r1, k_r2, k_r6]
          obtain ⟨M0, e0, g0, f0⟩ := c49 gA_23 gA_42 (by decide) hk.1 hk.2.1 hk.2.2 hG.2.2
          rw [e0]
          simp only [obs]
          rw [c12 (by omega) (by omega), c12 (by omega) (by omega)]
          simp only [obs]
          have h60 : An (d_60 42 234 (zI ((x.toNat + 8 * y.toNat : Nat) : Int)) (zI ((X.toNat + 8 * Y.toNat : Nat) : Int)) M0) (fun p => p.1 = zI (trN W H r (tS r) (1 - tS r) x.toNat y.toNat X.toNat Y.toNat) ∧ GR p.2 42 (trR W H r (tS r) (1 - tS r) x.toNat y.toNat X.toNat Y.toNat) W H ∧ ∀ a, a < 42 ∨ (60 < a ∧ a < 234) ∨ 236 < a → p.2 a = M0 a) := by
            unfold d_60 trN trR
            rw [c56 gA_42 g0 hW s1 s2 hb (by omega) (by omega) (by omega) (by omega)]
            by_cases qm : mv W (fun c => r (24 + 64 * tS r + c)) (tS r : Nat) x.toNat y.toNat X.toNat Y.toNat = true
            · rw [qm]
              simp only [obs, ift]
              exact (c60 gA_42 (by decide) b1 s3 (x := x.toNat) (y := y.toNat) (X := X.toNat) (Y := Y.toNat) (by omega) (by omega) (by omega) (by omega) (r 7).toNat 1 M0 r g0 b2 s2 (Nat.le_refl _) b3 b4 b5 b6).mp (fun p hp => ⟨hp.1, hp.2.1, fun a ha => hp.2.2 a (by omega)⟩)
            · rw [Bool.eq_false_iff.mpr qm]
              simp only [obs, Bool.false_eq_true, ifn]
              refine An.so ⟨?_, g0, fun _ _ => rfl⟩
              show (-2 : Int32) = zI (-2)
              decide
          obtain ⟨p, ep, p1, p2, p3⟩ := h60
          rw [ep]
          simp only [obs]
          have qe : Qe m p.2 := ⟨fun a ha => by
            unfold core at ha
            rw [p3 a (by omega), f0 a (by omega)], fun k _ => by rw [p3 249 (by omega), f0 249 (by omega)]⟩
          have e235 : p.2 23 5 = zI (r 2) := by rw [p3 23 (by omega), f0 23 (by omega)]; exact (iG_t hG).1
          have : w = 0 ∨ w = 1 ∨ w = 2 ∨ w = 3 := by omega
          rcases this with rfl | rfl | rfl | rfl
          · rw [if_pos (show zI 0 = zI 0 from rfl), bE_l, p1]
            exact lq_ok qe
          · rw [if_neg (by decide), if_pos (show zI 1 = 1 from rfl), bE_l, p2.2.2.2.2.2.1, e235, zI_sub]
            exact lq_ok qe
          · rw [if_neg (by decide), if_neg (by decide), if_pos (show zI 2 = 2 from rfl)]
            have d54 : d_54 42 p.2 = some (zI (dif (W * H) (fun c => trR W H r (tS r) (1 - tS r) x.toNat y.toNat X.toNat Y.toNat (24 + c)) (fun c => trR W H r (tS r) (1 - tS r) x.toNat y.toNat X.toNat Y.toNat (88 + c)))) := by
              have F := gA_F gA_42
              unfold d_54
              rw [F.1, F.2.1, F.2.2.2.2.2.1.1, F.2.2.2.2.2.2.1.1, c35 F.2.2.2.2.2.1.2.2.1 p2.1.1 F.2.2.2.2.2.2.1.2.2.1 p2.2.1.1 hW (hBt 0 (by decide)).2.2.2.1.1 (hBt 1 (by decide)).2.2.2.1.1]
              rfl
            rw [d54]
            simp only [obs]
            rw [bE_l]
            exact lq_ok qe
          · rw [if_neg (by decide), if_neg (by decide), if_neg (by decide), p2.2.2.2.2.2.2.2.1]
            have ev : trV W H r (tS r) (1 - tS r) x.toNat y.toNat X.toNat Y.toNat 3 = if trR W H r (tS r) (1 - tS r) x.toNat y.toNat X.toNat Y.toNat 4 = 0 then 0 else 1 := rfl
            rw [ev]
            by_cases qo : trR W H r (tS r) (1 - tS r) x.toNat y.toNat X.toNat Y.toNat 4 = 0
            · rw [if_neg (by rw [qo]; exact fun e => e rfl), bE_l, if_pos qo]
              exact lq_ok qe
            · rw [if_pos (by rw [zI_inj (by omega) (by omega) (by omega) (by omega)]; exact qo), bE_l, if_neg qo]
              exact lq_ok qe
        · have hG1 := hG.q hQ
          have hM := hG1.1
          rw [y1 M hM]
          have ref : An (d_268_31 249 (zI x) (zI y) (zI X) (zI Y) (zI w) 249 true M) (fun p => (p.1 = zI (trV W H r (tS r) (1 - tS r) x.toNat y.toNat X.toNat Y.toNat w) ∧ p.2 249 0 = 0 ∧ MR p.2 r ∧ ∀ a, a ≠ 249 → a ≠ 250 → a ≠ 252 → a ≠ 253 → a ≠ 262 → a ≠ 263 → p.2 a = M a) ∧ ∀ k, k ≠ 0 → p.2 249 k = M 249 k) := by
            unfold d_268_31
            simp only [m183, obs, ift]
            rw [m264 hM.told h4, decide_eq_true q4]
            simp only [obs, m184, ift, wr_wr]
            rw [m_r1, m_r3]
            refine (m186 (a := 250) (b := 252) (by decide) n_250 n_252).bd (fun M5 h5 => ?_)
            have g5 : MR M5 r := hM.told.mm (h5.2 250 (by decide))
            have g252 : ∀ k, k < 584 → M5 252 k = zI (r k) := fun k hk => by rw [h5.1 k hk]; exact hM.told k hk
            have hMW5 : MW M5 r W H := ⟨g5, hG.mw.2⟩
            rw [m214n hMW5 i1.1 i1.2.2.1, m214n hMW5 i2.1 i2.2.2.1]
            simp only [obs]
            rw [m265 hMW5 s1 s2 hb (by omega) (by omega) (by omega) (by omega)]
            simp only [obs]
            have d267 : ∀ (M6 : Mm) (z : Int32), (∀ a, a ≠ 250 → a ≠ 253 → a ≠ 262 → a ≠ 263 → M6 a = M5 a) → An (d_267 249 z M6) (fun p => p.1 = z ∧ MR p.2 r ∧ ∀ a, a ≠ 250 → p.2 a = M6 a) := fun M6 z f6 => by
              unfold d_267
              rw [m_r1, m_r3]
              refine (m186 (a := 252) (b := 250) (by decide) n_252 n_250).bd (fun M7 h7 => ?_)
              exact An.so ⟨rfl, fun k hk => by dsimp only; rw [h7.1 k hk, f6 252 (by decide) (by decide) (by decide) (by decide)]; exact g252 k hk, h7.2⟩
            have tail : ∀ (M6 : Mm), MR M6 (trR W H r (tS r) (1 - tS r) x.toNat y.toNat X.toNat Y.toNat) → (∀ a, a ≠ 250 → a ≠ 253 → a ≠ 262 → a ≠ 263 → M6 a = M5 a) → An (d_268_103 249 (zI w) (zI (trN W H r (tS r) (1 - tS r) x.toNat y.toNat X.toNat Y.toNat)) M6) (fun p => (p.1 = zI (trV W H r (tS r) (1 - tS r) x.toNat y.toNat X.toNat Y.toNat w) ∧ p.2 249 0 = 0 ∧ MR p.2 r ∧ ∀ a, a ≠ 249 → a ≠ 250 → a ≠ 252 → a ≠ 253 → a ≠ 262 → a ≠ 263 → p.2 a = M a) ∧ ∀ k, k ≠ 0 → p.2 249 k = M 249 k) := by
              intro M6 g6 f6
              have fin : ∀ z : Int32, z = zI (trV W H r (tS r) (1 - tS r) x.toNat y.toNat X.toNat Y.toNat w) → ∀ p : Int32 × Mm, (p.1 = z ∧ MR p.2 r ∧ ∀ a, a ≠ 250 → p.2 a = M6 a) → (p.1 = zI (trV W H r (tS r) (1 - tS r) x.toNat y.toNat X.toNat Y.toNat w) ∧ p.2 249 0 = 0 ∧ MR p.2 r ∧ ∀ a, a ≠ 249 → a ≠ 250 → a ≠ 252 → a ≠ 253 → a ≠ 262 → a ≠ 263 → p.2 a = M a) ∧ ∀ k, k ≠ 0 → p.2 249 k = M 249 k := fun z hz p hp => by
                obtain ⟨p1, p2, p3⟩ := hp
                have e249 : p.2 249 = wr M 249 0 (zI 0) 249 := by rw [p3 249 (by decide), f6 249 (by decide) (by decide) (by decide) (by decide), h5.2 249 (by decide)]
                refine ⟨⟨by rw [p1, hz], by rw [e249, wr_eq]; rfl, p2, fun a a1 a2 a3 a4 a5 a6 => ?_⟩, fun k hk => by rw [e249, wr_nk hk]⟩
                rw [p3 a a2, f6 a a2 a4 a5 a6, h5.2 a a3, wr_ne a1]
              have hMW6 : MW M6 (trR W H r (tS r) (1 - tS r) x.toNat y.toNat X.toNat Y.toNat) W H := ⟨g6, hWt.1, hWt.2.1, hW⟩
              unfold d_268_103 d_268_167
              have : w = 0 ∨ w = 1 ∨ w = 2 ∨ w = 3 := by omega
              rcases this with rfl | rfl | rfl | rfl
              · rw [if_neg (fun e => e (show zI 0 = 0 from rfl))]
                exact (d267 M6 _ f6).bd (fun p hp => An.so (fin _ rfl p hp))
              · rw [if_pos (by decide), if_neg (fun e => e (show zI 1 = 1 from rfl)), z2n]
                refine i_r (by decide) ?_
                rw [m_r3, n_252, if_pos (by decide), mr_k (by decide) g6, show ix (zI ((2 : Nat) : Int)) = 2 from by decide, f6 252 (by decide) (by decide) (by decide) (by decide), g252 2 (by decide), zI_sub]
                exact (d267 M6 _ f6).bd (fun p hp => An.so (fin _ rfl p hp))
              · rw [if_pos (by decide), if_pos (by decide), if_neg (fun e => e (show zI 2 = 2 from rfl)), m227 hMW6 (hBt 0 (by decide)).2.2.2.1.1 (hBt 1 (by decide)).2.2.2.1.1]
                simp only [obs]
                exact (d267 M6 _ f6).bd (fun p hp => An.so (fin _ rfl p hp))
              · rw [if_pos (by decide), if_pos (by decide), if_pos (by decide), m264 g6 h4t]
                simp only [obs]
                have ev : trV W H r (tS r) (1 - tS r) x.toNat y.toNat X.toNat Y.toNat 3 = if trR W H r (tS r) (1 - tS r) x.toNat y.toNat X.toNat Y.toNat 4 = 0 then 0 else 1 := rfl
                by_cases qo : trR W H r (tS r) (1 - tS r) x.toNat y.toNat X.toNat Y.toNat 4 = 0
                · rw [decide_eq_true qo, if_pos rfl]
                  exact (d267 M6 _ f6).bd (fun p hp => An.so (fin _ (by rw [ev, if_pos qo]; rfl) p hp))
                · rw [decide_eq_false qo, if_neg (by decide)]
                  exact (d267 M6 _ f6).bd (fun p hp => An.so (fin _ (by rw [ev, if_neg qo]; rfl) p hp))
            by_cases qm : mv W (fun c => r (24 + 64 * tS r + c)) (tS r : Nat) x.toNat y.toNat X.toNat Y.toNat = true
            · rw [if_pos qm]
              obtain ⟨hp, -⟩ := m263 b1 s3 (x := x.toNat) (y := y.toNat) (X := X.toNat) (Y := Y.toNat) (by omega) (by omega) (by omega) (by omega) (mv_f qm).1 (r 7).toNat 1 M5 r g5 b2 s2 (Nat.le_refl _) b3 b4 b5 b6
              unfold d_263
              refine hp.bd (fun p hp => ?_)
              obtain ⟨p1, p2, p3⟩ := hp
              have en : trN W H r (tS r) (1 - tS r) x.toNat y.toNat X.toNat Y.toNat = (pls W H (tS r) (1 - tS r) x.toNat y.toNat X.toNat Y.toNat (r 7).toNat 1 r).1 := if_pos qm
              have er : trR W H r (tS r) (1 - tS r) x.toNat y.toNat X.toNat Y.toNat = (pls W H (tS r) (1 - tS r) x.toNat y.toNat X.toNat Y.toNat (r 7).toNat 1 r).2 := if_pos qm
              rw [p1, ← en]
              exact tail p.2 (by rw [er]; exact p2) p3
            · rw [if_neg qm]
              have en : trN W H r (tS r) (1 - tS r) x.toNat y.toNat X.toNat Y.toNat = -2 := if_neg qm
              have er : trR W H r (tS r) (1 - tS r) x.toNat y.toNat X.toNat Y.toNat = r := if_neg qm
              rw [show (-2 : Int32) = zI (-2) from by decide, ← en]
              exact tail M5 (by rw [er]; exact g5) (fun _ _ _ _ _ => rfl)
          obtain ⟨p, ep, hp1, hp2⟩ := ref
          exact ⟨⟨p, ep, hp1⟩, fun p' ep' => by rw [ep] at ep'; injection ep' with ep'; rw [← ep']; exact hp2⟩
      · refine PR_of hI (code := 2) (v := 0) (Or.inr (Or.inr (Or.inl rfl))) ?_ (fun m1 qe => ?_)
        · unfold d_332 d_148
          rw [k179i hG.2.2 hW hx hy hX hY qi, bE_l, zl_0, zl_3, k177y hw.1 hw.2 (by decide) (by decide) (by decide) (by decide) qw, bE_l, k180 hG.2.2 h4, if_neg q4, bE_r, bE_r, if_neg (by decide), if_pos rfl]
          exact lq_ex (c := 2) (by decide) (Qe.rf m)
        · have hG1 := hG.q qe
          rw [y1 m1 hG1.1]
          unfold d_268_31
          simp only [m183, obs, ift]
          rw [m264 hG1.1.told h4, decide_eq_false q4]
          simp only [obs, m184, ifn, wr_wr, Bool.false_eq_true]
          exact rq_t (code := 2) (fun e => by cases e)
    · refine PR_of hI (code := 1) (v := 0) (Or.inr (Or.inl rfl)) ?_ (fun m1 qe => ?_)
      · unfold d_332 d_148
        rw [k179i hG.2.2 hW hx hy hX hY qi, bE_l, zl_0, zl_3, k177n hw.1 hw.2 (by decide) (by decide) (by decide) (by decide) qw, bE_r, bE_r, if_pos rfl]
        exact lq_ex (c := 1) (by decide) (Qe.rf m)
      · have hG1 := hG.q qe
        unfold d_268
        rw [m253i hG1.mw hx hy hX hY qi]
        simp only [obs, ift]
        rw [zl_0, zl_3, m185 hw.1 hw.2 (by decide) (by decide) (by decide) (by decide), decide_eq_false qw]
        simp only [obs, ifn, Bool.false_eq_true, no]
        exact rq_t (code := 1) (fun e => by cases e)
  · refine PR_of hI (code := 1) (v := 0) (Or.inr (Or.inl rfl)) ?_ (fun m1 qe => ?_)
    · unfold d_332 d_148
      rw [k179o hG.2.2 hW hx hy hX hY qi, bE_r, bE_r, if_pos rfl]
      exact lq_ex (c := 1) (by decide) (Qe.rf m)
    · have hG1 := hG.q qe
      unfold d_268
      rw [m253o hG1.mw hx hy hX hY qi]
      simp only [obs, ifn, Bool.false_eq_true, no]
      exact rq_t (code := 1) (fun e => by cases e)
end HF
