/-! Calls that change the game. -/
section HB
variable {m : Mm} {W H n : Nat} {r : Nat → Int}
theorem k180 (h : GR m 23 r W H) (h4 : 0 ≤ r 4 ∧ r 4 ≤ 2) : d_180 20 m = if r 4 = 0 then some (.inl (), m) else some (.inr 2, m) := by
  unfold d_180
  rw [k_r1, h.2.2.2.2.2.2.2.1]
  by_cases q : r 4 = 0
  · rw [if_pos q, if_pos (by rw [q]; rfl)]
  · rw [if_neg q, if_neg (by rw [zl_0, zI_inj (by omega) (by omega) (by omega) (by omega)]; exact q)]
theorem m264 (h : MR m r) (h4 : 0 ≤ r 4 ∧ r 4 ≤ 2) : d_264 249 m = some (decide (r 4 = 0)) := by
  unfold d_264
  rw [z4n, if_pos (in_r (by decide)), mr_k (by decide) h]
  by_cases q : r 4 = 0
  · rw [if_neg (by rw [q]; exact fun e => e rfl), decide_eq_true q]
  · rw [if_pos (by rw [zl_0, zI_inj (by omega) (by omega) (by omega) (by omega)]; exact q), decide_eq_false q]
theorem m265 (h : MW m r W H) {s : Nat} (hs : s ≤ 1) (h3 : r 3 = s) (hb : BD W H (fun c => r (24 + 64 * s + c))) {x y X Y : Nat} (hx : x < W) (hy : y < H) (hX : X < W) (hY : Y < H) : d_265 249 (zI ((x + W * y : Nat) : Int)) (zI ((X + W * Y : Nat) : Int)) m = some (mv W (fun c => r (24 + 64 * s + c)) s x y X Y) := by
  unfold d_265
  rw [z3n, if_pos (in_r (by decide)), mr_k (by decide) h.1, h3, m194, t24]
  simp only [obs]
  rw [if_pos (in_r (by decide)), m203 h (by omega) hb (by omega) (by omega) hx hy hX hY]
  rfl
theorem c56 {g : Nat} (hg : gA g) (h : GR m g r W H) (hw : WH W H) {s : Nat} (hs : s ≤ 1) (h3 : r 3 = s) (hb : BD W H (fun c => r (24 + 64 * s + c))) {x y X Y : Nat} (hx : x < W) (hy : y < H) (hX : X < W) (hY : Y < H) : d_56 g (zI ((x + 8 * y : Nat) : Int)) (zI ((X + 8 * Y : Nat) : Int)) m = some (mv W (fun c => r (24 + 64 * s + c)) s x y X Y) := by
  have hw' := hw
  obtain ⟨w1, w2, w3, w4⟩ := hw'
  have ba := gA_b hg hs
  have e6 : m g 6 = zI (s : Nat) := by rw [h.2.2.2.2.2.2.1, h3]
  have al : alw W H (fun c => r (24 + 64 * s + c)) (s : Nat) x y X Y = mv W (fun c => r (24 + 64 * s + c)) s x y X Y := by unfold alw; rw [decide_eq_true ⟨hx, hy, hX, hY⟩, Bool.true_and]
  unfold d_56
  rw [e6, c51 hg hs]
  simp only [obs]
  rw [ba.1, c21 ba.2.2.1 (h.bd hs).1 hw hb (by omega) (by omega) (by omega) (by omega) (by omega) (by omega), al]
  rfl
/-- what was so when a call began is kept by the class -/
theorem c65i (hI : Inv n m) {N : Int} (hG : iGam N m r W H) : An (d_65 80 23 m) (fun M => GR M 23 r W H ∧ Hc m M r W H ∧ ∀ a, a ≠ 80 → ¬ (82 ≤ a ∧ a < 234) → M a = m a) := by
  obtain ⟨c, x, c1, x1, e2, e1, -, -⟩ := hI.2.2.2.2.1
  exact (c65 hG.2.1.rok hG.2.2 c1 x1 e2 e1).mp (fun M h => ⟨hG.2.2.mm (fun a _ _ => h.2 a (by omega) (by omega)), h.1, h.2⟩)
/-- the bounds for a move told -/
theorem pl_b (hn : n ≤ 512) (hR : RG (n : Nat) r W H) {s q : Nat} (hs : s + q = 1) : ((n + 1 : Nat) : Int) ≤ 520 ∧ RG (n + 1 : Nat) r W H ∧ ((1 : Nat) : Int) + ((r 7).toNat : Nat) = r 7 + 1 ∧ r 2 + r (15 + s) ≤ 10000 * ((n + 1 : Nat) : Int) ∧ r (9 + q) + ((r 7).toNat : Nat) ≤ 20 * ((n + 1 : Nat) : Int) ∧ r (9 + s) + 1 ≤ 20 * ((n + 1 : Nat) : Int) := by
  obtain ⟨-, hrS, hrB, -⟩ := RG.iff.mp hR
  have h2 := hrS.1
  have h7 := hrS.2.2.2.2.2.1
  have hc := hrS.2.2.2.2.2.2 s (by omega)
  have b1 := (hrB s (by omega)).1
  have b2 := (hrB q (by omega)).1
  exact ⟨by omega, hR.mono (by omega), by omega, by omega, by omega, by omega⟩
/-- the reference's row behind what it was asked for -/
theorem MR.told {M : Mm} {v : Int32} (h : MR M r) : MR (wr M 249 0 v) r := h.mm (wr_ne (by decide))
/-- a number answered by the class behind what it kept and changed -/
theorem ch_bE {q : Option ((Int32 ⊕ Nat) × Mm)} {r' : Nat → Int} {v : Int32} {g : Nat → Mm → Option (Int32 × Mm)} (h : An q (fun p => ∃ M0 M1, p = (.inl v, M1) ∧ Hc m M0 r W H ∧ (∀ a, a ≠ 80 → ¬ (82 ≤ a ∧ a < 234) → M0 a = m a) ∧ (∀ a, a < 23 ∨ (41 < a ∧ a < 234) ∨ 236 < a → M1 a = M0 a) ∧ GR M1 23 r' W H)) :
    An (bE q (fun v2 m1 => if ev_in 0 (sh_n 266) = true then (wb (wr m1 266 (ix 0) v2) fun m3 => some ((0 : Int32), m3)) else none) g) (fun r1 => r1.1 = 0 ∧ r1.2 266 0 = v ∧ chC m r1.2 r r' W H) := by
  obtain ⟨p, e, M0, M1, rfl, k0, f0, f1, g1⟩ := h
  rw [e, bE_l, if_pos (by decide), wbs]
  refine An.so ⟨rfl, ?_, chC.of k0 f0 f1 g1⟩
  show wr M1 266 (ix 0) v 266 0 = v
  rw [show ix (0 : Int32) = 0 from by decide, wr_eq]
theorem P_32 (hn : n ≤ 512) (hI : Inv n m) : ∀ (a1 a2 a3 a4 : Int32), PR n m (d_336 20 a1 a2 a3 a4 266 m) (fun m1 => d_266 249 a1 a2 a3 a4 m1) := by
  intro x y X Y
  obtain ⟨x, rfl, hx⟩ := zI_ex x
  obtain ⟨y, rfl, hy⟩ := zI_ex y
  obtain ⟨X, rfl, hX⟩ := zI_ex X
  obtain ⟨Y, rfl, hY⟩ := zI_ex Y
  obtain ⟨r, W, H, hG⟩ := hI.2.2.1
  have hW := iG_w hG
  have h4 := (RG.iff.mp hG.2.1).2.1.2.2.1
  obtain ⟨s1, s2, s3⟩ := tS_f hG
  by_cases qi : inC W H x y ∧ inC W H X Y
  · have i1 := qi.1
    have i2 := qi.2
    have hb := (iG_b hG s1).1
    by_cases q4 : r 4 = 0
    · have ref : ∀ M, MR M r → d_266 249 (zI x) (zI y) (zI X) (zI Y) M = if mv W (fun c => r (24 + 64 * tS r + c)) (tS r : Nat) x.toNat y.toNat X.toNat Y.toNat = true then ((d_188 249 (wr M 249 0 (zI 0))).bind fun m8 => (d_263 249 (zI ((x.toNat + W * y.toNat : Nat) : Int)) (zI ((X.toNat + W * Y.toNat : Nat) : Int)) m8).bind fun r9 => (d_189 249 r9.1 r9.2).bind fun r10 => some (r10.1, r10.2)) else (some ((-2), wr M 249 0 (zI 0))) := fun M hM => by
        have hMW : MW M r W H := ⟨hM, hG.mw.2⟩
        unfold d_266
        rw [m253i hMW hx hy hX hY qi]
        simp only [obs, m183, ift]
        rw [m264 hM.told h4, decide_eq_true q4]
        simp only [obs, m184, ift, wr_wr]
        rw [m214n hMW.told i1.1 i1.2.2.1, m214n hMW.told i2.1 i2.2.2.1]
        simp only [obs]
        rw [m265 hMW.told s1 s2 hb (by omega) (by omega) (by omega) (by omega)]
        rfl
      by_cases qm : mv W (fun c => r (24 + 64 * tS r + c)) (tS r : Nat) x.toNat y.toNat X.toNat Y.toNat = true
      · obtain ⟨b1, b2, b3, b4, b5, b6⟩ := pl_b (n := n) hn hG.2.1 s3
        obtain ⟨-, hRp, -, -⟩ := m263 b1 s3 (x := x.toNat) (y := y.toNat) (X := X.toNat) (Y := Y.toNat) (by omega) (by omega) (by omega) (by omega) (mv_f qm).1 (r 7).toNat 1 m r hG.1 b2 s2 (Nat.le_refl _) b3 b4 b5 b6
        refine PR_ch hI hG hRp (v := zI (pls W H (tS r) (1 - tS r) x.toNat y.toNat X.toNat Y.toNat (r 7).toNat 1 r).1) ?_ (fun M hM _ hc => ?_)
        · unfold d_336 d_154
          rw [k179i hG.2.2 hW hx hy hX hY qi, bE_l, k180 hG.2.2 h4, if_pos q4, bE_l, c12 (by omega) (by omega), c12 (by omega) (by omega), k_r1, k_r5, k_r6]
          simp only [obs]
          rw [c56 gA_23 hG.2.2 hW s1 s2 hb (by omega) (by omega) (by omega) (by omega), qm]
          simp only [obs, ift]
          refine ch_bE (r' := (pls W H (tS r) (1 - tS r) x.toNat y.toNat X.toNat Y.toNat (r 7).toNat 1 r).2) ?_
          · refine (c65i hI hG).bd (fun M0 h0 => ?_)
            obtain ⟨g0, k0, f0⟩ := h0
            unfold d_60
            rw [c56 gA_23 g0 hW s1 s2 hb (by omega) (by omega) (by omega) (by omega), qm]
            simp only [obs, ift]
            refine (c60 gA_23 (by decide) b1 s3 (x := x.toNat) (y := y.toNat) (X := X.toNat) (Y := Y.toNat) (by omega) (by omega) (by omega) (by omega) (r 7).toNat 1 M0 r g0 b2 s2 (Nat.le_refl _) b3 b4 b5 b6).bd (fun p hp => ?_)
            obtain ⟨p1, p2, p3⟩ := hp
            rw [p1]
            exact An.so ⟨M0, p.2, rfl, k0, f0, fun a ha => p3 a (by omega), p2⟩
        · show An (d_266 249 (zI x) (zI y) (zI X) (zI Y) M) _
          rw [ref M hM, if_pos qm]
          refine m188.bd (fun M0 h0 => ?_)
          have g0 : MR M0 r := hM.told.mm (h0.2 250 (by decide))
          obtain ⟨hp, -⟩ := m263 b1 s3 (x := x.toNat) (y := y.toNat) (X := X.toNat) (Y := Y.toNat) (by omega) (by omega) (by omega) (by omega) (mv_f qm).1 (r 7).toNat 1 M0 r g0 b2 s2 (Nat.le_refl _) b3 b4 b5 b6
          unfold d_263
          refine hp.bd (fun p hp => ?_)
          obtain ⟨p1, p2, p3⟩ := hp
          rw [p1]
          exact (chM.of hM hc h0 (fun a ha h250 => p3 a h250 (by unfold core at ha; omega) (by unfold core at ha; omega) (by unfold core at ha; omega)) p2).bd (fun r2 h2 => An.so h2)
      · refine PR_of hI (code := 0) (v := zI (-2)) (Or.inl rfl) ?_ (fun m1 qe => ?_)
        · unfold d_336 d_154
          rw [k179i hG.2.2 hW hx hy hX hY qi, bE_l, k180 hG.2.2 h4, if_pos q4, bE_l, c12 (by omega) (by omega), c12 (by omega) (by omega), k_r1]
          simp only [obs]
          rw [c56 gA_23 hG.2.2 hW s1 s2 hb (by omega) (by omega) (by omega) (by omega), Bool.eq_false_iff.mpr qm]
          simp only [obs, Bool.false_eq_true, ifn]
          rw [bE_l, show (-2 : Int32) = zI (-2) from by decide]
          exact lq_ok (Qe.rf m)
        · rw [ref m1 (hG.q qe).1, if_neg qm, show (-2 : Int32) = zI (-2) from by decide]
          exact rq_t (code := 0) (fun _ => rfl)
    · refine PR_of hI (code := 2) (v := 0) (Or.inr (Or.inr (Or.inl rfl))) ?_ (fun m1 qe => ?_)
      · unfold d_336 d_154
        rw [k179i hG.2.2 hW hx hy hX hY qi, bE_l, k180 hG.2.2 h4, if_neg q4, bE_r, bE_r, if_neg (by decide), if_pos rfl]
        exact lq_ex (c := 2) (by decide) (Qe.rf m)
      · have hG1 := hG.q qe
        unfold d_266
        rw [m253i hG1.mw hx hy hX hY qi]
        simp only [obs, m183, ift]
        rw [m264 hG1.1.told h4, decide_eq_false q4]
        simp only [obs, m184, ifn, wr_wr, Bool.false_eq_true]
        exact rq_t (code := 2) (fun e => by cases e)
  · refine PR_of hI (code := 1) (v := 0) (Or.inr (Or.inl rfl)) ?_ (fun m1 qe => ?_)
    · unfold d_336 d_154
      rw [k179o hG.2.2 hW hx hy hX hY qi, bE_r, bE_r, if_pos rfl]
      exact lq_ex (c := 1) (by decide) (Qe.rf m)
    · have hG1 := hG.q qe
      unfold d_266
      rw [m253o hG1.mw hx hy hX hY qi]
      simp only [obs, m183, ifn, Bool.false_eq_true]
      exact rq_t (code := 1) (fun e => by cases e)
theorem P_33 (hn : n ≤ 512) (hI : Inv n m) : ∀ (a1 : Int32), PR n m (d_337 20 a1 266 m) (fun m1 => d_274 249 a1 m1) := by
  intro a
  obtain ⟨a, rfl, ha⟩ := zI_ex a
  obtain ⟨r, W, H, hG⟩ := hI.2.2.1
  have hW := iG_w hG
  obtain ⟨-, hrS, hrB, -⟩ := RG.iff.mp hG.2.1
  have h4 := hrS.2.2.1
  obtain ⟨s1, s2, s3⟩ := tS_f hG
  have hcl := hrS.2.2.2.2.2.2 (tS r) s1
  have h2 := hrS.1
  by_cases qa : 1 ≤ a ∧ a ≤ 999
  · by_cases q4 : r 4 = 0
    · have hRn : RG (n + 1 : Nat) r W H := hG.2.1.mono (by omega)
      have hR' : RG (n + 1 : Nat) (if a < r (15 + tS r) then rsp r (tS r) a else rtm r (tS r)) W H := by
        by_cases q : a < r (15 + tS r)
        · rw [if_pos q]; exact hRn.sp s1 (by omega) (by omega) (by omega)
        · rw [if_neg q]; exact hRn.tm s1 (by omega)
      have ev : (if a < r (15 + tS r) then rsp r (tS r) a else rtm r (tS r)) (15 + tS r) = if a < r (15 + tS r) then r (15 + tS r) - a else 0 := by
        by_cases q : a < r (15 + tS r)
        · rw [if_pos q, if_pos q]
          unfold rsp
          rw [if_neg (by omega), if_pos rfl]
        · rw [if_neg q, if_neg q]
          unfold rtm
          rw [if_neg (by omega), if_pos rfl]
      have e3 : (if a < r (15 + tS r) then rsp r (tS r) a else rtm r (tS r)) 3 = (tS r : Nat) := by
        by_cases q : a < r (15 + tS r)
        · rw [if_pos q]
          unfold rsp
          rw [if_neg (by omega), if_neg (by omega)]; exact s2
        · rw [if_neg q]
          unfold rtm
          rw [if_neg (by omega), if_neg (by omega), if_neg (by omega)]; exact s2
      refine PR_ch hI hG hR' (v := zI (if a < r (15 + tS r) then r (15 + tS r) - a else 0)) ?_ (fun M hM _ hc => ?_)
      · unfold d_337 d_155
        rw [zl_1, show (999 : Int32) = zI 999 from rfl, k177y ha.1 ha.2 (by decide) (by decide) (by decide) (by decide) qa, bE_l, k180 hG.2.2 h4, if_pos q4, bE_l, k_r1, k_r5]
        refine ch_bE (r' := if a < r (15 + tS r) then rsp r (tS r) a else rtm r (tS r)) ?_
        refine (c65i hI hG).bd (fun M0 h0 => ?_)
        obtain ⟨g0, k0, f0⟩ := h0
        refine (c58 g0 hW hG.2.1.rok s1 s2 hcl (by omega) (d := a) (by omega) (by omega)).bd (fun p hp => ?_)
        obtain ⟨p1, p2, p3⟩ := hp
        rw [p2.2.2.2.2.2.2.1, e3, c52 p2 s1, ev]
        exact An.so ⟨M0, p.2, rfl, k0, f0, fun a ha => p3 a (by omega), p2⟩
      · show An (d_274 249 (zI a) M) _
        unfold d_274
        rw [zl_1, show (999 : Int32) = zI 999 from rfl, m185 ha.1 ha.2 (by decide) (by decide) (by decide) (by decide), decide_eq_true qa]
        simp only [obs, m183, ift]
        rw [m264 hM.told h4, decide_eq_true q4]
        simp only [obs, m184, ift, wr_wr]
        refine m188.bd (fun M0 h0 => ?_)
        have g0 : MR M0 r := hM.told.mm (h0.2 250 (by decide))
        have z15 : (15 : Int32) + zI (tS r : Nat) = zI ((15 + tS r : Nat) : Int) := z_ad 15 (tS r)
        rw [z3n, z2n]
        refine i_r (by decide) ?_
        rw [mr_k (by decide) g0, s2, wbs, z15]
        refine i_r (by omega) ?_
        rw [mr_k (by omega) g0]
        by_cases q : a < r (15 + tS r)
        · rw [if_pos (by rw [zI_lt (by omega) (by omega) (by omega) (by omega)]; exact q)]
          simp only [if_pos q]
          refine i_r (by decide) (i_r (by decide) ?_)
          rw [mr_k (by decide) g0, zI_add, wbs]
          have h1 := g0.pt (k := 2) (by decide) (v := r 2 + a)
          refine i_r (by omega) (i_r (by omega) ?_)
          rw [mr_k (by omega) h1, rs_ne (by omega), zI_sub, wbs]
          have h2' := h1.pt (k := 15 + tS r) (by omega) (v := r (15 + tS r) - a)
          refine i_r (by omega) ?_
          rw [mr_k (by omega) h2', rs_eq]
          refine (chM.of hM hc h0 (fun b _ hb => by rw [wr_r hb, wr_r hb]) (h2'.cg (r' := rsp r (tS r) a) (fun k hk => ?_))).bd (fun r2 h2 => An.so h2)
          unfold rsp rs
          by_cases k2 : k = 2
          · rw [if_pos k2, if_neg (by omega), if_pos k2]
          · rw [if_neg k2]
            by_cases k15 : k = 15 + tS r
            · rw [if_pos k15, if_pos k15]
            · rw [if_neg k15, if_neg k15, if_neg k2]
        · rw [if_neg (by rw [zI_lt (by omega) (by omega) (by omega) (by omega)]; exact q)]
          simp only [if_neg q]
          refine (m258 g0 s1).bd (fun M1 h1 => ?_)
          exact (chM.of hM hc h0 (fun b _ hb => h1.2 b hb) h1.1).bd (fun r2 h2 => An.so h2)
    · refine PR_of hI (code := 2) (v := 0) (Or.inr (Or.inr (Or.inl rfl))) ?_ (fun m1 qe => ?_)
      · unfold d_337 d_155
        rw [zl_1, show (999 : Int32) = zI 999 from rfl, k177y ha.1 ha.2 (by decide) (by decide) (by decide) (by decide) qa, bE_l, k180 hG.2.2 h4, if_neg q4, bE_r, bE_r, if_neg (by decide), if_pos rfl]
        exact lq_ex (c := 2) (by decide) (Qe.rf m)
      · have hG1 := hG.q qe
        unfold d_274
        rw [zl_1, show (999 : Int32) = zI 999 from rfl, m185 ha.1 ha.2 (by decide) (by decide) (by decide) (by decide), decide_eq_true qa]
        simp only [obs, m183, ift]
        rw [m264 hG1.1.told h4, decide_eq_false q4]
        simp only [obs, m184, ifn, wr_wr, Bool.false_eq_true]
        exact rq_t (code := 2) (fun e => by cases e)
  · refine PR_of hI (code := 1) (v := 0) (Or.inr (Or.inl rfl)) ?_ (fun m1 qe => ?_)
    · unfold d_337 d_155
      rw [zl_1, show (999 : Int32) = zI 999 from rfl, k177n ha.1 ha.2 (by decide) (by decide) (by decide) (by decide) qa, bE_r, bE_r, if_pos rfl, ← zl_1]
      exact lq_ex (c := 1) (by decide) (Qe.rf m)
    · unfold d_274
      rw [zl_1, show (999 : Int32) = zI 999 from rfl, m185 ha.1 ha.2 (by decide) (by decide) (by decide) (by decide), decide_eq_false qa]
      simp only [obs, m183, ifn, Bool.false_eq_true]
      exact rq_t (code := 1) (fun e => by cases e)
end HB
