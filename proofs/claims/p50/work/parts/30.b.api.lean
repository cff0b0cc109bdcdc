/-! The calls that the law makes, on: what is foretold, what was. -/
section AB
variable {m m' m'' : Mm} {r : Nat → Int} {W H : Nat} {k : Int}
theorem c54 {g : Nat} (hg : gA g) (h : GR m g r W H) (hw : WH W H) (b0 : BD W H (fun c => r (24 + c))) (b1 : BD W H (fun c => r (88 + c))) : d_54 g m = some (zI (dif (W * H) (fun c => r (24 + c)) (fun c => r (88 + c)))) := by
  have F := gA_F hg
  unfold d_54
  rw [F.1, F.2.1, F.2.2.2.2.2.1.1, F.2.2.2.2.2.2.1.1, c35 F.2.2.2.2.2.1.2.2.1 h.1.1 F.2.2.2.2.2.2.1.2.2.1 h.2.1.1 hw b0 b1]
  rfl
theorem c55 {g : Nat} (hg : gA g) (h : GR m g r W H) (hw : WH W H) (b0 : BD W H (fun c => r (24 + c))) (b1 : BD W H (fun c => r (88 + c))) : d_55 g m = some (zI (fdi (W * H) (fun c => r (24 + c)) (fun c => r (88 + c)))) := by
  have F := gA_F hg
  unfold d_55
  rw [F.1, F.2.1, F.2.2.2.2.2.1.1, F.2.2.2.2.2.2.1.1, c36 F.2.2.2.2.2.1.2.2.1 h.1.1 F.2.2.2.2.2.2.1.2.2.1 h.2.1.1 hw b0 b1]
  rfl
theorem iG_0 (h : iGam k m r W H) : BD W H (fun c => r (24 + c)) := (iG_b h (s := 0) (by decide)).1
theorem iG_1 (h : iGam k m r W H) : BD W H (fun c => r (88 + c)) := (iG_b h (s := 1) (by decide)).1
theorem a137_0 (h : iGam k m r W H) : d_137 20 0 m = some (zI (dif (W * H) (fun c => r (24 + c)) (fun c => r (88 + c)))) := by
  unfold d_137
  rw [show d_177 0 0 1 = some () from by decide, obs, if_neg (fun e => e rfl), k_r1, c54 gA_23 h.2.2 (iG_w h) (iG_0 h) (iG_1 h), obs]
theorem a137_1 (h : iGam k m r W H) : d_137 20 1 m = some (zI (fdi (W * H) (fun c => r (24 + c)) (fun c => r (88 + c)))) := by
  unfold d_137
  rw [show d_177 1 0 1 = some () from by decide, obs, if_pos (by decide), k_r1, c55 gA_23 h.2.2 (iG_w h) (iG_0 h) (iG_1 h), obs]
theorem a138 (h : iGam k m r W H) {s x y X Y : Nat} (hs : s ≤ 1) (hx : x < W) (hy : y < H) (hX : X < W) (hY : Y < H) (hp : 1 ≤ r (24 + 64 * s + (x + W * y))) :
    An (d_138 20 (zI (s : Nat)) (zI (x : Nat)) (zI (y : Nat)) (zI (X : Nat)) (zI (Y : Nat)) m) (fun q => q.1 = zI ((bf W H (wof (fun c => r (24 + 64 * s + c)) (x + W * y)) (X + W * Y) (r (24 + 64 * s + (x + W * y))) (x + W * y) 64).1 (X + W * Y)) ∧ Qe m q.2) := by
  unfold d_138
  rw [k175 hs, obs, k179 h hx hy hX hY, obs, k_r1, k_r8, c51 gA_23 hs, obs, k12, obs, k12, obs, (iG_a hs).1]
  refine (c116 (iG_a hs).2 (by omega) (iG_f h hs) (iG_w h) (iG_b h hs).1 hx hy hX hY hp).bd (fun q hq => An.so ⟨hq.1, Qe.of (fun a ha => hq.2 a (by omega))⟩)
theorem Qe.snd (h : ∀ a, a < 234 ∨ 236 < a → m' a = m a) : Qe m m' := Qe.of (fun a ha => h a (by omega))
/-- k is not too great -/
theorem a147 (hk : k ≤ 520) (h : iGam k m r W H) {x y X Y : Nat} (hx : x < W) (hy : y < H) (hX : X < W) (hY : Y < H) :
    An (d_147 20 (zI (x : Nat)) (zI (y : Nat)) (zI (X : Nat)) (zI (Y : Nat)) m) (fun q => SN q W H r (tS r) (1 - tS r) x y X Y (r 2) ∧ Qe m q) := by
  obtain ⟨s1, s2, s3⟩ := tS_f h
  have t2 := h.2.1.2.1
  unfold d_147
  rw [k179 h hx hy hX hY, obs, k12, obs, k12, obs, k_r1, k_r6, (iG_s h).1]
  refine An.bd (c59 gA_23 (by decide) h.2.2 (k := k) (by omega) h.2.1 s3 s2 t2.1 (by omega) hx hy hX hY) (fun m5 h5 => ?_)
  exact An.so ⟨h5.1, Qe.snd h5.2⟩
theorem a143_1 (hk : k ≤ 520) (h : iGam k m r W H) {x y X Y : Nat} (hx : x < W) (hy : y < H) (hX : X < W) (hY : Y < H) :
    An (d_143 20 (zI (x : Nat)) (zI (y : Nat)) (zI (X : Nat)) (zI (Y : Nat)) 1 m) (fun q => q.1 = zI (fG r (tS r) x y X Y 1 : Nat) ∧ Qe m q.2) := by
  unfold d_143
  rw [show d_176 1 6 = some () from by decide, obs]
  refine (a147 hk h hx hy hX hY).bd (fun m1 h1 => ?_)
  have e84 : d_84 234 1 m1 = some (zI (fG r (tS r) x y X Y 1 : Nat)) := by
    unfold d_84
    rw [s_r0, s_n5, if_neg (by decide), if_neg (by decide), if_pos (by decide), show ix (1 : Int32) = 1 from by decide, h1.1.2.2.2.2.2.2.1 _ (by omega)]
  rw [k_r6, e84, obs]
  exact An.so ⟨rfl, h1.2⟩
theorem a145 (hk : k ≤ 520) (h : iGam k m r W H) {x y X Y : Nat} (hx : x < W) (hy : y < H) (hX : X < W) (hY : Y < H) :
    An (d_145 20 (zI (x : Nat)) (zI (y : Nat)) (zI (X : Nat)) (zI (Y : Nat)) m) (fun q => q.1 = zI (flen r (tS r) x y X Y : Nat) ∧ Qe m q.2) := by
  unfold d_145
  refine (a147 hk h hx hy hX hY).bd (fun m1 h1 => An.so ⟨?_, h1.2⟩)
  show m1 (sh_r 20 6) 2 = _
  rw [k_r6]; exact h1.1.1
theorem a146 (hk : k ≤ 520) (h : iGam k m r W H) {x y X Y : Nat} (hx : x < W) (hy : y < H) (hX : X < W) (hY : Y < H) :
    An (d_146 20 (zI (x : Nat)) (zI (y : Nat)) (zI (X : Nat)) (zI (Y : Nat)) m) (fun q => q.1 = zI (frd W H r (tS r) (1 - tS r) x y X Y (r 2)) ∧ Qe m q.2) := by
  unfold d_146
  refine (a147 hk h hx hy hX hY).bd (fun m1 h1 => An.so ⟨?_, h1.2⟩)
  show m1 (sh_r 20 6) 3 = _
  rw [k_r6]; exact h1.1.2.1
/-- a move told: the bounds -/
theorem pls_R {K : Int} {s q : Nat} (hs : s + q = 1) {x y X Y : Nat} (hx : x < W) (hy : y < H) (hX : X < W) (hY : Y < H) :
    ∀ (n j : Nat) (r : Nat → Int), RG K r W H → r 3 = s → 1 ≤ j → (j : Int) + n = r 7 + 1 → r 2 + r (15 + s) ≤ 10000 * K → r (9 + q) + n ≤ 20 * K → r (9 + s) + 1 ≤ 20 * K →
    RG K (pls W H s q x y X Y n j r).2 W H ∧ -1 ≤ (pls W H s q x y X Y n j r).1 ∧ (pls W H s q x y X Y n j r).1 ≤ 9 := by
  intro n
  induction n with
  | zero =>
    intro j r hR h3 j1 j7 ht hC hC2
    exact ⟨hR, (by show (-1 : Int) ≤ 0; decide), (by show (0 : Int) ≤ 9; decide)⟩
  | succ n ih =>
    intro j r hR h3 j1 j7 ht hC hC2
    have hrS := (RG.iff.mp hR).2.1
    have h7 := hrS.2.2.2.2.2.1
    have h6 := hrS.2.2.2.2.1
    have hcl := hrS.2.2.2.2.2.2 s (by omega)
    unfold pls
    generalize hw : (if j = 1 then 0 else r 6) = w at *
    have w0 : 0 ≤ w := by rw [← hw]; split <;> omega
    by_cases qc : w + ftk W H r s q x y X Y (r 2 + w) < r (15 + s)
    · have hRs := stw_R hR hs w0 hx hy hX hY qc ht (by omega)
      have s3 : stw W H r s q x y X Y w 3 = s := by
        rw [stw_n (by decide) (by omega) (by unfold pL; omega) (by unfold pB; omega)]; exact h3
      have s9 : stw W H r s q x y X Y w (9 + s) = r (9 + s) := stw_n (by omega) (by omega) (by unfold pL; omega) (by unfold pB; omega)
      rw [if_pos qc]
      by_cases qi : fia W H r s q x y X Y (r 2 + w) = true
      · rw [if_pos qi]
        exact ⟨hRs.fn (by omega) (by rw [s9]; exact hC2) hx hy hX hY (by omega) (by omega), by omega, by omega⟩
      · rw [if_neg qi]
        have s7 : stw W H r s q x y X Y w 7 = r 7 := stw_n (by decide) (by omega) (by unfold pL; omega) (by unfold pB; omega)
        have sq := stw_9 (W := W) (H := H) (r := r) (s := s) (q := q) (x := x) (y := y) (X := X) (Y := Y) (w := w) (by omega) (by omega)
        obtain ⟨t1, t2⟩ := stw_t (W := W) (H := H) (r := r) (s := s) (q := q) (x := x) (y := y) (X := X) (Y := Y) (w := w) (by omega) (by omega)
        exact ih (j + 1) (stw W H r s q x y X Y w) hRs s3 (by omega) (by rw [s7]; omega) (by rw [t1, t2]; omega) (by omega) (by rw [s9]; exact hC2)
    · rw [if_neg qc]
      exact ⟨hR.tm (by omega) ht, (by show (-1 : Int) ≤ -1; decide), (by show (-1 : Int) ≤ 9; decide)⟩
variable {n : Nat}
theorem trR_R (hn : n ≤ 512) (hR : RG (n : Nat) r W H) {s q : Nat} (hs : s + q = 1) (h3 : r 3 = s) {x y X Y : Nat} (hx : x < W) (hy : y < H) (hX : X < W) (hY : Y < H) : RG (n + 1 : Nat) (trR W H r s q x y X Y) W H := by
  unfold trR
  by_cases qm : mv W (fun c => r (24 + 64 * s + c)) s x y X Y = true
  · obtain ⟨b1, b2, b3, b4, b5, b6⟩ := pl_b (n := n) hn hR hs
    rw [if_pos qm]
    exact (pls_R hs hx hy hX hY (r 7).toNat 1 r b2 h3 (Nat.le_refl _) b3 b4 b5 b6).1
  · rw [if_neg qm]
    exact hR.mono (by omega)
theorem a148 (hn : n ≤ 512) (h : iGam (n : Nat) m r W H) (h4 : r 4 = 0) {x y X Y w : Nat} (hx : x < W) (hy : y < H) (hX : X < W) (hY : Y < H) (hw : w ≤ 3) :
    An (d_148 20 (zI (x : Nat)) (zI (y : Nat)) (zI (X : Nat)) (zI (Y : Nat)) (zI (w : Nat)) m) (fun q => q.1 = zI (trV W H r (tS r) (1 - tS r) x y X Y w) ∧ Qe m q.2) := by
  obtain ⟨s1, s2, s3⟩ := tS_f h
  have hW := iG_w h
  have hb := (iG_b h s1).1
  have hk := h.2.1.rok
  have hRt := trR_R hn h.2.1 s3 s2 hx hy hX hY
  obtain ⟨hWt, hSt, hBt, -⟩ := RG.iff.mp hRt
  have h4t := hSt.2.2.1
  obtain ⟨b1, b2, b3, b4, b5, b6⟩ := pl_b (n := n) hn h.2.1 s3
  unfold d_148
  rw [k179 h hx hy hX hY, obs, k177_3 hw, obs, k180 h h4, obs, k_r1, k_r2, k_r6]
  obtain ⟨M0, e0, g0, f0⟩ := c49 gA_23 gA_42 (by decide) hk.1 hk.2.1 hk.2.2 h.2.2
  rw [e0, obs, k12, obs, k12, obs]
  have h60 : An (d_60 42 234 (zI ((x + 8 * y : Nat) : Int)) (zI ((X + 8 * Y : Nat) : Int)) M0) (fun p => p.1 = zI (trN W H r (tS r) (1 - tS r) x y X Y) ∧ GR p.2 42 (trR W H r (tS r) (1 - tS r) x y X Y) W H ∧ ∀ a, a < 42 ∨ (60 < a ∧ a < 234) ∨ 236 < a → p.2 a = M0 a) := by
    unfold d_60 trN trR
    rw [c56 gA_42 g0 hW s1 s2 hb hx hy hX hY]
    by_cases qm : mv W (fun c => r (24 + 64 * tS r + c)) (tS r : Nat) x y X Y = true
    · rw [qm]
      simp only [obs, ift]
      exact (c60 gA_42 (by decide) b1 s3 hx hy hX hY (r 7).toNat 1 M0 r g0 b2 s2 (Nat.le_refl _) b3 b4 b5 b6).mp (fun p hp => ⟨hp.1, hp.2.1, fun a ha => hp.2.2 a (by omega)⟩)
    · rw [Bool.eq_false_iff.mpr qm]
      simp only [obs, Bool.false_eq_true, ifn]
      refine An.so ⟨?_, g0, fun _ _ => rfl⟩
      show (-2 : Int32) = zI (-2)
      decide
  obtain ⟨p, ep, p1, p2, p3⟩ := h60
  rw [ep, obs]
  have qe : Qe m p.2 := fun a ha => by
    unfold core at ha
    rw [p3 a (by omega), f0 a (by omega)]
  have e235 : p.2 23 5 = zI (r 2) := by rw [p3 23 (by omega), f0 23 (by omega)]; exact (iG_s h).1
  have : w = 0 ∨ w = 1 ∨ w = 2 ∨ w = 3 := by omega
  rcases this with rfl | rfl | rfl | rfl
  · rw [if_pos (show zI ((0 : Nat) : Int) = 0 from rfl), p1]
    exact An.so ⟨rfl, qe⟩
  · rw [if_neg (by decide), if_pos (show zI ((1 : Nat) : Int) = 1 from rfl), p2.2.2.2.2.2.1, e235, zI_sub]
    exact An.so ⟨rfl, qe⟩
  · rw [if_neg (by decide), if_neg (by decide), if_pos (show zI ((2 : Nat) : Int) = 2 from rfl), c54 gA_42 p2 hW (hBt 0 (by decide)).2.2.2.1.1 (hBt 1 (by decide)).2.2.2.1.1, obs]
    exact An.so ⟨rfl, qe⟩
  · rw [if_neg (by decide), if_neg (by decide), if_neg (by decide), p2.2.2.2.2.2.2.2.1]
    have ev : trV W H r (tS r) (1 - tS r) x y X Y ((3 : Nat) : Int) = if trR W H r (tS r) (1 - tS r) x y X Y 4 = 0 then 0 else 1 := rfl
    rw [ev]
    by_cases qo : trR W H r (tS r) (1 - tS r) x y X Y 4 = 0
    · rw [if_neg (by rw [qo]; exact fun e => e rfl), if_pos qo]
      exact An.so ⟨rfl, qe⟩
    · rw [if_pos (by rw [zl_0, zI_inj (by omega) (by omega) (by omega) (by omega)]; exact qo), if_neg qo]
      exact An.so ⟨rfl, qe⟩
theorem c149 (hn : n ≤ 512) (hG : iGam n m r W H) {s q : Nat} (hs : s + q = 1) (h3 : r 3 = s) {x y X Y : Nat} (hx : x < W) (hy : y < H) (hX : X < W) (hY : Y < H) {N : Nat} (hN : N ≤ 200) :
    An (d_149_57 20 (zI (N : Nat)) (zI ((x + 8 * y : Nat) : Int)) (zI ((X + 8 * Y : Nat) : Int)) (zI 0) m) (fun p => p.1 = zI (dlD W H r s q x y X Y N) ∧ ∀ a, a < 234 ∨ 236 < a → p.2 a = m a) := by
  obtain ⟨-, hrS, -⟩ := RG.iff.mp hG.2.1
  have h2 := hrS.1
  have hcl := hrS.2.2.2.2.2.2 s (by omega)
  unfold d_149_57
  refine it_inv (fun k (u : Int32 × Mm) => u.1 = zI (k : Nat) ∧ (∀ j, j < k → dlp W H r s q x y X Y j = false) ∧ ∀ a, a < 234 ∨ 236 < a → u.2 a = m a) _ (N + 1) ⟨rfl, fun j hj => absurd hj (Nat.not_lt_zero j), fun _ _ => rfl⟩ (fun k hk u hu => ?_) (fun u hu => ?_)
  · obtain ⟨z, M⟩ := u
    obtain ⟨u1, u2, u3⟩ := hu
    dsimp only at u1 u2 u3
    subst u1
    have gM : GR M 23 r W H := hG.2.2.mm (fun a a1 a2 => u3 a (by omega))
    show An (s_149_57 20 (zI (N : Nat)) (zI ((x + 8 * y : Nat) : Int)) (zI ((X + 8 * Y : Nat) : Int)) (zI (k : Nat)) M) _
    unfold s_149_57
    rw [if_neg (by rw [zI_lt (by omega) (by omega) (by omega) (by omega)]; omega), k_r1, k_r6, gM.2.2.2.2.2.1, zI_add]
    refine (c59 gA_23 (by decide) gM (k := n) (by omega) hG.2.1 hs h3 (t := r 2 + (k : Nat)) (by omega) (by omega) hx hy hX hY).bd (fun M1 h1 => ?_)
    obtain ⟨S1, f1⟩ := h1
    have g1 : GR M1 23 r W H := gM.mm (fun a a1 a2 => f1 a (by omega))
    have tk := ftk_r hG.2.1 (s := s) (q := q) (by omega) hx hy hX hY (t := r 2 + (k : Nat))
    have fr : ∀ a, a < 234 ∨ 236 < a → M1 a = m a := fun a ha => by rw [f1 a ha, u3 a ha]
    rw [g1.2.2.2.2.2.2.1, h3, c52 g1 (by omega)]
    simp only [obs]
    rw [wbs, zI_sub, S1.2.2.2.2.1, zbb, S1.2.2.2.2.2.1]
    have next : dlp W H r s q x y X Y k = false → An (wb (zI (k : Nat) + 1) fun y15 => some (Sum.inl (y15, M1) : (Int32 × Mm) ⊕ (Int32 × Mm))) (fun v => match v with | .inl s' => s'.1 = zI ((k + 1 : Nat) : Int) ∧ (∀ j, j < k + 1 → dlp W H r s q x y X Y j = false) ∧ ∀ a, a < 234 ∨ 236 < a → s'.2 a = m a | .inr v => v.1 = zI (dlD W H r s q x y X Y N) ∧ ∀ a, a < 234 ∨ 236 < a → v.2 a = m a) := fun hd => by
      rw [wbs]
      refine An.so ⟨by rw [zl_1, zI_add]; rfl, fun j hj => ?_, fr⟩
      by_cases e : j = k
      · rw [e]; exact hd
      · exact u2 j (by omega)
    by_cases qi : fia W H r s q x y X Y (r 2 + (k : Nat)) = true
    · rw [if_pos qi]
      by_cases qc : ftk W H r s q x y X Y (r 2 + (k : Nat)) < r (15 + s) - (k : Nat)
      · rw [if_neg (by rw [zI_le (by omega) (by omega) (by omega) (by omega)]; omega)]
        refine An.so ⟨?_, fr⟩
        rw [dl_at hk (by unfold dlp; rw [decide_eq_true qc, qi]; rfl) u2]
      · rw [if_pos (by rw [zI_le (by omega) (by omega) (by omega) (by omega)]; omega)]
        exact (next (by unfold dlp; rw [decide_eq_false qc]; rfl)).mp (fun v hv => by cases v <;> exact hv)
    · rw [if_neg qi]
      exact (next (by unfold dlp; rw [Bool.eq_false_iff.mpr qi, Bool.and_false])).mp (fun v hv => by cases v <;> exact hv)
  · obtain ⟨z, M⟩ := u
    obtain ⟨u1, u2, u3⟩ := hu
    dsimp only at u1 u2 u3
    subst u1
    show An (s_149_57 20 (zI (N : Nat)) (zI ((x + 8 * y : Nat) : Int)) (zI ((X + 8 * Y : Nat) : Int)) (zI ((N + 1 : Nat) : Int)) M) _
    unfold s_149_57
    rw [if_pos (by rw [zI_lt (by omega) (by omega) (by omega) (by omega)]; omega)]
    refine An.so ⟨?_, u3⟩
    rw [dl_no u2, show (-1 : Int32) = zI (-1) from by decide]
theorem a149_3 (hn : n ≤ 512) (h : iGam (n : Nat) m r W H) (h4 : r 4 = 0) {x y X Y : Nat} (hx : x < W) (hy : y < H) (hX : X < W) (hY : Y < H) (hm : mv W (fun c => r (24 + 64 * tS r + c)) (tS r : Nat) x y X Y = true) :
    An (d_149 20 (zI (x : Nat)) (zI (y : Nat)) (zI (X : Nat)) (zI (Y : Nat)) 3 m) (fun q => q.1 = zI (dlD W H r (tS r) (1 - tS r) x y X Y 3) ∧ Qe m q.2) := by
  obtain ⟨s1, s2, s3⟩ := tS_f h
  unfold d_149
  rw [k179 h hx hy hX hY, obs, show d_177 3 0 200 = some () from by decide, obs, k180 h h4, obs, k12, obs, k12, obs, k_r1, c56 gA_23 h.2.2 (iG_w h) s1 s2 (iG_b h s1).1 hx hy hX hY, obs, hm, if_pos rfl, zl_0, show (3 : Int32) = zI ((3 : Nat) : Int) from rfl]
  exact (c149 hn h s3 s2 hx hy hX hY (N := 3) (by decide)).mp (fun p hp => ⟨hp.1, Qe.snd hp.2⟩)
theorem a150 (h : iGam k m r W H) {i w : Nat} (hi : ((i : Nat) : Int) < r 13) (hw : w ≤ 7) : d_150 20 (zI (i : Nat)) (zI (w : Nat)) m = some (zI (r (304 + 8 * i + w))) := by
  have h13 := h.2.1.2.2.2.2.2.2.2.1
  have hL := h.2.2.2.2.2.1
  have hl : lA 38 := (gA_F gA_23).2.2.2.2.2.2.2.2.1
  have e : r 13 = ((r 13).toNat : Nat) := by omega
  unfold d_150
  rw [log_s, hL.1, e, k176 (by omega) (by omega), obs, k177_7 hw, obs, c72 hl hL h13.2 hi (by omega) (by decide), obs]
theorem a151 (h : iGam k m r W H) {i w : Nat} (hi : ((i : Nat) : Int) < r 14) (hw : w ≤ 5) (w1 : w ≠ 1) (w2 : w ≠ 2) : d_151 20 (zI (i : Nat)) (zI (w : Nat)) m = some (zI (r (464 + 6 * i + w))) := by
  have h14 := h.2.1.2.2.2.2.2.2.2.2.1
  have hL := h.2.2.2.2.2.2.1
  have hl : lA 40 := (gA_F gA_23).2.2.2.2.2.2.2.2.2
  have e : r 14 = ((r 14).toNat : Nat) := by omega
  unfold d_151
  rw [log_a, hL.1, e, k176 (by omega) (by omega), obs, k177_5 hw, obs, c72 hl hL h14.2 hi (by omega) (by decide), obs, if_neg (by rw [zl_1, zI_inj (by omega) (by omega) (by omega) (by omega)]; omega), if_pos (by rw [zl_2, zI_inj (by omega) (by omega) (by omega) (by omega)]; omega)]
  unfold made_
  rw [if_neg (by omega)]
theorem a152 (h : iGam k m r W H) : d_152 20 m = some (mean_ (sm (fun k => r (464 + 6 * k + 4)) (r 14).toNat) (r 14)) := by
  have h14 := h.2.1.2.2.2.2.2.2.2.2.1
  have hM := h.2.1.2.2.2.2.2.2.2.2.2.2.2
  have hL := h.2.2.2.2.2.2.1
  have hl : lA 40 := (gA_F gA_23).2.2.2.2.2.2.2.2.2
  have hS : 0 ≤ sm (fun k => r (464 + 6 * k + 4)) (r 14).toNat ∧ sm (fun k => r (464 + 6 * k + 4)) (r 14).toNat ≤ 9 * ((r 14).toNat : Nat) := sm_r (fun k hk => by
    have := (hM k (by omega)).2.2.2.2
    exact ⟨by omega, this.2⟩)
  have eS : (fun k => made_ r W k 4) = fun k => r (464 + 6 * k + 4) := by
    funext k
    unfold made_
    rw [if_neg (by decide)]
  generalize hSS : sm (fun k => r (464 + 6 * k + 4)) (r 14).toNat = S at hS
  have nn : r 14 ≠ 0 → (FP.ddiv (FP.i2d (zI S)) (FP.i2d (zI (r 14)))) &&& 0x7fffffffffffffff ≤ 0x7ff0000000000000 := fun h => fx_and63 _ (fx_nn_b64 (fx_ddiv_nn (by rw [zI_to (by omega) (by omega)]; omega) (by rw [zI_to (by omega) (by omega)]; omega))).2
  have z0 : zI (r 14) = 0 ↔ r 14 = 0 := by rw [zl_0, zI_inj (by omega) (by omega) (by omega) (by omega)]
  unfold d_152 mean_
  rw [log_a, hL.1, wbs]
  by_cases q : r 14 = 0
  · rw [if_neg (fun h => h (z0.2 q)), if_pos q]
  · rw [if_pos (fun h => q (z0.1 h)), if_neg q, zl_4]
    have e := c73 hl hL h14.1 h14.2 (j := 4) (by decide) (by decide)
    rw [eS, hSS] at e
    rw [show zI 4 = zI ((4 : Nat) : Int) from rfl, e]
    simp only [obs]
    rw [if_pos (nn q)]
theorem a153 (h : iGam k m r W H) : d_153 20 m = some (share_ (zI (sm (fun k => r (304 + 8 * k + 2) + r (304 + 8 * k + 5)) (r 13).toNat)) (zI (sm (fun k => r (304 + 8 * k + 3) + r (304 + 8 * k + 6)) (r 13).toNat))) := by
  have h13 := h.2.1.2.2.2.2.2.2.2.1
  have hL := h.2.2.2.2.2.1
  have hl : lA 38 := (gA_F gA_23).2.2.2.2.2.2.2.2.1
  have c2 := c73 hl hL h13.1 h13.2 (j := 2) (by decide) (by decide)
  have c5 := c73 hl hL h13.1 h13.2 (j := 5) (by decide) (by decide)
  have c3 := c73 hl hL h13.1 h13.2 (j := 3) (by decide) (by decide)
  have c6 := c73 hl hL h13.1 h13.2 (j := 6) (by decide) (by decide)
  have nn : ∀ x y : Int32, x ≠ 0 → fx_NN FP.Core.b32 (FP.fdiv (FP.i2f (x - y)) (FP.i2f x)).toNat := fun x y h => fx_fdiv_g (fun q => h (Int32.toInt_inj.1 (q.trans (by decide))))
  have nn2 : ∀ x y : Int32, x ≠ 0 → (FP.fdiv (FP.i2f (x - y)) (FP.i2f x)) &&& 0x7fffffff ≤ 0x7f800000 := fun x y h => fx_and31 _ (fx_nn_b32 (nn x y h)).2
  generalize hX : zI (sm (fun k => r (304 + 8 * k + 2) + r (304 + 8 * k + 5)) (r 13).toNat) = X
  generalize hY : zI (sm (fun k => r (304 + 8 * k + 3) + r (304 + 8 * k + 6)) (r 13).toNat) = Y
  unfold d_153 share_
  rw [log_s, zl_2, zl_5, zl_3, zl_6, show zI 2 = zI ((2 : Nat) : Int) from rfl, c2, show zI 5 = zI ((5 : Nat) : Int) from rfl, c5, show zI 3 = zI ((3 : Nat) : Int) from rfl, c3, show zI 6 = zI ((6 : Nat) : Int) from rfl, c6]
  simp only [obs, wbs, zI_add, zI_sub]
  rw [← sm_add, hX]
  have : zI (sm (fun k => r (304 + 8 * k + 2) + r (304 + 8 * k + 5)) (r 13).toNat - sm (fun k => r (304 + 8 * k + 3)) (r 13).toNat - sm (fun k => r (304 + 8 * k + 6)) (r 13).toNat) = X - Y := by
    rw [← hX, ← hY, zI_sub, sm_add (g := fun k => r (304 + 8 * k + 3))]
    congr 1
    omega
  rw [this]
  by_cases q : X = 0
  · rw [if_neg (fun h => h q), if_pos q]
  · rw [if_pos q, if_neg q, if_pos (nn2 X Y q)]
end AB
