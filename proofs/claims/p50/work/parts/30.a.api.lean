/-! The calls that the law makes: what they answer of a game whose row is known. -/
section AA
variable {m m' m'' : Mm} {r : Nat → Int} {W H : Nat} {k : Int}
/-- what a question leaves as it was -/
def core (a : Nat) : Prop := a < 42 ∨ (61 ≤ a ∧ a < 234)
def Qe (m m' : Mm) : Prop := ∀ a, core a → m' a = m a
/-- the game shows the row r -/
def iGam (k : Int) (m : Mm) (r : Nat → Int) (W H : Nat) : Prop := VL m ∧ RG k r W H ∧ GR m 23 r W H
theorem Qe.rf : Qe m m := fun _ _ => rfl
theorem Qe.tr (h : Qe m m') (q : Qe m' m'') : Qe m m'' := fun a ha => (q a ha).trans (h a ha)
theorem Qe.of (h : ∀ a, a < 42 ∨ (61 ≤ a ∧ a < 234) → m' a = m a) : Qe m m' := fun a ha => h a ha
theorem Qe.lo (h : Qe m m') {a : Nat} (ha : a < 42) : m' a = m a := h a (Or.inl ha)
theorem iGam.q (h : iGam k m r W H) (q : Qe m m') : iGam k m' r W H := ⟨h.1.mm (q.lo (by decide)) (q.lo (by decide)), h.2.1, h.2.2.mm (fun a _ _ => q.lo (by omega))⟩
theorem iG_w (h : iGam k m r W H) : WH W H := h.2.1.1.2.2
theorem iG_b (h : iGam k m r W H) {s : Nat} (hs : s ≤ 1) : BG W H (fun c => r (24 + 64 * s + c)) := ((RG.iff.mp h.2.1).2.2.1 s hs).2.2.2.1
theorem iG_f (h : iGam k m r W H) {s : Nat} (hs : s ≤ 1) : FR m (23 + 1 + 5 * s + 1) W H (fun c => r (24 + 64 * s + c)) := (h.2.2.bd hs).1
theorem iG_s (h : iGam k m r W H) : SV m 23 r := h.2.2.2.2.2.2.2
theorem s01 {s : Nat} (h : s ≤ 1) : ((s : Nat) : Int) = 0 ∨ ((s : Nat) : Int) = 1 := by omega
theorem k175 {s : Nat} (hs : s ≤ 1) : d_175 (zI (s : Nat)) = some () := by
  unfold d_175
  have : s = 0 ∨ s = 1 := by omega
  rcases this with rfl | rfl
  · rw [if_pos (show zI ((0 : Nat) : Int) = 0 from rfl)]
  · rw [if_neg (by decide), if_pos (show zI ((1 : Nat) : Int) = 1 from rfl)]
theorem k178 (h : iGam k m r W H) {x y : Nat} (hx : x < W) (hy : y < H) : d_178 20 (zI (x : Nat)) (zI (y : Nat)) m = some () := by
  have F := gA_F gA_23
  obtain ⟨w1, w2, w3, w4⟩ := iG_w h
  unfold d_178
  rw [k_r1, F.1, F.2.2.2.2.2.1.1, c15 h.2.2.1.1 (iG_w h) (by omega) (by omega) (by omega) (by omega)]
  simp only [obs]
  rw [decide_eq_true (by omega), if_pos rfl]
theorem k179 (h : iGam k m r W H) {x y X Y : Nat} (hx : x < W) (hy : y < H) (hX : X < W) (hY : Y < H) : d_179 20 (zI (x : Nat)) (zI (y : Nat)) (zI (X : Nat)) (zI (Y : Nat)) m = some () := by
  unfold d_179
  rw [k178 h hx hy, obs, k178 h hX hY, obs]
theorem k12 {x y : Nat} : d_12 (zI (x : Nat)) (zI (y : Nat)) = some (zI ((x + 8 * y : Nat) : Int)) := by
  have e := c12 (x := (x : Nat)) (y := (y : Nat)) (by omega) (by omega)
  rw [Int.toNat_natCast, Int.toNat_natCast] at e
  exact e
theorem k176 {a n : Nat} (h : a < n) (hn : n ≤ 2147483647) : d_176 (zI (a : Nat)) (zI (n : Nat)) = some () := by
  unfold d_176
  rw [if_neg (by rw [zl_0, zI_lt (by omega) (by omega) (by decide) (by decide)]; omega), if_pos (by rw [zI_lt (by omega) (by omega) (by omega) (by omega)]; omega)]
theorem k177 {a l u : Int} (a1 : -2147483648 ≤ a) (a2 : a ≤ 2147483647) (l1 : -2147483648 ≤ l) (l2 : l ≤ 2147483647) (u1 : -2147483648 ≤ u) (u2 : u ≤ 2147483647) (h : l ≤ a ∧ a ≤ u) : d_177 (zI a) (zI l) (zI u) = some () := by
  unfold d_177
  rw [if_neg (by rw [zI_lt a1 a2 l1 l2]; omega), if_pos (by rw [zI_le a1 a2 u1 u2]; omega)]
theorem k177_1 {a : Nat} (h : a ≤ 1) : d_177 (zI (a : Nat)) 0 1 = some () := by rw [zl_0, zl_1]; exact k177 (by omega) (by omega) (by decide) (by decide) (by decide) (by decide) (by omega)
theorem k177_3 {a : Nat} (h : a ≤ 3) : d_177 (zI (a : Nat)) 0 3 = some () := by rw [zl_0, zl_3]; exact k177 (by omega) (by omega) (by decide) (by decide) (by decide) (by decide) (by omega)
theorem k177_5 {a : Nat} (h : a ≤ 5) : d_177 (zI (a : Nat)) 0 5 = some () := by rw [zl_0, show (5 : Int32) = zI 5 from rfl]; exact k177 (by omega) (by omega) (by decide) (by decide) (by decide) (by decide) (by omega)
theorem k177_7 {a : Nat} (h : a ≤ 7) : d_177 (zI (a : Nat)) 0 7 = some () := by rw [zl_0, show (7 : Int32) = zI 7 from rfl]; exact k177 (by omega) (by omega) (by decide) (by decide) (by decide) (by decide) (by omega)
theorem k177_d {a : Nat} (h : a ≤ 200) : d_177 (zI (a : Nat)) 0 200 = some () := by rw [zl_0, show (200 : Int32) = zI 200 from rfl]; exact k177 (by omega) (by omega) (by decide) (by decide) (by decide) (by decide) (by omega)
theorem k180 (h : iGam k m r W H) (h4 : r 4 = 0) : d_180 20 m = some () := by
  unfold d_180
  rw [k_r1, (iG_s h).2.2.1, h4, if_pos (show zI 0 = 0 from rfl)]
/-- numbers -/
theorem a125_0 (h : iGam k m r W H) : d_125 20 0 m = some (zI (W : Nat)) := by
  unfold d_125
  rw [if_pos rfl, now_r, h.2.2.1.1.1]
theorem a125_1 (h : iGam k m r W H) : d_125 20 1 m = some (zI (H : Nat)) := by
  unfold d_125
  rw [if_neg (by decide), if_pos rfl, now_r, h.2.2.1.1.2.1]
theorem a125_2 (h : iGam k m r W H) : d_125 20 2 m = some (zI (r 2)) := by
  unfold d_125
  rw [if_neg (by decide), if_neg (by decide), if_pos rfl, k_r1, (iG_s h).1]
theorem a125_3 (h : iGam k m r W H) : d_125 20 3 m = some (zI (r 3)) := by
  unfold d_125
  rw [if_neg (by decide), if_neg (by decide), if_neg (by decide), if_pos rfl, k_r1, (iG_s h).2.1]
theorem a125_4 (h : iGam k m r W H) : d_125 20 4 m = some (zI (r 4)) := by
  unfold d_125
  rw [if_neg (by decide), if_neg (by decide), if_neg (by decide), if_neg (by decide), if_pos rfl, k_r1, (iG_s h).2.2.1]
theorem a125_7 (h : iGam k m r W H) : d_125 20 7 m = some (zI (r 7)) := by
  unfold d_125
  rw [if_neg (by decide), if_neg (by decide), if_neg (by decide), if_neg (by decide), if_neg (by decide), if_neg (by decide), if_neg (by decide), if_pos rfl, k_r1, (iG_s h).2.2.2.2.2.1]
theorem a125_11 (h : iGam k m r W H) : d_125 20 11 m = some (zI (r 11)) := by
  unfold d_125
  rw [if_neg (by decide), if_neg (by decide), if_neg (by decide), if_neg (by decide), if_neg (by decide), if_neg (by decide), if_neg (by decide), if_neg (by decide), if_neg (by decide), if_neg (by decide), if_neg (by decide), if_pos rfl, log_a, (show m 40 2 = zI (r 11) from h.2.2.2.2.2.2.1.2.1)]
theorem a125_12 (h : iGam k m r W H) : d_125 20 12 m = some (zI (r 12)) := by
  unfold d_125
  rw [if_neg (by decide), if_neg (by decide), if_neg (by decide), if_neg (by decide), if_neg (by decide), if_neg (by decide), if_neg (by decide), if_neg (by decide), if_neg (by decide), if_neg (by decide), if_neg (by decide), if_neg (by decide), if_pos rfl, log_s, (show m 38 2 = zI (r 12) from h.2.2.2.2.2.1.2.1)]
theorem a125_13 (h : iGam k m r W H) : d_125 20 13 m = some (zI (r 13)) := by
  unfold d_125
  rw [if_neg (by decide), if_neg (by decide), if_neg (by decide), if_neg (by decide), if_neg (by decide), if_neg (by decide), if_neg (by decide), if_neg (by decide), if_neg (by decide), if_neg (by decide), if_neg (by decide), if_neg (by decide), if_neg (by decide), if_pos rfl, log_s, (show m 38 1 = zI (r 13) from h.2.2.2.2.2.1.1)]
theorem a125_14 (h : iGam k m r W H) : d_125 20 14 m = some (zI (r 14)) := by
  unfold d_125
  rw [if_neg (by decide), if_neg (by decide), if_neg (by decide), if_neg (by decide), if_neg (by decide), if_neg (by decide), if_neg (by decide), if_neg (by decide), if_neg (by decide), if_neg (by decide), if_neg (by decide), if_neg (by decide), if_neg (by decide), if_neg (by decide), if_pos rfl, log_a, (show m 40 1 = zI (r 14) from h.2.2.2.2.2.2.1.1)]
theorem a125_15 : d_125 20 15 m = some (m 80 2) := by
  unfold d_125
  rw [if_neg (by decide), if_neg (by decide), if_neg (by decide), if_neg (by decide), if_neg (by decide), if_neg (by decide), if_neg (by decide), if_neg (by decide), if_neg (by decide), if_neg (by decide), if_neg (by decide), if_neg (by decide), if_neg (by decide), if_neg (by decide), if_neg (by decide), if_pos rfl, k_r5]
theorem a126 (h : iGam k m r W H) {s : Nat} (hs : s ≤ 1) : d_126 20 (zI (s : Nat)) m = some (zI (r (15 + s))) := by
  unfold d_126
  rw [k175 hs, obs, k_r1, c52 h.2.2 hs, obs]
theorem a127 (h : iGam k m r W H) {s x y : Nat} (hs : s ≤ 1) (hx : x < W) (hy : y < H) : d_127 20 (zI (s : Nat)) (zI (x : Nat)) (zI (y : Nat)) m = some (zI (r (24 + 64 * s + (x + W * y)) - 1)) := by
  obtain ⟨w1, w2, w3, w4⟩ := iG_w h
  unfold d_127
  rw [k175 hs, obs, k178 h hx hy, obs, k_r1, c51 gA_23 hs, obs, k12, obs, (iG_a hs).1, c17 (iG_a hs).2 (by omega), (iG_f h hs).on ⟨w1, w2, w3, w4⟩ hx hy, obs]
theorem a128 (h : iGam k m r W H) {s c x y X Y : Nat} (hs : s ≤ 1) (hc : c ≤ 1) (hx : x < W) (hy : y < H) (hX : X < W) (hY : Y < H) : d_128 20 (zI (s : Nat)) (zI (c : Nat)) (zI (x : Nat)) (zI (y : Nat)) (zI (X : Nat)) (zI (Y : Nat)) m = some (mv W (fun d => r (24 + 64 * s + d)) c x y X Y) := by
  obtain ⟨w1, w2, w3, w4⟩ := iG_w h
  have al : alw W H (fun d => r (24 + 64 * s + d)) c x y X Y = mv W (fun d => r (24 + 64 * s + d)) c x y X Y := by
    unfold alw; rw [decide_eq_true ⟨hx, hy, hX, hY⟩, Bool.true_and]
  unfold d_128
  rw [k175 hs, obs, k175 hc, obs, k179 h hx hy hX hY, obs, k_r1, c51 gA_23 hs, obs, k12, obs, k12, obs, (iG_a hs).1, c21 (iG_a hs).2 (iG_f h hs) (iG_w h) (iG_b h hs).1 (by omega) (by omega) (by omega) (by omega) (by omega) (by omega), obs, al]
theorem Qe.layc {l : List (Nat × Nat)} : Qe m (layc W m l) := fun a ha => layc_ne (by unfold core at ha; omega)
theorem a129 (h : iGam k m r W H) {s c : Nat} (hs : s ≤ 1) (hc : c ≤ 1) : An (d_129 20 (zI (s : Nat)) (zI (c : Nat)) m) (fun p => p.1 = zI ((ml W H (fun d => r (24 + 64 * s + d)) c).length : Nat) ∧ Qe m p.2) := by
  unfold d_129
  rw [k175 hs, obs, k175 hc, obs, k_r1, k_r7, c51 gA_23 hs, obs, (iG_a hs).1, c75 (iG_a hs).2 (by omega) (iG_f h hs) (iG_w h) (iG_b h hs).1 (by omega) (by omega) (ml_837 (iG_w h) (iG_b h hs) (s01 hc)), obs, layc_sz]
  exact An.so ⟨rfl, Qe.layc⟩
theorem a132 (h : iGam k m r W H) {s : Nat} (hs : s ≤ 1) {c : Nat} (hc : c ≤ 1) {i w : Nat} (hi : i < (ml W H (fun d => r (24 + 64 * s + d)) c).length) (hw : w ≤ 3) {m0 : Mm} (hl : LC W m0 (ml W H (fun d => r (24 + 64 * s + d)) c)) (hq : Qe m m0) :
    An (d_132 20 (23 + 1 + 5 * s + 1) (zI (c : Nat)) (zI (i : Nat)) (zI (w : Nat)) m0) (fun q => q.1 = zI (pt W H (fun d => r (24 + 64 * s + d)) c ((ml W H (fun d => r (24 + 64 * s + d)) c).getD i (0, 0)) w) ∧ Qe m q.2) := by
  have h0 := h.q hq
  have e := c132 h0.1 (iG_a hs).2 (by omega) (by omega) (iG_f h0 hs) (iG_w h) (iG_b h hs).1 (s := (c : Nat)) (by omega) (by omega) (ml_837 (iG_w h) (iG_b h hs) (s01 hc)) hl (k := i) hi (what := (w : Nat)) (by omega) (by omega)
  exact e.mp (fun q ⟨a1, a2⟩ => ⟨a1, hq.tr (Qe.of (fun a ha => a2 a (by omega) (by omega)))⟩)
theorem a130 (h : iGam k m r W H) {s c i w : Nat} (hs : s ≤ 1) (hc : c ≤ 1) (hi : i < (ml W H (fun d => r (24 + 64 * s + d)) c).length) (hw : w ≤ 3) : An (d_130 20 (zI (s : Nat)) (zI (c : Nat)) (zI (i : Nat)) (zI (w : Nat)) m) (fun p => p.1 = zI (pt W H (fun d => r (24 + 64 * s + d)) c ((ml W H (fun d => r (24 + 64 * s + d)) c).getD i (0, 0)) w) ∧ Qe m p.2) := by
  have hB := ml_837 (iG_w h) (iG_b h hs) (s01 hc)
  unfold d_130
  rw [k175 hs, obs, k175 hc, obs, k_r1, k_r7, c51 gA_23 hs, obs, (iG_a hs).1, c75 (iG_a hs).2 (by omega) (iG_f h hs) (iG_w h) (iG_b h hs).1 (by omega) (by omega) hB, obs, layc_sz, k176 hi (by omega), obs, k177_3 hw, obs]
  exact (a132 h hs hc hi hw LC_lay Qe.layc).bd (fun p hp => An.so hp)
theorem tS_f (h : iGam k m r W H) : tS r ≤ 1 ∧ r 3 = (tS r : Nat) ∧ tS r + (1 - tS r) = 1 := by
  have := h.2.1.2.2.1
  unfold tS
  omega
/-- the ranked move: its place -/
noncomputable def rkp (W H : Nat) (b : Nat → Int) (s : Int) (v : Nat) : Nat × Nat := (ml W H b s).getD (pl (ml W H b s).length (wl W H b s (ml W H b s)) (v : Nat)) (0, 0)
theorem a131 (h : iGam k m r W H) {v w : Nat} (hv : v < (ml W H (fun d => r (24 + 64 * tS r + d)) (tS r : Nat)).length) (hw : w ≤ 3) : An (d_131 20 (zI (v : Nat)) (zI (w : Nat)) m) (fun p => p.1 = zI (pt W H (fun d => r (24 + 64 * tS r + d)) (tS r : Nat) (rkp W H (fun d => r (24 + 64 * tS r + d)) (tS r : Nat) v) w) ∧ Qe m p.2) := by
  obtain ⟨s1, s2, s3⟩ := tS_f h
  have hB := ml_837 (iG_w h) (iG_b h s1) (s01 s1)
  have e6 : m 23 6 = zI (tS r : Nat) := by rw [(iG_s h).2.1, s2]
  unfold rkp
  generalize hl : ml W H (fun d => r (24 + 64 * tS r + d)) (tS r : Nat) = l at hB hv ⊢
  have e75 : d_75 237 (23 + 1 + 5 * tS r + 1) (zI (tS r : Nat)) m = some (layc W m l) := by
    rw [← hl]; exact c75 (iG_a s1).2 (by omega) (iG_f h s1) (iG_w h) (iG_b h s1).1 (by omega) (by omega) (by rw [hl]; exact hB)
  unfold d_131
  rw [k_r1, k_r7, e6, c51 gA_23 s1, obs, (iG_a s1).1, e75, obs, layc_sz, k176 hv (by omega), obs, k177_3 hw, obs]
  have h2 := h.q (Qe.layc (W := W) (l := l))
  have e62 : layc W m l 23 6 = zI (tS r : Nat) := by rw [layc_ne (by decide)]; exact e6
  rw [e62]
  obtain ⟨m8, e8, h81, h82⟩ := c80 h2.1 (iG_a s1).2 (by omega) (by omega) (iG_f h2 s1) (iG_w h) (iG_b h s1).1 (s := (tS r : Nat)) (by omega) (by omega) (by rw [hl]; exact hB) (by rw [hl]; exact LC_lay)
  rw [hl] at h81
  have q8 : Qe m m8 := Qe.layc.tr (Qe.of (fun a ha => h82 a (by omega) (by omega) (by omega)))
  have h8 := h.q q8
  rw [e8, obs]
  have l8 : m8 237 4 = zI (l.length : Nat) := by rw [h82 237 (by decide) (by decide) (by decide)]; exact layc_sz
  have hv0 : (0 : Int) ≤ (v : Nat) := by omega
  have hv1 : ((v : Nat) : Int) < (l.length : Nat) := by omega
  rw [c81 hB (wl_rg _ _ _) l8 h81 hv0 hv1, obs, show m8 23 6 = zI (tS r : Nat) by rw [q8.lo (by decide)]; exact e6]
  have lc8 : LC W m8 l := LC_lay.mm (h82 237 (by decide) (by decide) (by decide)) (h82 238 (by decide) (by decide) (by decide)) (h82 239 (by decide) (by decide) (by decide))
  have hp := pl_lt (w := wl W H (fun d => r (24 + 64 * tS r + d)) (tS r : Nat) l) hv0 hv1
  have q := a132 h s1 s1 (i := pl l.length (wl W H (fun d => r (24 + 64 * tS r + d)) (tS r : Nat) l) (v : Nat)) (by rw [hl]; exact hp) hw (by rw [hl]; exact lc8) q8
  rw [hl] at q
  exact q.bd (fun p hp => An.so hp)
theorem a134 (h : iGam k m r W H) {s c : Nat} (hs : s ≤ 1) (hc : c ≤ 1) : d_134 20 (zI (s : Nat)) (zI (c : Nat)) m = some (kx W H (fun d => r (24 + 64 * s + d)) c) := by
  unfold d_134
  rw [k175 hs, obs, k175 hc, obs, k_r1, c51 gA_23 hs, obs, (iG_a hs).1, c30 (iG_a hs).2 (iG_f h hs) (iG_w h) (iG_b h hs).1 (by omega) (by omega), obs]
theorem a136 (h : iGam k m r W H) {s : Nat} (hs : s ≤ 1) : d_136 20 (zI (s : Nat)) m = some (zI (tot (W * H) (fun d => r (24 + 64 * s + d)))) := by
  unfold d_136
  rw [k175 hs, obs, k_r1, c51 gA_23 hs, obs, (iG_a hs).1, c33 (iG_a hs).2 (iG_f h hs) (iG_w h) (iG_b h hs).1, obs]
end AA
