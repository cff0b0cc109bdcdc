/-! A sending, and a move told, by the class. -/
section CX
variable {m : Mm} {W H g : Nat} {r : Nat → Int}
theorem rdx_3 {s q : Nat} {l : Nat → Nat} (h : rdx W H r s q l = 3) : r (17 + q) = (s : Int) := by
  by_cases ho : okm W H l
  · rw [rdx_y ho] at h
    unfold rd0 at h
    by_cases q1 : (l 0 : Int) = 1 + r (9 + q) % 2
    · rw [if_pos q1] at h
      split at h <;> omega
    · rw [if_neg q1] at h
      by_cases q2 : r (9 + q) = 0
      · rw [if_pos q2] at h; omega
      · rw [if_neg q2] at h
        by_cases q3 : r (17 + q) = (s : Int)
        · exact q3
        · rw [if_pos q3] at h; omega
  · rw [rdx_n ho] at h; omega
/-- the row behind a sending that the clock lasts for; w is what was waited ahead -/
noncomputable def stw (W H : Nat) (r : Nat → Int) (s q x y X Y : Nat) (w : Int) : Nat → Int :=
  rfo W H (rls (rsp r s (w + ftk W H r s q x y X Y (r 2 + w))) (svs W H r s q x y X Y (r 2 + w))) q s (frd W H r s q x y X Y (r 2 + w)) (sx (fl r s x y X Y (r 2 + w))) (sy (fl r s x y X Y (r 2 + w))) (sX (fl r s x y X Y (r 2 + w))) (sY (fl r s x y X Y (r 2 + w)))
/-- what a move told comes to: what is answered, and the row -/
noncomputable def pls (W H s q x y X Y : Nat) : Nat → Nat → (Nat → Int) → Int × (Nat → Int)
  | 0, _, r => (0, r)
  | n + 1, j, r =>
    if (if j = 1 then 0 else r 6) + ftk W H r s q x y X Y (r 2 + (if j = 1 then 0 else r 6)) < r (15 + s) then
      if fia W H r s q x y X Y (r 2 + (if j = 1 then 0 else r 6)) = true then ((j : Nat), rfn W H (stw W H r s q x y X Y (if j = 1 then 0 else r 6)) s x y X Y (j : Nat))
      else pls W H s q x y X Y n (j + 1) (stw W H r s q x y X Y (if j = 1 then 0 else r 6))
    else (-1, rtm r s)
theorem frd_i {s q x y X Y : Nat} {t : Int} (h : frd W H r s q x y X Y t ≠ 0) : sx (fl r s x y X Y t) < W ∧ sy (fl r s x y X Y t) < H ∧ sX (fl r s x y X Y t) < W ∧ sY (fl r s x y X Y t) < H :=
  let h := okm_c (rdx_mv h).1
  ⟨h.1, h.2.1, h.2.2.1, h.2.2.2.1⟩
theorem ftk_r {K : Int} (hR : RG K r W H) {s q x y X Y : Nat} (hq : q ≤ 1) (hx : x < W) (hy : y < H) (hX : X < W) (hY : Y < H) {t : Int} : 0 ≤ ftk W H r s q x y X Y t ∧ ftk W H r s q x y X Y t ≤ 100 := by
  have h1 := fan_r hR (s := s) (q := q) (x := x) (y := y) (X := X) (Y := Y) (t := t) hq
  obtain ⟨⟨-, -, w1, w2, w3, w4⟩, -, -, -, h5, -⟩ := hR
  have hl : flen r s x y X Y ≤ 84 := gs_le (fun k _ => fG_le (by omega) (by omega) (by omega) (by omega) k) (by omega) 6 (Nat.le_refl _)
  unfold ftk
  omega
/-- what a sending leaves as it was -/
theorem stw_n {s q x y X Y : Nat} {w : Int} {j : Nat} (h2 : j ≠ 2) (hc : j ≠ 15 + s) (hL : ¬ pL j) (hB : ¬ pB q j) : stw W H r s q x y X Y w j = r j := by
  unfold stw rfo
  have e : rls (rsp r s (w + ftk W H r s q x y X Y (r 2 + w))) (svs W H r s q x y X Y (r 2 + w)) j = r j := by
    rw [rls_n hL]
    unfold rsp
    rw [if_neg h2, if_neg hc]
  split
  · rw [rb1_n hB]; exact e
  · split
    · rw [rb3_n hB]; exact e
    · exact e
theorem rls_s {s : Nat} (hs : s ≤ 1) {d : Int} {vs : Nat → Int} : rls (rsp r s d) vs 2 = r 2 + d ∧ rls (rsp r s d) vs (15 + s) = r (15 + s) - d := by
  rw [rls_n (by unfold pL; omega), rls_n (by unfold pL; omega)]
  unfold rsp
  exact ⟨if_pos rfl, by rw [if_neg (by omega), if_pos rfl]⟩
theorem stw_t {s q x y X Y : Nat} (hs : s ≤ 1) (hq : q ≤ 1) {w : Int} : stw W H r s q x y X Y w 2 = r 2 + (w + ftk W H r s q x y X Y (r 2 + w)) ∧ stw W H r s q x y X Y w (15 + s) = r (15 + s) - (w + ftk W H r s q x y X Y (r 2 + w)) := by
  unfold stw rfo
  split
  · rw [rb1_n (by unfold pB; omega), rb1_n (by unfold pB; omega)]; exact rls_s hs
  · split
    · rw [rb3_n (by unfold pB; omega), rb3_n (by unfold pB; omega)]; exact rls_s hs
    · exact rls_s hs
theorem rls_9 {s q : Nat} (hs : s ≤ 1) (hq : q ≤ 1) {d : Int} {vs : Nat → Int} : rls (rsp r s d) vs (9 + q) = r (9 + q) := by
  rw [rls_n (by unfold pL; omega)]
  unfold rsp
  rw [if_neg (by omega), if_neg (by omega)]
theorem stw_9 {s q x y X Y : Nat} (hs : s ≤ 1) (hq : q ≤ 1) {w : Int} : stw W H r s q x y X Y w (9 + q) ≤ r (9 + q) + 1 := by
  unfold stw rfo
  split
  · rw [(rb1_c hq).1, rls_9 hs hq]; omega
  · split
    · rw [(rb3_c hq).1, rls_9 hs hq]; omega
    · rw [rls_9 hs hq]; omega
theorem stw_R {K : Int} (hR : RG K r W H) {s q x y X Y : Nat} (hs : s + q = 1) {w : Int} (w0 : 0 ≤ w) (hx : x < W) (hy : y < H) (hX : X < W) (hY : Y < H) (hc : w + ftk W H r s q x y X Y (r 2 + w) < r (15 + s)) (ht : r 2 + r (15 + s) ≤ 10000 * K) (hC : r (9 + q) + 1 ≤ 20 * K) : RG K (stw W H r s q x y X Y w) W H := by
  have tk := ftk_r hR (s := s) (q := q) (by omega) hx hy hX hY (t := r 2 + w)
  have h1 : RG K (rsp r s (w + ftk W H r s q x y X Y (r 2 + w))) W H := hR.sp (by omega) (by omega) (by omega) (by omega)
  have h2 : RG K (rls (rsp r s (w + ftk W H r s q x y X Y (r 2 + w))) (svs W H r s q x y X Y (r 2 + w))) W H := h1.ls
  unfold stw
  refine h2.fo (by omega) (by omega) (by rw [rls_9 (by omega) (by omega)]; exact hC) (fun e => frd_i (W := W) (H := H) (r := r) (s := s) (q := q) (x := x) (y := y) (X := X) (Y := Y) (t := r 2 + w) (by omega))
theorem c60s (hg : gA g) (hg2 : g + 18 < 234) (h : GR m g r W H) {K : Int} (hK : K ≤ 520) (hR : RG K r W H) {s q : Nat} (hs : s + q = 1) (h3 : r 3 = s) {x y X Y : Nat} (hx : x < W) (hy : y < H) (hX : X < W) (hY : Y < H) {w : Int} (w0 : 0 ≤ w) (w9 : w ≤ 9) (ht : r 2 + r (15 + s) ≤ 10000 * K) (hC : r (9 + q) + 1 ≤ 20 * K) (hC2 : r (9 + s) + 1 ≤ 20 * K) {j : Nat} (j1 : 1 ≤ j) (j9 : j ≤ 9) :
    An (d_60_38 g 234 (zI ((x + 8 * y : Nat) : Int)) (zI ((X + 8 * Y : Nat) : Int)) (zI (j : Nat)) (zI w) m) (fun v => ∃ M, v = (if w + ftk W H r s q x y X Y (r 2 + w) < r (15 + s) then (if fia W H r s q x y X Y (r 2 + w) = true then .inr (zI (j : Nat), M) else .inl (zI ((j + 1 : Nat) : Int), M)) else .inr (zI (-1), M)) ∧
      GR M g (if w + ftk W H r s q x y X Y (r 2 + w) < r (15 + s) then (if fia W H r s q x y X Y (r 2 + w) = true then rfn W H (stw W H r s q x y X Y w) s x y X Y (j : Nat) else stw W H r s q x y X Y w) else rtm r s) W H ∧ ∀ a, a < g ∨ (g + 18 < a ∧ a < 234) ∨ 236 < a → M a = m a) := by
  obtain ⟨hW, hrS, hrB, hrF, hr13, hrA⟩ := RG.iff.mp hR
  have hw := hW.2.2
  have hk := hR.rok
  have tk := ftk_r hR (s := s) (q := q) (by omega) hx hy hX hY (t := r 2 + w)
  have hcl := hrS.2.2.2.2.2.2 s (by omega)
  have ht2 := hrS.1
  obtain ⟨w1, w2, w3, w4⟩ := hW.2.2
  have e5 : m g 5 = zI (r 2) := h.2.2.2.2.2.1
  unfold d_60_38
  rw [e5, zI_add]
  simp only [wbs]
  refine (c59 hg hg2 h hK hR hs h3 (t := r 2 + w) (by omega) (by omega) hx hy hX hY).bd (fun m3 hm3 => ?_)
  obtain ⟨S3, f3⟩ := hm3
  have g3 : GR m3 g r W H := h.mm (fun a a1 a2 => f3 a (by omega))
  rw [S3.2.2.2.2.2.1, zI_add]
  refine (c58 g3 hw hk (s := s) (by omega) h3 hcl (by omega) (d := w + ftk W H r s q x y X Y (r 2 + w)) (by omega) (by omega)).bd (fun r4 hr4 => ?_)
  obtain ⟨b4, g4, f4⟩ := hr4
  rw [b4]
  by_cases qc : w + ftk W H r s q x y X Y (r 2 + w) < r (15 + s)
  · rw [decide_eq_true qc, if_pos rfl]
    rw [if_pos qc] at g4
    have hR4 : RG K (rsp r s (w + ftk W H r s q x y X Y (r 2 + w))) W H := hR.sp (by omega) (by omega) (by omega) (by omega)
    have S4 : SN r4.2 W H r s q x y X Y (r 2 + w) := S3.mm (fun a a1 a2 => f4 a (by omega))
    have r3' : rsp r s (w + ftk W H r s q x y X Y (r 2 + w)) 3 = s := by
      unfold rsp
      rw [if_neg (by decide), if_neg (by omega)]; exact h3
    refine (c61 hg hg2 g4 hw hR4.rok (RG.iff.mp hR4).2.2.2.2.1.1 r3' S4).bd (fun m5 hm5 => ?_)
    obtain ⟨g5, f5⟩ := hm5
    have hR5 : RG K (rls (rsp r s (w + ftk W H r s q x y X Y (r 2 + w))) (svs W H r s q x y X Y (r 2 + w))) W H := hR4.ls
    have S5 : SN m5 W H r s q x y X Y (r 2 + w) := S4.mm (fun a a1 a2 => f5 a (by omega) (by omega))
    have e6 : m5 g 6 = zI (s : Nat) := by
      rw [g5.2.2.2.2.2.2.1, rls_n (by unfold pL; omega), r3']
    have eq : zI 1 - zI (s : Nat) = zI (q : Nat) := by rw [zI_sub]; congr 1; omega
    rw [e6, z1n, show zI ((1 : Nat) : Int) - zI (s : Nat) = zI (q : Nat) from eq, c51 hg (by omega)]
    simp only [obs]
    rw [c90 S5.2.2.2.2.2.2.2, c91 S5.2.2.2.2.2.2.2]
    simp only [obs]
    rw [S5.2.1]
    have rr := rdx_r (W := W) (H := H) (r := r) (s := s) (q := q) (l := fl r s x y X Y (r 2 + w))
    have rr' : 0 ≤ frd W H r s q x y X Y (r 2 + w) ∧ frd W H r s q x y X Y (r 2 + w) ≤ 3 := rr
    obtain ⟨-, -, hB5, -⟩ := RG.iff.mp hR5
    have bq := hB5 q (by omega)
    refine (c8g hg g5 hw hR5.rok (q := q) (s := s) (by omega) bq.2.2.2.1.1 bq.2.2.2.2.1 rr'.1 rr'.2 (fun e => ?_) (x := sx (fl r s x y X Y (r 2 + w))) (y := sy (fl r s x y X Y (r 2 + w))) (X := sX (fl r s x y X Y (r 2 + w))) (Y := sY (fl r s x y X Y (r 2 + w))) (fun e => ?_)).bd (fun m10 hm10 => ?_)
    · rw [rls_n (by unfold pL; omega)]
      unfold rsp
      rw [if_neg (by omega), if_neg (by omega)]
      exact rdx_3 e
    · have ne : frd W H r s q x y X Y (r 2 + w) ≠ 0 := by omega
      obtain ⟨o1, o2, o3, o4, o5, o6, o7, o8⟩ := okm_c (rdx_mv ne).1
      exact ⟨⟨o1, o2, o3, o4⟩, by omega, by omega⟩
    obtain ⟨g10, f10⟩ := hm10
    change GR m10 g (stw W H r s q x y X Y w) W H at g10
    have fr : ∀ a, a < g ∨ (g + 18 < a ∧ a < 234) ∨ 236 < a → m10 a = m a := fun a ha => by rw [f10 a (by omega), f5 a (by omega) (by omega), f4 a (by omega), f3 a (by omega)]
    have e10 : m10 234 6 = bi (fia W H r s q x y X Y (r 2 + w)) := by rw [f10 234 (by omega)]; exact S5.2.2.2.2.1
    rw [e10, zbb]
    simp only [if_pos qc]
    by_cases qi : fia W H r s q x y X Y (r 2 + w) = true
    · simp only [if_pos qi]
      unfold d_60_117
      have hRs := stw_R hR hs w0 hx hy hX hY qc ht hC
      have s3 : stw W H r s q x y X Y w 3 = s := by
        rw [stw_n (by decide) (by omega) (by unfold pL; omega) (by unfold pB; omega)]; exact h3
      refine An.mo ((c62 hg g10 hRs (s := s) (by omega) s3 hx hy hX hY (times := (j : Nat))).bd (fun m13 hm13 => ?_))
      obtain ⟨g13, f13⟩ := hm13
      exact An.so ⟨m13, rfl, g13, fun a ha => by rw [f13 a (by omega)]; exact fr a ha⟩
    · simp only [if_neg qi]
      rw [zI_add]
      exact An.so ⟨m10, rfl, g10, fr⟩
  · rw [decide_eq_false qc, if_neg (by decide), show (-1 : Int32) = zI (-1) from by decide]
    simp only [if_neg qc]
    rw [if_neg qc] at g4
    exact An.so ⟨r4.2, rfl, g4, fun a ha => by rw [f4 a (by omega), f3 a (by omega)]⟩
theorem c60 (hg : gA g) (hg2 : g + 18 < 234) {K : Int} (hK : K ≤ 520) {s q : Nat} (hs : s + q = 1) {x y X Y : Nat} (hx : x < W) (hy : y < H) (hX : X < W) (hY : Y < H) :
    ∀ (n j : Nat) (m : Mm) (r : Nat → Int), GR m g r W H → RG K r W H → r 3 = s → 1 ≤ j → (j : Int) + n = r 7 + 1 → r 2 + r (15 + s) ≤ 10000 * K → r (9 + q) + n ≤ 20 * K → r (9 + s) + 1 ≤ 20 * K →
    An (d_60_15 g 234 (zI ((x + 8 * y : Nat) : Int)) (zI ((X + 8 * Y : Nat) : Int)) (zI (j : Nat)) m) (fun p => p.1 = zI (pls W H s q x y X Y n j r).1 ∧ GR p.2 g (pls W H s q x y X Y n j r).2 W H ∧ ∀ a, a < g ∨ (g + 18 < a ∧ a < 234) ∨ 236 < a → p.2 a = m a) := by
  intro n
  induction n with
  | zero =>
    intro j m r h hR h3 j1 j7 ht hC hC2
    have h7 := (RG.iff.mp hR).2.1.2.2.2.2.2.1
    have e10 : m g 10 = zI (r 7) := h.2.2.2.2.2.2.2.2.2.2.1
    refine ⟨(0, m), ?_, rfl, h, fun _ _ => rfl⟩
    unfold d_60_15
    refine it_r ?_
    show s_60_15 g 234 _ _ (zI (j : Nat)) m = _
    unfold s_60_15
    rw [e10, if_pos (by rw [zI_lt (by omega) (by omega) (by omega) (by omega)]; omega)]
  | succ n ih =>
    intro j m r h hR h3 j1 j7 ht hC hC2
    have hrS := (RG.iff.mp hR).2.1
    have h7 := hrS.2.2.2.2.2.1
    have h6 := hrS.2.2.2.2.1
    have e10 : m g 10 = zI (r 7) := h.2.2.2.2.2.2.2.2.2.2.1
    have e9 : m g 9 = zI (r 6) := h.2.2.2.2.2.2.2.2.2.1
    have st : s_60_15 g 234 (zI ((x + 8 * y : Nat) : Int)) (zI ((X + 8 * Y : Nat) : Int)) (zI (j : Nat)) m = d_60_38 g 234 (zI ((x + 8 * y : Nat) : Int)) (zI ((X + 8 * Y : Nat) : Int)) (zI (j : Nat)) (zI (if j = 1 then 0 else r 6)) m := by
      unfold s_60_15
      rw [e10, if_neg (by rw [zI_lt (by omega) (by omega) (by omega) (by omega)]; omega)]
      by_cases q1 : j = 1
      · rw [if_neg (by rw [q1]; exact fun e => e rfl), if_pos q1]; rfl
      · rw [if_pos (by rw [zl_1, zI_inj (by omega) (by omega) (by omega) (by omega)]; omega), if_neg q1, e9]
    have k := c60s hg hg2 h hK hR hs h3 hx hy hX hY (w := if j = 1 then 0 else r 6) (by split <;> omega) (by split <;> omega) ht (by omega) hC2 (j := j) j1 (by omega)
    obtain ⟨v, ev, M, hv, gM, fM⟩ := k
    rw [← st] at ev
    have tkr := ftk_r hR (s := s) (q := q) (by omega) hx hy hX hY (t := r 2 + (if j = 1 then 0 else r 6))
    unfold d_60_15 pls
    generalize hw : (if j = 1 then 0 else r 6) = w at *
    have w0 : 0 ≤ w := by rw [← hw]; split <;> omega
    by_cases qc : w + ftk W H r s q x y X Y (r 2 + w) < r (15 + s)
    · simp only [if_pos qc] at hv gM ⊢
      by_cases qi : fia W H r s q x y X Y (r 2 + w) = true
      · simp only [if_pos qi] at hv gM ⊢
        subst hv
        exact ⟨_, it_r ev, rfl, gM, fM⟩
      · simp only [if_neg qi] at hv gM ⊢
        subst hv
        have hRs := stw_R hR hs w0 hx hy hX hY qc ht (by omega)
        have s3 : stw W H r s q x y X Y w 3 = s := by
          rw [stw_n (by decide) (by omega) (by unfold pL; omega) (by unfold pB; omega)]; exact h3
        have s7 : stw W H r s q x y X Y w 7 = r 7 := stw_n (by decide) (by omega) (by unfold pL; omega) (by unfold pB; omega)
        have s9 : stw W H r s q x y X Y w (9 + s) = r (9 + s) := stw_n (by omega) (by omega) (by unfold pL; omega) (by unfold pB; omega)
        have sq := stw_9 (W := W) (H := H) (r := r) (s := s) (q := q) (x := x) (y := y) (X := X) (Y := Y) (w := w) (by omega) (by omega)
        obtain ⟨t1, t2⟩ := stw_t (W := W) (H := H) (r := r) (s := s) (q := q) (x := x) (y := y) (X := X) (Y := Y) (w := w) (by omega) (by omega)
        obtain ⟨p, ep, p1, p2, p3⟩ := ih (j + 1) M (stw W H r s q x y X Y w) gM hRs s3 (by omega) (by rw [s7]; omega) (by rw [t1, t2]; omega) (by omega) (by rw [s9]; exact hC2)
        exact ⟨p, it_l ev ep, p1, p2, fun a ha => by rw [p3 a ha, fM a ha]⟩
    · simp only [if_neg qc] at hv gM ⊢
      subst hv
      exact ⟨_, it_r ev, rfl, gM, fM⟩
end CX
