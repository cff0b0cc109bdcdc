/-! A move told: what the row that it comes to shows. -/
section LD
variable {r ρ : Nat → Int} {W H : Nat}
/-- of one sending: no more was seen than was shown -/
def s1I (v : Nat → Int) : Prop := (0 ≤ v 3 ∧ v 3 ≤ v 2 ∧ v 2 ≤ 100) ∧ (0 ≤ v 6 ∧ v 6 ≤ v 5 ∧ v 5 ≤ 100)
def SI (r : Nat → Int) : Prop := (0 ≤ r 13 ∧ r 13 ≤ 20) ∧ ∀ k : Nat, (k : Int) < r 13 → s1I (fun j => r (304 + 8 * k + j))
theorem s1I.cg {v v' : Nat → Int} (h : s1I v) (e : ∀ j, j < 8 → v' j = v j) : s1I v' := by
  unfold s1I at *
  rw [e 3 (by decide), e 2 (by decide), e 6 (by decide), e 5 (by decide)]
  exact h
theorem SI.cg (h : SI r) (e : ∀ j, pL j → ρ j = r j) : SI ρ := by
  obtain ⟨h1, h2⟩ := h
  unfold SI
  rw [e 13 (by unfold pL; omega)]
  exact ⟨h1, fun k hk => (h2 k hk).cg (fun j hj => e _ (by unfold pL; omega))⟩
theorem stw_L {s q x y X Y : Nat} (hq : q ≤ 1) {w : Int} {j : Nat} (hL : pL j) : stw W H r s q x y X Y w j = rls (rsp r s (w + ftk W H r s q x y X Y (r 2 + w))) (svs W H r s q x y X Y (r 2 + w)) j := by
  unfold stw
  exact rfo_n (by unfold pL at hL; unfold pB; omega)
theorem rsp_L {s : Nat} (hs : s ≤ 1) {d : Int} {j : Nat} (hL : pL j) : rsp r s d j = r j := by
  unfold pL at hL
  unfold rsp
  rw [if_neg (by omega), if_neg (by omega)]
theorem rls_12 {vs : Nat → Int} : rls r vs 12 = r 12 + 1 := by
  unfold rls
  rw [if_neg (by decide), if_pos rfl]
theorem rls_13 {vs : Nat → Int} : rls r vs 13 = if r 13 = 20 then 20 else r 13 + 1 := by
  unfold rls
  rw [if_pos rfl]
theorem rla_11 {vs : Nat → Int} : rla r vs 11 = r 11 + 1 := by
  unfold rla
  rw [if_neg (by decide), if_pos rfl]
theorem rla_14 {vs : Nat → Int} : rla r vs 14 = if r 14 = 20 then 20 else r 14 + 1 := by
  unfold rla
  rw [if_pos rfl]
theorem SI.rls {vs : Nat → Int} (h : SI r) (hv : s1I vs) : SI (rls r vs) := by
  obtain ⟨h1, h2⟩ := h
  unfold SI
  rw [rls_13]
  refine ⟨by split <;> omega, fun k hk => ?_⟩
  have k20 : k < 20 := by split at hk <;> omega
  have e : ∀ j, j < 8 → _ := fun j hj => rls_at (r := r) (vs := vs) (k := k) (j := j) h1.2 k20 hj
  by_cases q : k = (if r 13 = 20 then 19 else (r 13).toNat)
  · refine hv.cg (fun j hj => ?_)
    rw [e j hj, if_pos q]
  · by_cases q2 : r 13 = 20
    · rw [if_pos q2] at q hk
      refine (h2 (k + 1) (by omega)).cg (fun j hj => ?_)
      rw [e j hj, if_pos q2, if_neg q, if_pos q2]
    · rw [if_neg q2] at q hk
      refine (h2 k (by omega)).cg (fun j hj => ?_)
      rw [e j hj, if_neg q2, if_neg q, if_neg q2]
theorem fo_6 {f g : Nat → Nat} (h : ∀ k, f k ≤ g k ∧ g k ≤ 9) : fo (fun i v => v + f i) 6 0 ≤ fo (fun i v => v + g i) 6 0 ∧ fo (fun i v => v + g i) 6 0 ≤ 54 := by
  have h0 := h 0
  have h1 := h 1
  have h2 := h 2
  have h3 := h 3
  have h4 := h 4
  have h5 := h 5
  show 0 + f 0 + f 1 + f 2 + f 3 + f 4 + f 5 ≤ 0 + g 0 + g 1 + g 2 + g 3 + g 4 + g 5 ∧ 0 + g 0 + g 1 + g 2 + g 3 + g 4 + g 5 ≤ 54
  omega
theorem svs_I {K : Int} (hR : RG K r W H) {s q x y X Y : Nat} (hq : q ≤ 1) (hx : x < 8) (hy : y < 8) (hX : X < 8) (hY : Y < 8) {t : Int} : s1I (svs W H r s q x y X Y t) := by
  have f := fan_r hR (s := s) (q := q) (x := x) (y := y) (X := X) (Y := Y) hq (t := t)
  have g := fo_6 (f := fun i => fl r s x y X Y t i) (g := fun i => fG r s x y X Y i) (fun k => ⟨see_le, fG_le hx hy hX hY k⟩)
  have n : fsn W H r s q x y X Y t ≤ (fan W H r s q x y X Y t).toNat := see_le
  refine ⟨⟨?_, ?_, ?_⟩, ?_, ?_, ?_⟩
  · show (0 : Int) ≤ (fo (fun i v => v + fl r s x y X Y t i) 6 0 : Nat); omega
  · show ((fo (fun i v => v + fl r s x y X Y t i) 6 0 : Nat) : Int) ≤ (fo (fun i v => v + fG r s x y X Y i) 6 0 : Nat); omega
  · show ((fo (fun i v => v + fG r s x y X Y i) 6 0 : Nat) : Int) ≤ 100; omega
  · show (0 : Int) ≤ (fsn W H r s q x y X Y t : Nat); omega
  · show ((fsn W H r s q x y X Y t : Nat) : Int) ≤ fan W H r s q x y X Y t; omega
  · show fan W H r s q x y X Y t ≤ 100; omega
theorem stw_I {K : Int} (hR : RG K r W H) (h : SI r) {s q x y X Y : Nat} (hs : s ≤ 1) (hq : q ≤ 1) (hx : x < 8) (hy : y < 8) (hX : X < 8) (hY : Y < 8) {w : Int} : SI (stw W H r s q x y X Y w) :=
  ((h.cg (ρ := rsp r s (w + ftk W H r s q x y X Y (r 2 + w))) (fun j hj => rsp_L hs hj)).rls (svs_I hR hq hx hy hX hY)).cg (fun j hj => stw_L hq hj)
theorem stw_12 {s q x y X Y : Nat} (hs : s ≤ 1) (hq : q ≤ 1) {w : Int} : stw W H r s q x y X Y w 12 = r 12 + 1 := by
  rw [stw_L hq (by unfold pL; omega), rls_12, rsp_L hs (by unfold pL; omega)]
theorem stw_13 {s q x y X Y : Nat} (h13 : 0 ≤ r 13 ∧ r 13 ≤ 20) (hs : s ≤ 1) (hq : q ≤ 1) {w : Int} : 1 ≤ stw W H r s q x y X Y w 13 ∧ stw W H r s q x y X Y w (304 + 8 * ((stw W H r s q x y X Y w 13).toNat - 1) + 4) = frd W H r s q x y X Y (r 2 + w) := by
  have e13 : stw W H r s q x y X Y w 13 = if r 13 = 20 then 20 else r 13 + 1 := by rw [stw_L hq (by unfold pL; omega), rls_13, rsp_L hs (by unfold pL; omega)]
  rw [e13]
  refine ⟨by split <;> omega, ?_⟩
  have ek : (if r 13 = 20 then 20 else r 13 + 1 : Int).toNat - 1 = if r 13 = 20 then 19 else (r 13).toNat := by split <;> omega
  have hk : (if r 13 = 20 then 19 else (r 13).toNat) < 20 := by split <;> omega
  rw [ek, stw_L hq (by unfold pL; omega), rls_at (by rw [rsp_L hs (by unfold pL; omega)]; exact h13.2) hk (by decide), rsp_L hs (by unfold pL; omega), if_pos rfl]
  rfl
theorem rfn_n {s x y X Y : Nat} {t : Int} {j : Nat} (h3 : j ≠ 3) (h4 : j ≠ 4) (hA : ¬ pA j) (hB : ¬ pB s j) : rfn W H r s x y X Y t j = r j := by
  unfold rfn rnd
  rw [if_neg (by omega), if_neg h3, rla_n hA, rb1_n hB]
theorem rfn_A {s x y X Y : Nat} {t : Int} {j : Nat} (h : pA j) : rfn W H r s x y X Y t j = rla (rb1 W H r s s x y X Y) (avs W r s x y X Y t) j := by
  unfold pA at h
  unfold rfn rnd
  rw [if_neg (by omega), if_neg (by omega)]
theorem rb1_A {s x y X Y : Nat} (hs : s ≤ 1) {j : Nat} (h : pA j) : rb1 W H r s s x y X Y j = r j := by
  unfold pA at h
  exact rb1_n (by unfold pB; omega)
theorem rfn_3 {s x y X Y : Nat} {t : Int} : rfn W H r s x y X Y t 3 = 1 - (s : Int) := by
  unfold rfn rnd
  rw [if_neg (by omega), if_pos rfl]
theorem rfn_f {s x y X Y : Nat} (hs : s ≤ 1) (h14 : 0 ≤ r 14 ∧ r 14 ≤ 20) {t : Int} : rfn W H r s x y X Y t 11 = r 11 + 1 ∧ 1 ≤ rfn W H r s x y X Y t 14 ∧ rfn W H r s x y X Y t (464 + 6 * ((rfn W H r s x y X Y t 14).toNat - 1) + 4) = t ∧ rfn W H r s x y X Y t (464 + 6 * ((rfn W H r s x y X Y t 14).toNat - 1) + 5) = r 2 := by
  have e14 : rfn W H r s x y X Y t 14 = if r 14 = 20 then 20 else r 14 + 1 := by rw [rfn_A (by unfold pA; omega), rla_14, rb1_A hs (by unfold pA; omega)]
  rw [e14]
  have ek : (if r 14 = 20 then 20 else r 14 + 1 : Int).toNat - 1 = if r 14 = 20 then 19 else (r 14).toNat := by split <;> omega
  have hk : (if r 14 = 20 then 19 else (r 14).toNat) < 20 := by split <;> omega
  refine ⟨by rw [rfn_A (by unfold pA; omega), rla_11, rb1_A hs (by unfold pA; omega)], by split <;> omega, ?_, ?_⟩
  · rw [ek, rfn_A (by unfold pA; omega), rla_at (by rw [rb1_A hs (by unfold pA; omega)]; exact h14.2) hk (by decide), rb1_A hs (by unfold pA; omega), if_pos rfl]
    rfl
  · rw [ek, rfn_A (by unfold pA; omega), rla_at (by rw [rb1_A hs (by unfold pA; omega)]; exact h14.2) hk (by decide), rb1_A hs (by unfold pA; omega), if_pos rfl]
    rfl
/-- what a move told comes to -/
theorem pls_f {K : Int} {s q : Nat} (hs : s + q = 1) {x y X Y : Nat} (hx : x < W) (hy : y < H) (hX : X < W) (hY : Y < H) :
    ∀ (n j : Nat) (r : Nat → Int), RG K r W H → SI r → r 3 = s → 1 ≤ j → (j : Int) + n = r 7 + 1 → r 2 + r (15 + s) ≤ 10000 * K → r (9 + q) + n ≤ 20 * K → r (9 + s) + 1 ≤ 20 * K →
    SI (pls W H s q x y X Y n j r).2 ∧ (pls W H s q x y X Y n j r).2 2 + (pls W H s q x y X Y n j r).2 (15 + s) = r 2 + r (15 + s) ∧ (pls W H s q x y X Y n j r).2 (15 + q) = r (15 + q) ∧ (pls W H s q x y X Y n j r).2 7 = r 7 ∧ r 2 ≤ (pls W H s q x y X Y n j r).2 2 ∧
    (((pls W H s q x y X Y n j r).1 = -1 ∧ (pls W H s q x y X Y n j r).2 (15 + s) = 0 ∧ (pls W H s q x y X Y n j r).2 4 = 2 - (s : Int)) ∨
     ((pls W H s q x y X Y n j r).1 = 0 ∧ (pls W H s q x y X Y n j r).2 12 = r 12 + n ∧ (pls W H s q x y X Y n j r).2 3 = s ∧ (pls W H s q x y X Y n j r).2 11 = r 11) ∨
     ((j : Int) ≤ (pls W H s q x y X Y n j r).1 ∧ (pls W H s q x y X Y n j r).2 11 = r 11 + 1 ∧ (pls W H s q x y X Y n j r).2 12 = r 12 + ((pls W H s q x y X Y n j r).1 - j + 1) ∧ (pls W H s q x y X Y n j r).2 3 = 1 - (s : Int) ∧ 1 ≤ (pls W H s q x y X Y n j r).2 14 ∧ (pls W H s q x y X Y n j r).2 (464 + 6 * (((pls W H s q x y X Y n j r).2 14).toNat - 1) + 4) = (pls W H s q x y X Y n j r).1 ∧ (pls W H s q x y X Y n j r).2 (464 + 6 * (((pls W H s q x y X Y n j r).2 14).toNat - 1) + 5) = (pls W H s q x y X Y n j r).2 2 ∧ r 2 + (flen r s x y X Y : Nat) < (pls W H s q x y X Y n j r).2 2 ∧
      ((pls W H s q x y X Y n j r).1 = j → 1 ≤ (pls W H s q x y X Y n j r).2 13 ∧ (pls W H s q x y X Y n j r).2 (304 + 8 * (((pls W H s q x y X Y n j r).2 13).toNat - 1) + 4) = frd W H r s q x y X Y (r 2 + (if j = 1 then 0 else r 6))))) := by
  intro n
  induction n with
  | zero =>
    intro j r hR hI h3 j1 j7 ht hC hC2
    exact ⟨hI, rfl, rfl, rfl, Int.le_refl _, Or.inr (Or.inl ⟨rfl, (Int.add_zero _).symm, h3, rfl⟩)⟩
  | succ n ih =>
    intro j r hR hI h3 j1 j7 ht hC hC2
    have hrS := (RG.iff.mp hR).2.1
    have hW := (RG.iff.mp hR).1.2.2
    obtain ⟨w1, w2, w3, w4⟩ := hW
    have h7 := hrS.2.2.2.2.2.1
    have h6 := hrS.2.2.2.2.1
    have h5 := hrS.2.2.2.1
    have hcl := hrS.2.2.2.2.2.2 s (by omega)
    have h14 := (RG.iff.mp hR).2.2.2.2.2.1
    unfold pls
    generalize hw : (if j = 1 then 0 else r 6) = w at *
    have w0 : 0 ≤ w := by rw [← hw]; split <;> omega
    have tk := ftk_r hR (s := s) (q := q) (by omega) hx hy hX hY (t := r 2 + w)
    have fa := (fan_r hR (s := s) (q := q) (x := x) (y := y) (X := X) (Y := Y) (by omega) (t := r 2 + w)).1
    have etk : ftk W H r s q x y X Y (r 2 + w) = (flen r s x y X Y : Nat) + fan W H r s q x y X Y (r 2 + w) + r 5 := rfl
    by_cases qc : w + ftk W H r s q x y X Y (r 2 + w) < r (15 + s)
    · have hRs := stw_R hR hs w0 hx hy hX hY qc ht (by omega)
      have hIs := stw_I (w := w) hR hI (s := s) (q := q) (x := x) (y := y) (X := X) (Y := Y) (by omega) (by omega) (by omega) (by omega) (by omega) (by omega)
      have sn : ∀ j, j ≠ 2 → j ≠ 15 + s → ¬ pL j → ¬ pB q j → stw W H r s q x y X Y w j = r j := fun j => stw_n
      have s3 : stw W H r s q x y X Y w 3 = s := by
        rw [sn 3 (by decide) (by omega) (by unfold pL; omega) (by unfold pB; omega)]; exact h3
      have s9 : stw W H r s q x y X Y w (9 + s) = r (9 + s) := sn _ (by omega) (by omega) (by unfold pL; omega) (by unfold pB; omega)
      have s7 : stw W H r s q x y X Y w 7 = r 7 := sn _ (by decide) (by omega) (by unfold pL; omega) (by unfold pB; omega)
      have s5 : stw W H r s q x y X Y w 5 = r 5 := sn _ (by decide) (by omega) (by unfold pL; omega) (by unfold pB; omega)
      have s11 : stw W H r s q x y X Y w 11 = r 11 := sn _ (by decide) (by omega) (by unfold pL; omega) (by unfold pB; omega)
      have s14 : stw W H r s q x y X Y w 14 = r 14 := sn _ (by decide) (by omega) (by unfold pL; omega) (by unfold pB; omega)
      have sq15 : stw W H r s q x y X Y w (15 + q) = r (15 + q) := sn _ (by omega) (by omega) (by unfold pL; omega) (by unfold pB; omega)
      have s12 := stw_12 (W := W) (H := H) (r := r) (s := s) (q := q) (x := x) (y := y) (X := X) (Y := Y) (w := w) (by omega) (by omega)
      have s13 := stw_13 (W := W) (H := H) (r := r) (s := s) (q := q) (x := x) (y := y) (X := X) (Y := Y) (w := w) hI.1 (by omega) (by omega)
      obtain ⟨t1, t2⟩ := stw_t (W := W) (H := H) (r := r) (s := s) (q := q) (x := x) (y := y) (X := X) (Y := Y) (w := w) (by omega) (by omega)
      rw [if_pos qc]
      by_cases qi : fia W H r s q x y X Y (r 2 + w) = true
      · rw [if_pos qi]
        dsimp only
        obtain ⟨f1, f2, f3, f4⟩ := rfn_f (W := W) (H := H) (r := stw W H r s q x y X Y w) (s := s) (x := x) (y := y) (X := X) (Y := Y) (t := (j : Nat)) (by omega) (by rw [s14]; exact h14)
        have fn : ∀ i, i ≠ 3 → i ≠ 4 → ¬ pA i → ¬ pB s i → rfn W H (stw W H r s q x y X Y w) s x y X Y (j : Nat) i = stw W H r s q x y X Y w i := fun i => rfn_n
        have g2 := fn 2 (by decide) (by decide) (by unfold pA; omega) (by unfold pB; omega)
        have g13 := fn 13 (by decide) (by decide) (by unfold pA; omega) (by unfold pB; omega)
        refine ⟨hIs.cg (fun i hi => fn i (by unfold pL at hi; omega) (by unfold pL at hi; omega) (by unfold pL at hi; unfold pA; omega) (by unfold pL at hi; unfold pB; omega)), ?_, ?_, ?_, ?_, Or.inr (Or.inr ⟨Int.le_refl _, ?_, ?_, rfn_3, f2, f3, ?_, ?_, fun _ => ?_⟩)⟩
        · rw [g2, fn (15 + s) (by omega) (by omega) (by unfold pA; omega) (by unfold pB; omega), t1, t2]; omega
        · rw [fn (15 + q) (by omega) (by omega) (by unfold pA; omega) (by unfold pB; omega), sq15]
        · rw [fn 7 (by decide) (by decide) (by unfold pA; omega) (by unfold pB; omega), s7]
        · rw [g2, t1]; omega
        · rw [f1, s11]
        · rw [fn 12 (by decide) (by decide) (by unfold pA; omega) (by unfold pB; omega), s12]; omega
        · rw [f4, g2]
        · rw [g2, t1]; omega
        · rw [g13]
          have b13 := hIs.1
          refine ⟨s13.1, ?_⟩
          rw [fn (304 + 8 * ((stw W H r s q x y X Y w 13).toNat - 1) + 4) (by omega) (by omega) (by unfold pA; omega) (by unfold pB; omega)]
          exact s13.2
      · rw [if_neg qi]
        have sq := stw_9 (W := W) (H := H) (r := r) (s := s) (q := q) (x := x) (y := y) (X := X) (Y := Y) (w := w) (by omega) (by omega)
        obtain ⟨i1, i2, i3, i4, i5, i6⟩ := ih (j + 1) (stw W H r s q x y X Y w) hRs hIs s3 (by omega) (by rw [s7]; omega) (by rw [t1, t2]; omega) (by omega) (by rw [s9]; exact hC2)
        have efl : flen (stw W H r s q x y X Y w) s x y X Y = flen r s x y X Y := by
          unfold flen fG
          rw [s9, s5]
        refine ⟨i1, by rw [i2, t1, t2]; omega, by rw [i3, sq15], by rw [i4, s7], by rw [t1] at i5; omega, ?_⟩
        rcases i6 with i6 | i6 | i6
        · exact Or.inl i6
        · obtain ⟨a1, a2, a3, a4⟩ := i6
          exact Or.inr (Or.inl ⟨a1, by rw [a2, s12]; omega, a3, by rw [a4, s11]⟩)
        · obtain ⟨a1, a2, a3, a4, a5, a6, a7, a8, a9⟩ := i6
          refine Or.inr (Or.inr ⟨by omega, by rw [a2, s11], by rw [a3, s12]; omega, a4, a5, a6, a7, ?_, fun e => absurd e (by omega)⟩)
          rw [efl, t1] at a8
          omega
    · rw [if_neg qc]
      have sn : ∀ i, i ≠ 2 → i ≠ 15 + s → i ≠ 4 → rtm r s i = r i := fun i h1 h2 h3 => by
        unfold rtm
        rw [if_neg h1, if_neg h2, if_neg h3]
      have e2 : rtm r s 2 = r 2 + r (15 + s) := if_pos rfl
      have ec : rtm r s (15 + s) = 0 := by
        unfold rtm
        rw [if_neg (by omega), if_pos rfl]
      refine ⟨hI.cg (fun i hi => sn i (by unfold pL at hi; omega) (by unfold pL at hi; omega) (by unfold pL at hi; omega)), ?_, sn (15 + q) (by omega) (by omega) (by omega), sn 7 (by omega) (by omega) (by omega), ?_, Or.inl ⟨rfl, ec, ?_⟩⟩
      · dsimp only
        rw [e2, ec]; omega
      · dsimp only
        rw [e2]; omega
      · dsimp only
        unfold rtm
        rw [if_neg (by decide), if_neg (by omega), if_pos rfl]
end LD
