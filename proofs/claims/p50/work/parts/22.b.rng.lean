/-! Ranges, kept by changes. -/
section RK
variable {W H : Nat} {k : Int} {r r' : Nat → Int}
theorem BG.cg {b b' : Nat → Int} (h : BG W H b) (e : ∀ c, c < W * H → b' c = b c) : BG W H b' := by
  obtain ⟨h1, h2, h3, h4⟩ := h
  have c : ∀ s, cnt W H b' s = cnt W H b s := fun s => by
    unfold cnt
    exact fo_congr (fun k hk v => by rw [e k hk])
  refine ⟨fun x y hx hy => ?_, fun s s1 s2 c c' hc hc' h5 h6 => ?_, by rw [c]; exact h3, by rw [c]; exact h4⟩
  · rw [e _ (cell_lt hx hy)]; exact h1 x y hx hy
  · rw [e c hc] at h5
    rw [e c' hc'] at h6
    exact h2 s s1 s2 c c' hc hc' h5 h6
theorem av_k {p : Int} (p1 : 0 ≤ p) (p2 : p ≤ 12) {Y : Nat} : sd (av H p Y) = sd p ∧ ∀ s : Int, 0 ≤ s → s ≤ 1 → av H p Y = 1 + 6 * s → p = 1 + 6 * s := by
  unfold av
  by_cases q : bq H p Y = true
  · rw [if_pos q]
    unfold bq at q
    have q1 := (of_decide_eq_true q).1
    rw [sd_k p1 p2] at q1
    rcases q1 with rfl | rfl
    · exact ⟨rfl, fun s s1 s2 e => by omega⟩
    · exact ⟨rfl, fun s s1 s2 e => by omega⟩
  · rw [if_neg q]
    exact ⟨rfl, fun s s1 s2 e => e⟩
theorem ct_put {b : Nat → Int} {d : Nat} {v s : Int} : ∀ n, fo (fun c (u : Nat) => if sd ((fun j => if j = d then v else b j) c) = s then u + 1 else u) n 0 + (if d < n ∧ sd (b d) = s then 1 else 0) = fo (fun c (u : Nat) => if sd (b c) = s then u + 1 else u) n 0 + (if d < n ∧ sd v = s then 1 else 0) := by
  intro n
  induction n with
  | zero => rw [if_neg (fun h => Nat.not_lt_zero _ h.1), if_neg (fun h => Nat.not_lt_zero _ h.1)]; rfl
  | succ n ih =>
    rw [fo_s, fo_s]
    generalize fo (fun c (u : Nat) => if sd ((fun j => if j = d then v else b j) c) = s then u + 1 else u) n 0 = A at *
    generalize fo (fun c (u : Nat) => if sd (b c) = s then u + 1 else u) n 0 = B at *
    dsimp only
    by_cases e : n = d
    · subst e
      rw [if_neg (show ¬ (n < n ∧ sd (b n) = s) from fun h => Nat.lt_irrefl _ h.1), if_neg (show ¬ (n < n ∧ sd v = s) from fun h => Nat.lt_irrefl _ h.1)] at ih
      simp only [eq_self, ift]
      by_cases q1 : sd v = s <;> by_cases q2 : sd (b n) = s
      · rw [if_pos q1, if_pos q2, if_pos ⟨Nat.lt_succ_self _, q2⟩, if_pos ⟨Nat.lt_succ_self _, q1⟩]; omega
      · rw [if_pos q1, if_neg q2, if_neg (fun h => q2 h.2), if_pos ⟨Nat.lt_succ_self _, q1⟩]; omega
      · rw [if_neg q1, if_pos q2, if_pos ⟨Nat.lt_succ_self _, q2⟩, if_neg (fun h => q1 h.2)]; omega
      · rw [if_neg q1, if_neg q2, if_neg (fun h => q2 h.2), if_neg (fun h => q1 h.2)]; omega
    · have hv : (if n = d then v else b n) = b n := if_neg e
      simp only [hv]
      have e1 : (d < n + 1 ∧ sd (b d) = s) ↔ (d < n ∧ sd (b d) = s) := by omega
      have e2 : (d < n + 1 ∧ sd v = s) ↔ (d < n ∧ sd v = s) := by omega
      simp only [e1, e2]
      by_cases q : sd (b n) = s
      · rw [if_pos q, if_pos q]; omega
      · rw [if_neg q, if_neg q]; omega
theorem BG_mb {b : Nat → Int} (h : BG W H b) {x y X Y : Nat} (hx : x < W) (hy : y < H) (hX : X < W) (hY : Y < H) : BG W H (mb W H b x y X Y) := by
  obtain ⟨h1, h2, h3, h4⟩ := h
  have bF := h1 x y hx hy
  obtain ⟨a1, a2⟩ := av_k (H := H) (Y := Y) bF.1 bF.2
  have cF := cell_lt hx hy
  have cT := cell_lt hX hY
  have ct : ∀ s : Int, 0 ≤ s → cnt W H (mb W H b x y X Y) s ≤ cnt W H b s := by
    intro s hs
    have e1 := ct_put (b := b) (d := x + W * y) (v := 0) (s := s) (W * H)
    have e2 := ct_put (b := fun j => if j = x + W * y then 0 else b j) (d := X + W * Y) (v := av H (b (x + W * y)) Y) (s := s) (W * H)
    have z : ¬ sd 0 = s := by
      have : sd 0 = -1 := rfl
      omega
    rw [if_neg (show ¬ (x + W * y < W * H ∧ sd 0 = s) from fun h => z h.2)] at e1
    rw [a1] at e2
    dsimp only at e1 e2
    unfold cnt mb
    generalize fo (fun c (u : Nat) => if sd (if c = X + W * Y then av H (b (x + W * y)) Y else if c = x + W * y then 0 else b c) = s then u + 1 else u) (W * H) 0 = A at *
    generalize fo (fun c (u : Nat) => if sd (if c = x + W * y then 0 else b c) = s then u + 1 else u) (W * H) 0 = B at *
    generalize fo (fun c (u : Nat) => if sd (b c) = s then u + 1 else u) (W * H) 0 = C at *
    by_cases q : sd (b (x + W * y)) = s
    · rw [if_pos (show x + W * y < W * H ∧ sd (b (x + W * y)) = s from ⟨cF, q⟩)] at e1
      rw [if_pos (show X + W * Y < W * H ∧ sd (b (x + W * y)) = s from ⟨cT, q⟩)] at e2
      omega
    · rw [if_neg (show ¬ (x + W * y < W * H ∧ sd (b (x + W * y)) = s) from fun h => q h.2)] at e1
      rw [if_neg (show ¬ (X + W * Y < W * H ∧ sd (b (x + W * y)) = s) from fun h => q h.2)] at e2
      omega
  refine ⟨BD_mb h1 hx hy, fun s s1 s2 c c' hc hc' e e' => ?_, Nat.le_trans (ct 0 (by decide)) h3, Nat.le_trans (ct 1 (by decide)) h4⟩
  unfold mb at e e'
  by_cases q : c = X + W * Y
  · by_cases q' : c' = X + W * Y
    · rw [q, q']
    · rw [if_pos q] at e
      rw [if_neg q'] at e'
      have p := a2 s s1 s2 e
      by_cases q2 : c' = x + W * y
      · rw [if_pos q2] at e'; omega
      · rw [if_neg q2] at e'
        exact absurd (h2 s s1 s2 _ _ hc' cF e' p) q2
  · rw [if_neg q] at e
    by_cases q2 : c = x + W * y
    · rw [if_pos q2] at e; omega
    · rw [if_neg q2] at e
      by_cases q' : c' = X + W * Y
      · rw [if_pos q'] at e'
        have p := a2 s s1 s2 e'
        exact absurd (h2 s s1 s2 _ _ hc cF e p) q2
      · rw [if_neg q'] at e'
        by_cases q3 : c' = x + W * y
        · rw [if_pos q3] at e'; omega
        · rw [if_neg q3] at e'
          exact h2 s s1 s2 _ _ hc hc' e e'
/-- the ranges of a board's places -/
def rB (k : Int) (r : Nat → Int) (W H s : Nat) : Prop := (0 ≤ r (9 + s) ∧ r (9 + s) ≤ 20 * k) ∧ (-1 ≤ r (17 + s) ∧ r (17 + s) ≤ 1) ∧ (r (17 + s) ≠ -1 → (0 ≤ r (19 + s) ∧ r (19 + s) < (W * H : Nat)) ∧ (0 ≤ r (21 + s) ∧ r (21 + s) < (W * H : Nat))) ∧ BG W H (fun c => r (24 + 64 * s + c)) ∧ BG W H (fun c => r (152 + 64 * s + c))
def rF_ (r : Nat → Int) : Prop := 0 ≤ r 8 ∧ FB (r 8).toNat (fun k => r (280 + 3 * k)) (fun k => r (281 + 3 * k)) (fun k => r (282 + 3 * k))
def rA (r : Nat → Int) (W H : Nat) : Prop := (0 ≤ r 14 ∧ r 14 ≤ 20) ∧ ∀ j : Nat, (j : Int) < r 14 → (0 ≤ r (464 + 6 * j) ∧ r (464 + 6 * j) ≤ 1) ∧ (0 ≤ r (464 + 6 * j + 1) ∧ r (464 + 6 * j + 1) < (W * H : Nat)) ∧ (0 ≤ r (464 + 6 * j + 2) ∧ r (464 + 6 * j + 2) < (W * H : Nat)) ∧ (-1 ≤ r (464 + 6 * j + 3) ∧ r (464 + 6 * j + 3) ≤ 5) ∧ (1 ≤ r (464 + 6 * j + 4) ∧ r (464 + 6 * j + 4) ≤ 9)
def rS (k : Int) (r : Nat → Int) : Prop := (0 ≤ r 2 ∧ r 2 ≤ 10000 * k) ∧ (0 ≤ r 3 ∧ r 3 ≤ 1) ∧ (0 ≤ r 4 ∧ r 4 ≤ 2) ∧ (1 ≤ r 5 ∧ r 5 ≤ 5) ∧ (0 ≤ r 6 ∧ r 6 ≤ 9) ∧ (1 ≤ r 7 ∧ r 7 ≤ 9) ∧ ∀ s, s ≤ 1 → 0 ≤ r (15 + s) ∧ r (15 + s) ≤ 9999
def rW (r : Nat → Int) (W H : Nat) : Prop := r 0 = W ∧ r 1 = H ∧ WH W H
theorem RG.iff : RG k r W H ↔ rW r W H ∧ rS k r ∧ (∀ s, s ≤ 1 → rB k r W H s) ∧ rF_ r ∧ (0 ≤ r 13 ∧ r 13 ≤ 20) ∧ rA r W H := by
  constructor
  · rintro ⟨h1, h2, h3, h4, h5, h6, h7, h8, h9, h10, h11, h12⟩
    exact ⟨h1, ⟨h2, h3, h4, h5, h6, h7, fun s hs => (h10 s hs).2.1⟩, fun s hs => ⟨(h10 s hs).1, (h10 s hs).2.2.1, (h10 s hs).2.2.2.1, (h10 s hs).2.2.2.2.1, (h10 s hs).2.2.2.2.2⟩, h11, h8, h9, h12⟩
  · rintro ⟨h1, ⟨h2, h3, h4, h5, h6, h7, h8⟩, h9, h10, h11, h12, h13⟩
    exact ⟨h1, h2, h3, h4, h5, h6, h7, h11, h12, fun s hs => ⟨(h9 s hs).1, h8 s hs, (h9 s hs).2.1, (h9 s hs).2.2.1, (h9 s hs).2.2.2.1, (h9 s hs).2.2.2.2⟩, h10, h13⟩
theorem rB.cg {s : Nat} (hw : WH W H) (h : rB k r W H s) (e : ∀ j, pB s j → r' j = r j) : rB k r' W H s := by
  unfold rB at *
  have hN := WH_n hw
  rw [e (9 + s) (by unfold pB; omega), e (17 + s) (by unfold pB; omega), e (19 + s) (by unfold pB; omega), e (21 + s) (by unfold pB; omega)]
  exact ⟨h.1, h.2.1, h.2.2.1, h.2.2.2.1.cg (fun c hc => e _ (by unfold pB; omega)), h.2.2.2.2.cg (fun c hc => e _ (by unfold pB; omega))⟩
theorem rF_.cg (h : rF_ r) (e : ∀ j, pF j → r' j = r j) : rF_ r' := by
  unfold rF_ FB at *
  rw [e 8 (by unfold pF; omega)]
  refine ⟨h.1, h.2.1, fun j hj => ?_⟩
  have := h.2.2 j hj
  dsimp only at this ⊢
  rw [e (280 + 3 * j) (by unfold pF; omega), e (281 + 3 * j) (by unfold pF; omega), e (282 + 3 * j) (by unfold pF; omega)]
  exact this
theorem rA.cg (h : rA r W H) (e : ∀ j, pA j → r' j = r j) : rA r' W H := by
  unfold rA at *
  rw [e 14 (by unfold pA; omega)]
  refine ⟨h.1, fun j hj => ?_⟩
  have := h.2 j hj
  rw [e (464 + 6 * j) (by unfold pA; omega), e (464 + 6 * j + 1) (by unfold pA; omega), e (464 + 6 * j + 2) (by unfold pA; omega), e (464 + 6 * j + 3) (by unfold pA; omega), e (464 + 6 * j + 4) (by unfold pA; omega)]
  exact this
theorem rS.cg (h : rS k r) (e : ∀ j, pS j → r' j = r j) : rS k r' := by
  unfold rS at *
  rw [e 2 (by unfold pS; omega), e 3 (by unfold pS; omega), e 4 (by unfold pS; omega), e 5 (by unfold pS; omega), e 6 (by unfold pS; omega), e 7 (by unfold pS; omega)]
  exact ⟨h.1, h.2.1, h.2.2.1, h.2.2.2.1, h.2.2.2.2.1, h.2.2.2.2.2.1, fun s hs => by rw [e (15 + s) (by unfold pS; omega)]; exact h.2.2.2.2.2.2 s hs⟩
theorem rW.cg (h : rW r W H) (e0 : r' 0 = r 0) (e1 : r' 1 = r 1) : rW r' W H := by
  unfold rW at *
  rw [e0, e1]; exact h
theorem RG.cS (h : RG k r W H) (e : ∀ j, j < 584 → ¬ pS j → r' j = r j) (hS : rS k r') : RG k r' W H := by
  rw [RG.iff] at *
  obtain ⟨h1, h2, h3, h4, h5, h6⟩ := h
  refine ⟨h1.cg (e 0 (by decide) (by unfold pS; omega)) (e 1 (by decide) (by unfold pS; omega)), hS, fun s hs => (h3 s hs).cg h1.2.2 (fun j hj => e j (by unfold pB at hj; omega) (by unfold pB at hj; unfold pS; omega)), h4.cg (fun j hj => e j (by unfold pF at hj; omega) (by unfold pF at hj; unfold pS; omega)), by rw [e 13 (by decide) (by unfold pS; omega)]; exact h5, h6.cg (fun j hj => e j (by unfold pA at hj; omega) (by unfold pA at hj; unfold pS; omega))⟩
theorem RG.cB (h : RG k r W H) {s : Nat} (hs : s ≤ 1) (e : ∀ j, j < 584 → ¬ pB s j → r' j = r j) (hB : rB k r' W H s) : RG k r' W H := by
  rw [RG.iff] at *
  obtain ⟨h1, h2, h3, h4, h5, h6⟩ := h
  refine ⟨h1.cg (e 0 (by decide) (by unfold pB; omega)) (e 1 (by decide) (by unfold pB; omega)), h2.cg (fun j hj => e j (by unfold pS at hj; omega) (by unfold pS at hj; unfold pB; omega)), fun t ht => ?_, h4.cg (fun j hj => e j (by unfold pF at hj; omega) (by unfold pF at hj; unfold pB; omega)), by rw [e 13 (by decide) (by unfold pB; omega)]; exact h5, h6.cg (fun j hj => e j (by unfold pA at hj; omega) (by unfold pA at hj; unfold pB; omega))⟩
  by_cases q : t = s
  · rw [q]; exact hB
  · exact (h3 t ht).cg h1.2.2 (fun j hj => e j (by unfold pB at hj; omega) (by unfold pB at hj ⊢; omega))
theorem RG.cL (h : RG k r W H) (e : ∀ j, j < 584 → ¬ pL j → r' j = r j) (hL : 0 ≤ r' 13 ∧ r' 13 ≤ 20) : RG k r' W H := by
  rw [RG.iff] at *
  obtain ⟨h1, h2, h3, h4, h5, h6⟩ := h
  exact ⟨h1.cg (e 0 (by decide) (by unfold pL; omega)) (e 1 (by decide) (by unfold pL; omega)), h2.cg (fun j hj => e j (by unfold pS at hj; omega) (by unfold pS at hj; unfold pL; omega)), fun s hs => (h3 s hs).cg h1.2.2 (fun j hj => e j (by unfold pB at hj; omega) (by unfold pB at hj; unfold pL; omega)), h4.cg (fun j hj => e j (by unfold pF at hj; omega) (by unfold pF at hj; unfold pL; omega)), hL, h6.cg (fun j hj => e j (by unfold pA at hj; omega) (by unfold pA at hj; unfold pL; omega))⟩
theorem RG.cA (h : RG k r W H) (e : ∀ j, j < 584 → ¬ pA j → r' j = r j) (hA : rA r' W H) : RG k r' W H := by
  rw [RG.iff] at *
  obtain ⟨h1, h2, h3, h4, h5, h6⟩ := h
  exact ⟨h1.cg (e 0 (by decide) (by unfold pA; omega)) (e 1 (by decide) (by unfold pA; omega)), h2.cg (fun j hj => e j (by unfold pS at hj; omega) (by unfold pS at hj; unfold pA; omega)), fun s hs => (h3 s hs).cg h1.2.2 (fun j hj => e j (by unfold pB at hj; omega) (by unfold pB at hj; unfold pA; omega)), h4.cg (fun j hj => e j (by unfold pF at hj; omega) (by unfold pF at hj; unfold pA; omega)), by rw [e 13 (by decide) (by unfold pA; omega)]; exact h5, hA⟩
theorem RG.cF (h : RG k r W H) (e : ∀ j, j < 584 → ¬ pF j → r' j = r j) (hF : rF_ r') : RG k r' W H := by
  rw [RG.iff] at *
  obtain ⟨h1, h2, h3, h4, h5, h6⟩ := h
  exact ⟨h1.cg (e 0 (by decide) (by unfold pF; omega)) (e 1 (by decide) (by unfold pF; omega)), h2.cg (fun j hj => e j (by unfold pS at hj; omega) (by unfold pS at hj; unfold pF; omega)), fun s hs => (h3 s hs).cg h1.2.2 (fun j hj => e j (by unfold pB at hj; omega) (by unfold pB at hj; unfold pF; omega)), hF, by rw [e 13 (by decide) (by unfold pF; omega)]; exact h5, h6.cg (fun j hj => e j (by unfold pA at hj; omega) (by unfold pA at hj; unfold pF; omega))⟩
theorem RG.sp (h : RG k r W H) {s : Nat} (hs : s ≤ 1) {d : Int} (d0 : 0 ≤ d) (d1 : d ≤ r (15 + s)) (hk : r 2 + d ≤ 10000 * k) : RG k (rsp r s d) W H := by
  have h' := (RG.iff.mp h).2.1
  refine h.cS (fun j _ hj => ?_) ?_
  · unfold rsp
    unfold pS at hj
    rw [if_neg (by omega), if_neg (by omega)]
  · unfold rS rsp at *
    obtain ⟨h2, h3, h4, h5, h6, h7, h8⟩ := h'
    refine ⟨by rw [if_pos rfl]; omega, by rw [if_neg (by omega), if_neg (by omega)]; exact h3, by rw [if_neg (by omega), if_neg (by omega)]; exact h4, by rw [if_neg (by omega), if_neg (by omega)]; exact h5, by rw [if_neg (by omega), if_neg (by omega)]; exact h6, by rw [if_neg (by omega), if_neg (by omega)]; exact h7, fun t ht => ?_⟩
    have a := h8 s hs
    have b := h8 t ht
    rw [if_neg (by omega)]
    split <;> omega
theorem RG.tm (h : RG k r W H) {s : Nat} (hs : s ≤ 1) (hk : r 2 + r (15 + s) ≤ 10000 * k) : RG k (rtm r s) W H := by
  have h' := (RG.iff.mp h).2.1
  refine h.cS (fun j _ hj => ?_) ?_
  · unfold rtm
    unfold pS at hj
    rw [if_neg (by omega), if_neg (by omega), if_neg (by omega)]
  · unfold rS rtm at *
    obtain ⟨h2, h3, h4, h5, h6, h7, h8⟩ := h'
    have a := h8 s hs
    refine ⟨by rw [if_pos rfl]; omega, by rw [if_neg (by omega), if_neg (by omega), if_neg (by omega)]; exact h3, by rw [if_neg (by omega), if_neg (by omega), if_pos rfl]; omega, by rw [if_neg (by omega), if_neg (by omega), if_neg (by omega)]; exact h5, by rw [if_neg (by omega), if_neg (by omega), if_neg (by omega)]; exact h6, by rw [if_neg (by omega), if_neg (by omega), if_neg (by omega)]; exact h7, fun t ht => ?_⟩
    have b := h8 t ht
    rw [if_neg (by omega), if_neg (show ¬ 15 + t = 4 by omega)]
    split <;> omega
theorem rb1_n {q s x y X Y j : Nat} (hj : ¬ pB q j) : rb1 W H r q s x y X Y j = r j := by
  unfold rb1
  unfold pB at hj
  rw [if_neg (by omega), if_neg (by omega), if_neg (by omega), if_neg (by omega), if_neg (by omega), if_neg (by omega)]
theorem rb3_n {q s x y X Y j : Nat} (hj : ¬ pB q j) : rb3 W H r q s x y X Y j = r j := by
  unfold rb3
  unfold pB at hj
  rw [if_neg (by omega), if_neg (by omega), if_neg (by omega), if_neg (by omega)]
theorem rb1_a {q s x y X Y c : Nat} (hc : c < 64) : rb1 W H r q s x y X Y (24 + 64 * q + c) = mb W H (fun c => r (24 + 64 * q + c)) x y X Y c := by
  unfold rb1
  rw [if_pos (by omega), show 24 + 64 * q + c - (24 + 64 * q) = c by omega]
theorem rb1_b {q s x y X Y c : Nat} (hq : q ≤ 1) (hc : c < 64) : rb1 W H r q s x y X Y (152 + 64 * q + c) = r (24 + 64 * q + c) := by
  unfold rb1
  rw [if_neg (by omega), if_pos (by omega), show 152 + 64 * q + c - 128 = 24 + 64 * q + c by omega]
theorem rb1_c {q s x y X Y : Nat} (hq : q ≤ 1) : rb1 W H r q s x y X Y (9 + q) = r (9 + q) + 1 ∧ rb1 W H r q s x y X Y (17 + q) = (s : Nat) ∧ rb1 W H r q s x y X Y (19 + q) = ((x + W * y : Nat) : Int) ∧ rb1 W H r q s x y X Y (21 + q) = ((X + W * Y : Nat) : Int) := by
  unfold rb1
  refine ⟨?_, ?_, ?_, ?_⟩
  · rw [if_neg (by omega), if_neg (by omega), if_pos rfl]
  · rw [if_neg (by omega), if_neg (by omega), if_neg (by omega), if_pos rfl]
  · rw [if_neg (by omega), if_neg (by omega), if_neg (by omega), if_neg (by omega), if_pos rfl]
  · rw [if_neg (by omega), if_neg (by omega), if_neg (by omega), if_neg (by omega), if_neg (by omega), if_pos rfl]
theorem rb3_a {q s x y X Y c : Nat} (hc : c < 64) : rb3 W H r q s x y X Y (24 + 64 * q + c) = mb W H (fun c => r (152 + 64 * q + c)) x y X Y c := by
  unfold rb3
  rw [if_pos (by omega), show 24 + 64 * q + c - (24 + 64 * q) = c by omega]
theorem rb3_b {q s x y X Y c : Nat} (hq : q ≤ 1) (hc : c < 64) : rb3 W H r q s x y X Y (152 + 64 * q + c) = r (152 + 64 * q + c) := by
  unfold rb3
  rw [if_neg (by omega), if_neg (by omega), if_neg (by omega), if_neg (by omega)]
theorem rb3_c {q s x y X Y : Nat} (hq : q ≤ 1) : rb3 W H r q s x y X Y (9 + q) = r (9 + q) ∧ rb3 W H r q s x y X Y (17 + q) = (s : Nat) ∧ rb3 W H r q s x y X Y (19 + q) = ((x + W * y : Nat) : Int) ∧ rb3 W H r q s x y X Y (21 + q) = ((X + W * Y : Nat) : Int) := by
  unfold rb3
  refine ⟨?_, ?_, ?_, ?_⟩
  · rw [if_neg (by omega), if_neg (by omega), if_neg (by omega), if_neg (by omega)]
  · rw [if_neg (by omega), if_pos rfl]
  · rw [if_neg (by omega), if_neg (by omega), if_pos rfl]
  · rw [if_neg (by omega), if_neg (by omega), if_neg (by omega), if_pos rfl]
theorem RG.b1 (h : RG k r W H) {q s : Nat} (hq : q ≤ 1) (hs : s ≤ 1) (hC : r (9 + q) + 1 ≤ 20 * k) {x y X Y : Nat} (hx : x < W) (hy : y < H) (hX : X < W) (hY : Y < H) : RG k (rb1 W H r q s x y X Y) W H := by
  obtain ⟨h1, -, h3, -⟩ := RG.iff.mp h
  obtain ⟨b1, b2, b3, b4, b5⟩ := h3 q hq
  obtain ⟨c1, c2, c3, c4⟩ := rb1_c (W := W) (H := H) (r := r) (s := s) (x := x) (y := y) (X := X) (Y := Y) hq
  have hN := WH_n h1.2.2
  have d1 := cell_lt hx hy
  have d2 := cell_lt hX hY
  refine h.cB hq (fun j _ hj => rb1_n hj) ?_
  unfold rB
  rw [c1, c2, c3, c4]
  exact ⟨by omega, by omega, fun _ => by omega, (BG_mb b4 hx hy hX hY).cg (fun c hc => rb1_a (by omega)), b4.cg (fun c hc => rb1_b hq (by omega))⟩
theorem RG.b3 (h : RG k r W H) {q s : Nat} (hq : q ≤ 1) (hs : s ≤ 1) {x y X Y : Nat} (hx : x < W) (hy : y < H) (hX : X < W) (hY : Y < H) : RG k (rb3 W H r q s x y X Y) W H := by
  obtain ⟨h1, -, h3, -⟩ := RG.iff.mp h
  obtain ⟨b1, b2, b3, b4, b5⟩ := h3 q hq
  obtain ⟨c1, c2, c3, c4⟩ := rb3_c (W := W) (H := H) (r := r) (s := s) (x := x) (y := y) (X := X) (Y := Y) hq
  have hN := WH_n h1.2.2
  have d1 := cell_lt hx hy
  have d2 := cell_lt hX hY
  refine h.cB hq (fun j _ hj => rb3_n hj) ?_
  unfold rB
  rw [c1, c2, c3, c4]
  exact ⟨by omega, by omega, fun _ => by omega, (BG_mb b5 hx hy hX hY).cg (fun c hc => rb3_a (by omega)), b5.cg (fun c hc => rb3_b hq (by omega))⟩
theorem RG.ls (h : RG k r W H) {vs : Nat → Int} : RG k (rls r vs) W H := by
  have h13 := (RG.iff.mp h).2.2.2.2.1
  refine h.cL (fun j _ hj => ?_) ?_
  · unfold rls
    unfold pL at hj
    rw [if_neg (by omega), if_neg (by omega), if_neg (by omega)]
  · unfold rls
    rw [if_pos rfl]
    split <;> omega
theorem RG.la (h : RG k r W H) {vs : Nat → Int} (v0 : 0 ≤ vs 0 ∧ vs 0 ≤ 1) (v1 : 0 ≤ vs 1 ∧ vs 1 < (W * H : Nat)) (v2 : 0 ≤ vs 2 ∧ vs 2 < (W * H : Nat)) (v3 : -1 ≤ vs 3 ∧ vs 3 ≤ 5) (v4 : 1 ≤ vs 4 ∧ vs 4 ≤ 9) : RG k (rla r vs) W H := by
  have h6 := (RG.iff.mp h).2.2.2.2.2
  refine h.cA (fun j _ hj => ?_) ?_
  · unfold rla
    unfold pA at hj
    rw [if_neg (by omega), if_neg (by omega), if_neg (by omega)]
  · obtain ⟨h7, h8⟩ := h6
    have e14 : rla r vs 14 = (if r 14 = 20 then 20 else r 14 + 1) := by unfold rla; rw [if_pos rfl]
    unfold rA
    rw [e14]
    refine ⟨by split <;> omega, fun j hj => ?_⟩
    have hj20 : j < 20 := by
      split at hj <;> omega
    have at_ : ∀ i, i < 6 → rla r vs (464 + 6 * j + i) = if j = (if r 14 = 20 then 19 else (r 14).toNat) then vs i else if r 14 = 20 then r (464 + 6 * (j + 1) + i) else r (464 + 6 * j + i) := by
      intro i hi
      unfold rla
      rw [if_neg (by omega), if_neg (by omega), if_pos (by omega)]
      generalize hN : (if r 14 = 20 then 19 else (r 14).toNat) = N
      by_cases q : j = N
      · rw [if_pos (by omega), if_pos q, q, show 464 + 6 * N + i - (464 + 6 * N) = i by omega]
      · rw [if_neg (by omega), if_neg q]
        by_cases q2 : r 14 = 20
        · have : j < 19 := by
            rw [if_pos q2] at hN
            omega
          rw [if_pos ⟨q2, by omega⟩, if_pos q2, show 464 + 6 * j + i + 6 = 464 + 6 * (j + 1) + i by omega]
        · rw [if_neg (fun h => q2 h.1), if_neg q2]
    have a0 := at_ 0 (by decide)
    rw [Nat.add_zero] at a0
    rw [a0, at_ 1 (by decide), at_ 2 (by decide), at_ 3 (by decide), at_ 4 (by decide)]
    by_cases q : j = (if r 14 = 20 then 19 else (r 14).toNat)
    · simp only [if_pos q]
      exact ⟨v0, v1, v2, v3, v4⟩
    · simp only [if_neg q]
      by_cases q2 : r 14 = 20
      · simp only [if_pos q2]
        have := h8 (j + 1) (by
          rw [if_pos q2] at q
          omega)
        rw [Nat.add_zero]
        exact this
      · simp only [if_neg q2]
        have := h8 j (by
          rw [if_neg q2] at q hj
          omega)
        rw [Nat.add_zero]
        exact this
end RK
