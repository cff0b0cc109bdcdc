/-! The text that the law sets up, read: its statements. -/
section TC
variable {B : Nat → Int} {L W H : Nat} {A : (Nat → Int) × (Nat → Int)}
/-- the words -/
def wd (k : Nat) : List Nat := match k with
  | 0 => [103, 97, 109, 101]
  | 1 => [99, 108, 111, 99, 107]
  | 2 => [112, 97, 117, 115, 101]
  | 3 => [119, 97, 105, 116]
  | 4 => [116, 114, 105, 101, 115]
  | 5 => [119, 104, 105, 116, 101]
  | 6 => [107, 105, 110, 103]
  | 7 => [113, 117, 101, 101, 110]
  | 8 => [114, 111, 111, 107]
  | 9 => [98, 105, 115, 104, 111, 112]
  | 10 => [107, 110, 105, 103, 104, 116]
  | 11 => [112, 97, 119, 110]
  | 12 => [98, 108, 97, 99, 107]
  | 13 => [102, 111, 103]
  | _ => []
theorem wd_e : ∀ j, j < 14 → ∀ k, k < 14 → decide ((wd j).map (fun x => zI ((x : Nat) : Int)) = ev_tb k) = decide (j = k) := by decide +kernel
theorem wd_t {j : Nat} (hj : j < 14) {l : List Nat} (hl : hdn isL l) : tkn 1 (wd j) l := by
  have key : ∀ j, j < 14 → wd j ≠ [] ∧ ∀ x ∈ wd j, isL (x : Nat) = true := by decide +kernel
  obtain ⟨a, b⟩ := key j hj
  exact Or.inl ⟨rfl, a, b, hl⟩
theorem isw_d {j : Nat} {l : List Nat} (h : At B L A 1 (wd j) l) (hj : j < 14) {k : Nat} (hk : k < 14) : isw B k A = decide (j = k) := (isw_at h).trans (wd_e j hj k hk)
theorem sp1 : ∀ x ∈ [32], x = 32 := by decide
theorem sp0 : ∀ x ∈ ([] : List Nat), x = 32 := by decide
theorem hL32 {l : List Nat} : hdn isL ([32] ++ l) := hdn_c (by decide)
theorem hD32 {l : List Nat} : hdn isD ([32] ++ l) := hdn_c (by decide)
theorem hD59 {l : List Nat} : hdn isD ([59] ++ l) := hdn_c (by decide)
theorem t59 {l : List Nat} : tkn 3 [59] l := Or.inr (Or.inr (Or.inl ⟨rfl, rfl⟩))
/-- what is to be read is T -/
def Rd (B : Nat → Int) (L : Nat) (A : (Nat → Int) × (Nat → Int)) (T : List Nat) : Prop := ∀ k c l, T = c ++ l → tkn k c l → At B L A k c l
theorem aM_at {l : List Nat} (h : At B L A 3 [59] l) : Rd B L (aM B L A) l ∧ sm_A A (aM B L A) := by
  have e : aM B L A = aT B L A := by
    unfold aM
    rw [if_pos (show A.1 7 = 3 from h.2.1)]
  rw [e]
  refine ⟨fun k c l' el ht => (aT_at (sp := []) h el sp0 ht).1, aT_v.2.2.2.2.2.2.2.2, aT_v.2.2.1, aT_v.2.2.2.1⟩
theorem aO_at {i k' : Nat} {c sp c' l' l : List Nat} (h : At B L A 1 c l) (hb : (A.1 5).toNat.testBit i = false) (e : l = sp ++ (c' ++ l')) (hs : ∀ x ∈ sp, x = 32) (ht : tkn k' c' l') : At B L (aO B L i A) k' c' l' ∧ (aO B L i A).2 = A.2 ∧ (aO B L i A).1 4 = A.1 4 ∧ (aO B L i A).1 5 = (((A.1 5).toNat ||| 2 ^ i : Nat) : Int) := by
  have e1 : aO1 i A = (rs A.1 5 (((A.1 5).toNat ||| 2 ^ i : Nat) : Int), A.2) := by
    unfold aO1
    rw [hb, if_neg (by decide)]
  have h1 : At B L (aO1 i A) 1 c l := by
    rw [e1]
    obtain ⟨a1, a2, s, a3, a4, a5⟩ := h
    refine ⟨?_, ?_, s, ?_, ?_, a5⟩ <;> dsimp only <;> rw [rs_ne (by decide)] <;> assumption
  obtain ⟨q1, q2, q3, q4⟩ := aT_at h1 e hs ht
  unfold aO
  refine ⟨q1, q2.trans (by rw [e1]), q3.trans (by rw [e1]; dsimp only; rw [rs_ne (by decide)]), q4.trans (by rw [e1]; dsimp only; rw [rs_eq])⟩
/-- a number behind a word that is told once -/
theorem aS_at {i k v : Nat} {lo hi : Int} {c R : List Nat} (hv : v < 1000) (h1 : lo ≤ v) (h2 : ((v : Nat) : Int) ≤ hi) (h : At B L A 1 c ([32] ++ (dg v ++ R))) (hR : hdn isD R) (hb : (A.1 5).toNat.testBit i = false) :
    (∀ k' c' l' sp, R = sp ++ (c' ++ l') → (∀ x ∈ sp, x = 32) → tkn k' c' l' → At B L (aS B L i k lo hi A) k' c' l') ∧ (aS B L i k lo hi A).2 = rs A.2 k v ∧ (aS B L i k lo hi A).1 4 = A.1 4 ∧ (aS B L i k lo hi A).1 5 = (((A.1 5).toNat ||| 2 ^ i : Nat) : Int) := by
  obtain ⟨q1, q2, q3, q4⟩ := aO_at (i := i) h hb rfl sp1 (dg_t hv hR)
  obtain ⟨n1, n2⟩ := aN_at hv q1 h1 h2
  unfold aS
  rw [n1, n2]
  obtain ⟨-, -, v4, v5, -, -, -, -, v0⟩ := aT_v (B := B) (L := L) (A := aO B L i A)
  refine ⟨fun k' c' l' sp e hs ht => (aT_at q1 e hs ht).1, ?_, v4.trans q3, v5.trans q4⟩
  show rs (aT B L (aO B L i A)).2 k _ = _
  rw [v0, q2]
theorem cnd_1 {k : Nat} {c l : List Nat} (h : At B L A k c l) (hk : k ≠ 0) : cnd A = true := decide_eq_true ⟨h.1, by rw [h.2.1]; omega⟩
theorem stS {j i k v : Nat} {lo hi : Int} {R : List Nat} (hj : (j = 2 ∧ i = 1 ∧ k = 5 ∧ lo = 1 ∧ hi = 5) ∨ (j = 3 ∧ i = 2 ∧ k = 6 ∧ lo = 0 ∧ hi = 9) ∨ (j = 4 ∧ i = 3 ∧ k = 7 ∧ lo = 1 ∧ hi = 9)) (h : Rd B L A (wd j ++ ([32] ++ (dg v ++ ([59] ++ R))))) (h1 : lo ≤ v) (h2 : ((v : Nat) : Int) ≤ hi) (hb : (A.1 5).toNat.testBit i = false) :
    Rd B L (aM B L (aSt B L W H A)) R ∧ (aM B L (aSt B L W H A)).2 = rs A.2 k v ∧ (aM B L (aSt B L W H A)).1 4 = A.1 4 ∧ (aM B L (aSt B L W H A)).1 5 = (((A.1 5).toNat ||| 2 ^ i : Nat) : Int) ∧ cnd A = true := by
  have hj14 : j < 14 := by omega
  have a := h 1 _ _ rfl (wd_t hj14 hL32)
  have e : aSt B L W H A = aS B L i k lo hi A := by
    unfold aSt
    rw [isw_d a hj14 (k := 1) (by decide), isw_d a hj14 (k := 2) (by decide), isw_d a hj14 (k := 3) (by decide), isw_d a hj14 (k := 4) (by decide)]
    rcases hj with ⟨rfl, rfl, rfl, rfl, rfl⟩ | ⟨rfl, rfl, rfl, rfl, rfl⟩ | ⟨rfl, rfl, rfl, rfl, rfl⟩
    · rw [if_neg (by decide), if_pos (by decide)]
    · rw [if_neg (by decide), if_neg (by decide), if_pos (by decide)]
    · rw [if_neg (by decide), if_neg (by decide), if_neg (by decide), if_pos (by decide)]
  obtain ⟨q1, q2, q3, q4⟩ := aS_at (i := i) (k := k) (show v < 1000 by omega) h1 h2 a hD59 hb
  obtain ⟨m1, m2, m3, m4⟩ := aM_at (q1 3 [59] R [] rfl sp0 t59)
  rw [e]
  exact ⟨m1, m2.trans q2, m3.trans q3, m4.trans q4, cnd_1 a (by decide)⟩
theorem stC {v w : Nat} {R : List Nat} (h : Rd B L A (wd 1 ++ ([32] ++ (dg v ++ ([32] ++ (dg w ++ ([59] ++ R))))))) (v1 : 1 ≤ v) (v2 : v < 1000) (w1 : 1 ≤ w) (w2 : w < 1000) (hb : (A.1 5).toNat.testBit 0 = false) :
    Rd B L (aM B L (aSt B L W H A)) R ∧ (aM B L (aSt B L W H A)).2 = rs (rs A.2 15 v) 16 w ∧ (aM B L (aSt B L W H A)).1 4 = A.1 4 ∧ (aM B L (aSt B L W H A)).1 5 = (((A.1 5).toNat ||| 2 ^ 0 : Nat) : Int) ∧ cnd A = true := by
  have a := h 1 _ _ rfl (wd_t (by decide) hL32)
  have e : aSt B L W H A = aC B L A := by
    unfold aSt
    rw [isw_d a (by decide) (k := 1) (by decide), if_pos (by decide)]
  obtain ⟨q1, q2, q3, q4⟩ := aS_at (i := 0) (k := 15) (lo := 1) (hi := 9999) v2 (by omega) (by omega) a hD32 hb
  have b := q1 2 (dg w) ([59] ++ R) [32] rfl sp1 (dg_t w2 hD59)
  obtain ⟨n1, n2⟩ := aN_at (lo := 1) (hi := 9999) w2 b (by omega) (by omega)
  have ec : aC B L A = ((aT B L (aS B L 0 15 1 9999 A)).1, rs (aT B L (aS B L 0 15 1 9999 A)).2 16 (w : Nat)) := by
    unfold aC
    dsimp only
    rw [n1, n2]
  obtain ⟨-, -, v4, v5, -, -, -, -, v0⟩ := aT_v (B := B) (L := L) (A := aS B L 0 15 1 9999 A)
  have c3 : At B L (aC B L A) 3 [59] R := by
    rw [ec]
    exact (aT_at (sp := []) b rfl sp0 t59).1
  obtain ⟨m1, m2, m3, m4⟩ := aM_at c3
  rw [e]
  refine ⟨m1, m2.trans ?_, m3.trans ?_, m4.trans ?_, cnd_1 a (by decide)⟩
  · rw [ec]
    show rs (aT B L (aS B L 0 15 1 9999 A)).2 16 _ = _
    rw [v0, q2]
  · rw [ec]; exact v4.trans q3
  · rw [ec]; exact v5.trans q4
theorem kow_at {κ : Nat} (hκ : κ ≤ 5) {l : List Nat} (a : At B L A 1 (wd (6 + κ)) l) : kow B A = (κ : Nat) := by
  unfold kow
  rw [isw_d a (by omega) (k := 6) (by decide), isw_d a (by omega) (k := 7) (by decide), isw_d a (by omega) (k := 8) (by decide), isw_d a (by omega) (k := 9) (by decide), isw_d a (by omega) (k := 10) (by decide), isw_d a (by omega) (k := 11) (by decide)]
  have : κ = 0 ∨ κ = 1 ∨ κ = 2 ∨ κ = 3 ∨ κ = 4 ∨ κ = 5 := by omega
  rcases this with rfl | rfl | rfl | rfl | rfl | rfl <;> decide
/-- the text of a piece -/
def txP (s κ x y : Nat) : List Nat := wd (if s = 0 then 5 else 12) ++ ([32] ++ (wd (6 + κ) ++ ([32] ++ (dg x ++ ([32] ++ (dg y ++ [59]))))))
theorem stP {s κ x y : Nat} {R : List Nat} (hs : s ≤ 1) (hκ : κ ≤ 5) (hW : WH W H) (hx : x < W) (hy : y < H) (h : Rd B L A (txP s κ x y ++ R)) (h4 : A.1 4 < 32) (hb : κ = 0 → (A.1 5).toNat.testBit (4 + s) = false) (h0 : A.2 (24 + (x + W * y)) = 0) :
    Rd B L (aM B L (aSt B L W H A)) R ∧ (aM B L (aSt B L W H A)).2 = rpl A.2 (x + W * y) ((κ : Nat) + 6 * (s : Nat) + 1) ∧ (aM B L (aSt B L W H A)).1 4 = A.1 4 + 1 ∧ (aM B L (aSt B L W H A)).1 5 = (if κ = 0 then (((A.1 5).toNat ||| 2 ^ (4 + s) : Nat) : Int) else A.1 5) ∧ cnd A = true := by
  obtain ⟨w1, w2, w3, w4⟩ := hW
  have eT : txP s κ x y ++ R = wd (if s = 0 then 5 else 12) ++ ([32] ++ (wd (6 + κ) ++ ([32] ++ (dg x ++ ([32] ++ (dg y ++ ([59] ++ R))))))) := by
    unfold txP
    simp only [List.append_assoc]
  have hj14 : (if s = 0 then 5 else 12) < 14 := by split <;> omega
  have a := h 1 _ _ eT (wd_t hj14 hL32)
  have e : aSt B L W H A = aP B L s W H A := by
    unfold aSt
    rw [isw_d a hj14 (k := 1) (by decide), isw_d a hj14 (k := 2) (by decide), isw_d a hj14 (k := 3) (by decide), isw_d a hj14 (k := 4) (by decide), isw_d a hj14 (k := 5) (by decide), isw_d a hj14 (k := 12) (by decide)]
    have : s = 0 ∨ s = 1 := by omega
    rcases this with rfl | rfl
    · rw [if_neg (by decide), if_neg (by decide), if_neg (by decide), if_neg (by decide), if_pos (by decide)]
    · rw [if_neg (by decide), if_neg (by decide), if_neg (by decide), if_neg (by decide), if_neg (by decide), if_pos (by decide)]
  have e4 : aP4 B L s A = aT B L A := by
    unfold aP4
    rw [if_pos h4]
  obtain ⟨a4, s4⟩ := aT_at a rfl sp1 (wd_t (j := 6 + κ) (l := [32] ++ (dg x ++ ([32] ++ (dg y ++ ([59] ++ R))))) (by omega) hL32)
  rw [← e4] at a4 s4
  have k4 := kow_at hκ a4
  have kk : At B L (aK B L s (aP4 B L s A)) 2 (dg x) ([32] ++ (dg y ++ ([59] ++ R))) ∧ (aK B L s (aP4 B L s A)).2 = A.2 ∧ (aK B L s (aP4 B L s A)).1 4 = A.1 4 ∧ (aK B L s (aP4 B L s A)).1 5 = (if κ = 0 then (((A.1 5).toNat ||| 2 ^ (4 + s) : Nat) : Int) else A.1 5) := by
    unfold aK
    rw [k4, if_neg (show ¬ ((κ : Nat) : Int) = -1 by omega)]
    by_cases q : κ = 0
    · rw [if_pos (show ((κ : Nat) : Int) = 0 by omega), if_pos q]
      obtain ⟨o1, o2, o3, o4⟩ := aO_at (i := 4 + s) a4 (by rw [s4.2.2]; exact hb q) rfl sp1 (dg_t (v := x) (by omega) hD32)
      exact ⟨o1, o2.trans s4.1, o3.trans s4.2.1, by rw [o4, s4.2.2]⟩
    · rw [if_neg (show ¬ ((κ : Nat) : Int) = 0 by omega), if_neg q]
      obtain ⟨o1, o2⟩ := aT_at a4 rfl sp1 (dg_t (v := x) (by omega) hD32)
      exact ⟨o1, o2.1.trans s4.1, o2.2.1.trans s4.2.1, o2.2.2.trans s4.2.2⟩
  obtain ⟨k1, k2, k3, k5⟩ := kk
  obtain ⟨n1, n2⟩ := aN_at (lo := 0) (hi := (W : Int) - 1) (show x < 1000 by omega) k1 (by omega) (by omega)
  have e5 : aP5 B L s W A = aT B L (aK B L s (aP4 B L s A)) := by
    unfold aP5
    rw [n2]
  obtain ⟨a5, s5⟩ := aT_at k1 rfl sp1 (dg_t (v := y) (l := [59] ++ R) (by omega) hD59)
  rw [← e5] at a5 s5
  obtain ⟨p1, p2⟩ := aN_at (lo := 0) (hi := (H : Int) - 1) (show y < 1000 by omega) a5 (by omega) (by omega)
  have e6 : aP6 B L s W H A = aT B L (aP5 B L s W A) := by
    unfold aP6
    rw [p2]
  obtain ⟨a6, s6⟩ := aT_at (sp := []) a5 rfl sp0 (t59 (l := R))
  rw [← e6] at a6 s6
  have ex : aPx B L s W A = (x : Nat) := n1
  have ey : aPy B L s W H A = (y : Nat) := p1
  have ecell : aPc B L s W H A = x + W * y := by
    unfold aPc
    rw [ex, ey, Int.toNat_natCast, Int.toNat_natCast]
  have r6 : (aP6 B L s W H A).2 = A.2 := s6.1.trans (s5.1.trans k2)
  have e7 : aP7 B L s W H A = aP6 B L s W H A := by
    unfold aP7
    rw [ecell, r6, if_pos h0]
  have eP : aP B L s W H A = (rs (aP6 B L s W H A).1 4 ((aP6 B L s W H A).1 4 + 1), rpl A.2 (x + W * y) ((κ : Nat) + 6 * (s : Nat) + 1)) := by
    unfold aP
    rw [e7, r6, ecell, k4]
  have aPa : At B L (aP B L s W H A) 3 [59] R := by
    rw [eP]
    obtain ⟨b1, b2, u, b3, b4, b5⟩ := a6
    refine ⟨?_, ?_, u, ?_, ?_, b5⟩ <;> dsimp only <;> rw [rs_ne (by decide)] <;> assumption
  obtain ⟨m1, m2, m3, m4⟩ := aM_at aPa
  rw [e]
  refine ⟨m1, m2.trans (by rw [eP]), m3.trans ?_, m4.trans ?_, cnd_1 a (by decide)⟩
  · rw [eP]
    dsimp only
    rw [rs_eq, s6.2.1, s5.2.1, k3]
  · rw [eP]
    dsimp only
    rw [rs_ne (by decide), s6.2.2, s5.2.2, k5]
/-- the text of a fog -/
def txF (f l e : Nat) : List Nat := wd 13 ++ ([32] ++ (dg f ++ ([32] ++ (dg l ++ ([32] ++ (dg e ++ [59]))))))
theorem stF {f l e : Nat} {R : List Nat} (hf : f < 1000) (l1 : 1 ≤ l) (l2 : l ≤ 999) (e1 : 1 ≤ e) (e2 : e ≤ 9) (h : Rd B L A (txF f l e ++ R)) (h8 : A.2 8 < 8) (hn : ∀ k : Nat, k < (A.2 8).toNat → A.2 (280 + 3 * k) ≠ (f : Nat)) :
    Rd B L (aM B L (aSt B L W H A)) R ∧ (aM B L (aSt B L W H A)).2 = raf A.2 (ip (fun k => A.2 (280 + 3 * k)) (f : Nat) (A.2 8).toNat) (f : Nat) (l : Nat) (e : Nat) ∧ (aM B L (aSt B L W H A)).1 4 = A.1 4 ∧ (aM B L (aSt B L W H A)).1 5 = A.1 5 ∧ cnd A = true := by
  have eT : txF f l e ++ R = wd 13 ++ ([32] ++ (dg f ++ ([32] ++ (dg l ++ ([32] ++ (dg e ++ ([59] ++ R))))))) := by
    unfold txF
    simp only [List.append_assoc]
  have a := h 1 _ _ eT (wd_t (by decide) hL32)
  have eS : aSt B L W H A = aG B L A := by
    unfold aSt
    rw [isw_d a (by decide) (k := 1) (by decide), isw_d a (by decide) (k := 2) (by decide), isw_d a (by decide) (k := 3) (by decide), isw_d a (by decide) (k := 4) (by decide), isw_d a (by decide) (k := 5) (by decide), isw_d a (by decide) (k := 12) (by decide), isw_d a (by decide) (k := 13) (by decide), if_neg (by decide), if_neg (by decide), if_neg (by decide), if_neg (by decide), if_neg (by decide), if_neg (by decide), if_pos (by decide)]
  have g1 : aG1 B L A = aT B L A := by
    unfold aG1
    rw [if_pos h8]
  obtain ⟨a1, s1⟩ := aT_at a rfl sp1 (dg_t (v := f) (l := [32] ++ (dg l ++ ([32] ++ (dg e ++ ([59] ++ R))))) hf hD32)
  rw [← g1] at a1 s1
  obtain ⟨n1, n2⟩ := aN_at (lo := 0) (hi := 9999) hf a1 (by omega) (by omega)
  have ef : aGf B L A = (f : Nat) := n1
  have g2 : aG2 B L A = aT B L (aG1 B L A) := by
    unfold aG2
    rw [n2]
  obtain ⟨a2, s2⟩ := aT_at a1 rfl sp1 (dg_t (v := l) (l := [32] ++ (dg e ++ ([59] ++ R))) (by omega) hD32)
  rw [← g2] at a2 s2
  have g3 : aG3 B L A = aG2 B L A := by
    unfold aG3
    rw [ef, if_neg]
    rw [ff_ex]
    rintro ⟨c, hc, h⟩
    exact hn c hc (of_decide_eq_true h)
  rw [← g3] at a2 s2
  obtain ⟨p1, p2⟩ := aN_at (lo := 1) (hi := 999) (show l < 1000 by omega) a2 (by omega) (by omega)
  have el : aGl B L A = (l : Nat) := p1
  have g4 : aG4 B L A = aT B L (aG3 B L A) := by
    unfold aG4
    rw [p2]
  obtain ⟨a4, s4⟩ := aT_at a2 rfl sp1 (dg_t (v := e) (l := [59] ++ R) (by omega) hD59)
  rw [← g4] at a4 s4
  obtain ⟨q1, q2⟩ := aN_at (lo := 1) (hi := 9) (show e < 1000 by omega) a4 (by omega) (by omega)
  have ee : aGe B L A = (e : Nat) := q1
  have g5 : aG5 B L A = aT B L (aG4 B L A) := by
    unfold aG5
    rw [q2]
  obtain ⟨a5, s5⟩ := aT_at (sp := []) a4 rfl sp0 (t59 (l := R))
  rw [← g5] at a5 s5
  have eG : aG B L A = ((aG5 B L A).1, raf A.2 (ip (fun k => A.2 (280 + 3 * k)) (f : Nat) (A.2 8).toNat) (f : Nat) (l : Nat) (e : Nat)) := by
    unfold aG
    rw [ef, el, ee, if_pos h8]
  have aGa : At B L (aG B L A) 3 [59] R := by
    rw [eG]
    exact a5
  obtain ⟨m1, m2, m3, m4⟩ := aM_at aGa
  have ss := (s1.tr s2).tr (s4.tr s5)
  rw [eS]
  exact ⟨m1, m2.trans (by rw [eG]), m3.trans (by rw [eG]; exact ss.2.1), m4.trans (by rw [eG]; exact ss.2.2), cnd_1 a (by decide)⟩
end TC
