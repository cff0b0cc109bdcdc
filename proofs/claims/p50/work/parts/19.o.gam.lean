/-! A game of the class, and the row that it shows. -/
theorem ilg_n {a b : Int} : zI (if b < a then 1 else if a = b then 0 else -1) < 0 ↔ a < b := by
  by_cases h : b < a
  · rw [if_pos h]; exact ⟨fun q => absurd q (by decide), fun q => by omega⟩
  · rw [if_neg h]
    by_cases e : a = b
    · rw [if_pos e]; exact ⟨fun q => absurd q (by decide), fun q => by omega⟩
    · rw [if_neg e]; exact ⟨fun _ => by omega, fun _ => by decide⟩
theorem ilg_p {a b : Int} : 0 < zI (if b < a then 1 else if a = b then 0 else -1) ↔ b < a := by
  by_cases h : b < a
  · rw [if_pos h]; exact ⟨fun _ => h, fun _ => by decide⟩
  · rw [if_neg h]
    by_cases e : a = b
    · rw [if_pos e]; exact ⟨fun q => absurd q (by decide), fun q => by omega⟩
    · rw [if_neg e]; exact ⟨fun q => absurd q (by decide), fun q => by omega⟩
def bA (β : Nat) : Prop := sh_r β 0 = β + 1 ∧ sh_r β 1 = β + 3 ∧ fA (β + 1) ∧ fA (β + 3)
def oA (φ : Nat) : Prop := sh_r φ 0 = φ + 1 ∧ sh_r φ 1 = φ + 2 ∧ sh_r φ 2 = φ + 3 ∧ sh_n (φ + 1) = 8 ∧ sh_n (φ + 2) = 8 ∧ sh_n (φ + 3) = 8
def lA (q : Nat) : Prop := sh_r q 0 = q + 1 ∧ sh_n (q + 1) = 160
def gA (g : Nat) : Prop := g = 23 ∨ g = 42 ∨ g = 61 ∨ ∃ i, i < 8 ∧ g = 82 + 19 * i
def gF (g : Nat) : Prop := sh_r g 0 = g + 1 ∧ sh_r g 1 = g + 6 ∧ sh_r g 2 = g + 11 ∧ sh_r g 3 = g + 15 ∧ sh_r g 4 = g + 17 ∧ bA (g + 1) ∧ bA (g + 6) ∧ oA (g + 11) ∧ lA (g + 15) ∧ lA (g + 17)
theorem gF_l : ∀ i, i < 8 → gF (82 + 19 * i) := by
  unfold gF bA oA lA fA
  decide +kernel
theorem gA_F {g : Nat} (h : gA g) : gF g := by
  rcases h with rfl | rfl | rfl | ⟨i, hi, rfl⟩
  · unfold gF bA oA lA fA; decide +kernel
  · unfold gF bA oA lA fA; decide +kernel
  · unfold gF bA oA lA fA; decide +kernel
  · exact gF_l i hi
/-- a tower's board shows a board, how it was, how many moves, whose the latest was and its cells -/
def BV (m : Mm) (β W H : Nat) (bn bb : Nat → Int) (c s fr to : Int) : Prop := FR m (β + 1) W H bn ∧ FR m (β + 3) W H bb ∧ m β 2 = zI c ∧ m β 3 = zI s ∧ (s ≠ -1 → m β 4 = zI fr ∧ m β 5 = zI to)
theorem BV.mm {m m' : Mm} {β W H : Nat} {bn bb : Nat → Int} {c s fr to : Int} (h : BV m β W H bn bb c s fr to) (e : ∀ a, β ≤ a → a ≤ β + 4 → m' a = m a) : BV m' β W H bn bb c s fr to := by
  obtain ⟨h1, h2, h3⟩ := h
  refine ⟨h1.mm (e _ (by omega) (by omega)) (e _ (by omega) (by omega)), h2.mm (e _ (by omega) (by omega)) (e _ (by omega) (by omega)), ?_⟩
  rw [e β (by omega) (by omega)]
  exact h3
/-- fogs -/
def FV (m : Mm) (φ : Nat) (n : Int) (F L E : Nat → Int) : Prop := m φ 3 = zI n ∧ ∀ k : Nat, (k : Int) < n → m (φ + 1) k = zI (F k) ∧ m (φ + 2) k = zI (L k) ∧ m (φ + 3) k = zI (E k)
theorem FV.mm {m m' : Mm} {φ : Nat} {n : Int} {F L E : Nat → Int} (h : FV m φ n F L E) (e : ∀ a, φ ≤ a → a ≤ φ + 3 → m' a = m a) : FV m' φ n F L E := by
  obtain ⟨h1, h2⟩ := h
  refine ⟨by rw [e _ (by omega) (by omega)]; exact h1, fun k hk => ?_⟩
  rw [e _ (by omega) (by omega), e _ (by omega) (by omega), e _ (by omega) (by omega)]
  exact h2 k hk
/-- rows that are kept -/
def LV (m : Mm) (q : Nat) (n c : Int) (J : Nat) (P : Nat → Nat → Int) : Prop := m q 1 = zI n ∧ m q 2 = zI c ∧ ∀ k j : Nat, (k : Int) < n → j < J → m (q + 1) (8 * k + j) = zI (P k j)
theorem LV.mm {m m' : Mm} {q : Nat} {n c : Int} {J : Nat} {P : Nat → Nat → Int} (h : LV m q n c J P) (e : ∀ a, q ≤ a → a ≤ q + 1 → m' a = m a) : LV m' q n c J P := by
  obtain ⟨h1, h2, h3⟩ := h
  refine ⟨by rw [e _ (by omega) (by omega)]; exact h1, by rw [e _ (by omega) (by omega)]; exact h2, fun k j hk hj => ?_⟩
  rw [e _ (by omega) (by omega)]
  exact h3 k j hk hj
/-- the other numbers -/
def SV (m : Mm) (g : Nat) (r : Nat → Int) : Prop := m g 5 = zI (r 2) ∧ m g 6 = zI (r 3) ∧ m g 7 = zI (r 4) ∧ m g 8 = zI (r 5) ∧ m g 9 = zI (r 6) ∧ m g 10 = zI (r 7) ∧ m g 11 = zI (r 15) ∧ m g 12 = zI (r 16)
def gi (W : Nat) (z : Int) : Int := gio W z.toNat
def made_ (r : Nat → Int) (W : Nat) (k j : Nat) : Int := if j = 1 ∨ j = 2 then gi W (r (464 + 6 * k + j)) else r (464 + 6 * k + j)
def GR (m : Mm) (g : Nat) (r : Nat → Int) (W H : Nat) : Prop :=
  BV m (g + 1) W H (fun c => r (24 + c)) (fun c => r (152 + c)) (r 9) (r 17) (gi W (r 19)) (gi W (r 21)) ∧
  BV m (g + 6) W H (fun c => r (88 + c)) (fun c => r (216 + c)) (r 10) (r 18) (gi W (r 20)) (gi W (r 22)) ∧
  FV m (g + 11) (r 8) (fun k => r (280 + 3 * k)) (fun k => r (281 + 3 * k)) (fun k => r (282 + 3 * k)) ∧
  LV m (g + 15) (r 13) (r 12) 8 (fun k j => r (304 + 8 * k + j)) ∧ LV m (g + 17) (r 14) (r 11) 6 (made_ r W) ∧ SV m g r
theorem GR.mm {m m' : Mm} {g : Nat} {r : Nat → Int} {W H : Nat} (h : GR m g r W H) (e : ∀ a, g ≤ a → a ≤ g + 18 → m' a = m a) : GR m' g r W H := by
  obtain ⟨h1, h2, h3, h4, h5, h6⟩ := h
  refine ⟨h1.mm (fun a _ _ => e a (by omega) (by omega)), h2.mm (fun a _ _ => e a (by omega) (by omega)), h3.mm (fun a _ _ => e a (by omega) (by omega)), h4.mm (fun a _ _ => e a (by omega) (by omega)), h5.mm (fun a _ _ => e a (by omega) (by omega)), ?_⟩
  unfold SV
  rw [e g (by omega) (by omega)]
  exact h6
theorem ix_0 : ix (0 : Int32) = 0 := by decide
theorem ix_8 : ix (8 : Int32) = 8 := by decide
theorem va_cpy_0 {f g : Nat → Int32} {n k : Nat} (h : k < n) : va_cpy f g 0 0 n k = f k := by
  unfold va_cpy
  rw [if_pos ⟨Nat.zero_le _, by omega⟩, Nat.sub_zero, Nat.zero_add]
theorem wa_ne {m : Mm} {a b : Nat} {f : Nat → Int32} (h : b ≠ a) : wa m a f b = m b := if_neg h
theorem wa_eq {m : Mm} {a : Nat} {f : Nat → Int32} : wa m a f a = f := if_pos rfl
section GC
variable {m : Mm} {W H : Nat}
theorem c2 {β β' : Nat} {bn bb : Nat → Int} {c s fr to : Int} (hb : bA β) (hb' : bA β') (hd : β' + 4 < β ∨ β + 4 < β') (h : BV m β W H bn bb c s fr to) :
    An (d_2 β' β m) (fun m' => BV m' β' W H bn bb c s fr to ∧ ∀ a, a < β' ∨ β' + 4 < a → m' a = m a) := by
  obtain ⟨a1, a2, a3, a4⟩ := hb
  obtain ⟨b1, b2, b3, b4⟩ := hb'
  obtain ⟨h1, h2, h3, h4, h5⟩ := h
  unfold d_2
  rw [a1, a2, b1, b2]
  refine An.bd (c11 a3 b3 h1 (by omega)) (fun m1 k1 => ?_)
  have h2' : FR m1 (β + 3) W H bb := h2.mm (k1.2 _ (by omega) (by omega)) (k1.2 _ (by omega) (by omega))
  refine An.bd (c11 a4 b4 h2' (by omega)) (fun m2 k2 => ?_)
  have e : m2 β = m β := by rw [k2.2 _ (by omega) (by omega), k1.2 _ (by omega) (by omega)]
  have ne : β ≠ β' := by omega
  simp only [wbs, wr_ne ne, e]
  refine An.so ⟨⟨?_, ?_, ?_, ?_, fun q => ⟨?_, ?_⟩⟩, fun a ha => ?_⟩
  · refine k1.1.mm ?_ ?_
    · rw [wr_ne (by omega), wr_ne (by omega), wr_ne (by omega), wr_ne (by omega), k2.2 _ (by omega) (by omega)]
    · rw [wr_ne (by omega), wr_ne (by omega), wr_ne (by omega), wr_ne (by omega), k2.2 _ (by omega) (by omega)]
  · refine k2.1.mm ?_ ?_
    · rw [wr_ne (by omega), wr_ne (by omega), wr_ne (by omega), wr_ne (by omega)]
    · rw [wr_ne (by omega), wr_ne (by omega), wr_ne (by omega), wr_ne (by omega)]
  · rw [wr_nk (by decide), wr_nk (by decide), wr_nk (by decide), wr_eq]; exact h3
  · rw [wr_nk (by decide), wr_nk (by decide), wr_eq]; exact h4
  · rw [wr_nk (by decide), wr_eq]; exact (h5 q).1
  · rw [wr_eq]; exact (h5 q).2
  · rw [wr_ne (by omega), wr_ne (by omega), wr_ne (by omega), wr_ne (by omega), k2.2 _ (by omega) (by omega), k1.2 _ (by omega) (by omega)]
theorem c38 {φ φ' : Nat} {n : Int} {F L E : Nat → Int} (hb : oA φ) (hb' : oA φ') (hd : φ' + 3 < φ ∨ φ + 3 < φ') (h8 : n ≤ 8) (h : FV m φ n F L E) :
    An (d_38 φ' φ m) (fun m' => FV m' φ' n F L E ∧ ∀ a, a < φ' ∨ φ' + 3 < a → m' a = m a) := by
  obtain ⟨a1, a2, a3, a4, a5, a6⟩ := hb
  obtain ⟨b1, b2, b3, b4, b5, b6⟩ := hb'
  obtain ⟨h1, h2⟩ := h
  unfold d_38
  rw [a1, a2, a3, a4, a5, a6, b1, b2, b3, b4, b5, b6, ix_0, ix_8]
  simp only [wbs]
  rw [if_pos (by decide), if_pos (by decide), if_pos (by decide)]
  refine An.so ⟨⟨?_, fun k hk => ⟨?_, ?_, ?_⟩⟩, fun a ha => ?_⟩
  · rw [wr_eq, wa_ne (by omega), wa_ne (by omega), wa_ne (by omega)]; exact h1
  · rw [wr_ne (by omega), wa_ne (by omega), wa_ne (by omega), wa_eq, va_cpy_0 (by omega)]; exact (h2 k hk).1
  · rw [wr_ne (by omega), wa_ne (by omega), wa_eq, va_cpy_0 (by omega), wa_ne (by omega)]; exact (h2 k hk).2.1
  · rw [wr_ne (by omega), wa_eq, va_cpy_0 (by omega), wa_ne (by omega), wa_ne (by omega)]; exact (h2 k hk).2.2
  · rw [wr_ne (by omega), wa_ne (by omega), wa_ne (by omega), wa_ne (by omega)]
theorem c68 {q q' : Nat} {n c : Int} {J : Nat} {P : Nat → Nat → Int} (hb : lA q) (hb' : lA q') (hd : q' + 1 < q ∨ q + 1 < q') (hJ : J ≤ 8) (h20 : n ≤ 20) (h : LV m q n c J P) :
    An (d_68 q' q m) (fun m' => LV m' q' n c J P ∧ ∀ a, a < q' ∨ q' + 1 < a → m' a = m a) := by
  obtain ⟨a1, a2⟩ := hb
  obtain ⟨b1, b2⟩ := hb'
  obtain ⟨h1, h2, h3⟩ := h
  have e : ix (Int32.ofNat 160) = 160 := by decide
  unfold d_68
  rw [a1, a2, b1, b2, ix_0, e]
  simp only [wbs]
  rw [if_pos (by decide)]
  refine An.so ⟨⟨?_, ?_, fun k j hk hj => ?_⟩, fun a ha => ?_⟩
  · rw [wr_nk (by decide), wr_eq, wa_ne (by omega)]; exact h1
  · rw [wr_eq, wr_ne (by omega), wa_ne (by omega)]; exact h2
  · rw [wr_ne (by omega), wr_ne (by omega), wa_eq, va_cpy_0 (by omega)]; exact h3 k j hk hj
  · rw [wr_ne (by omega), wr_ne (by omega), wa_ne (by omega)]
/-- a game copied -/
theorem c49 {g g' : Nat} {r : Nat → Int} (hg : gA g) (hg' : gA g') (hd : g' + 18 < g ∨ g + 18 < g') (h8 : r 8 ≤ 8) (h13 : r 13 ≤ 20) (h14 : r 14 ≤ 20) (h : GR m g r W H) :
    An (d_49 g' g m) (fun m' => GR m' g' r W H ∧ ∀ a, a < g' ∨ g' + 18 < a → m' a = m a) := by
  obtain ⟨a0, a1, a2, a3, a4, a5, a6, a7, a8, a9⟩ := gA_F hg
  obtain ⟨b0, b1, b2, b3, b4, b5, b6, b7, b8, b9⟩ := gA_F hg'
  obtain ⟨h1, h2, h3, h4, h5, h6⟩ := h
  unfold d_49
  rw [a0, a1, a2, a3, a4, b0, b1, b2, b3, b4]
  refine An.bd (c2 a5 b5 (by omega) h1) (fun m1 k1 => ?_)
  refine An.bd (c2 a6 b6 (by omega) (h2.mm (fun a q1 q2 => k1.2 a (by omega)))) (fun m2 k2 => ?_)
  refine An.bd (c38 a7 b7 (by omega) h8 (h3.mm (fun a q1 q2 => by rw [k2.2 a (by omega), k1.2 a (by omega)]))) (fun m3 k3 => ?_)
  refine An.bd (c68 a8 b8 (by omega) (by decide) h13 (h4.mm (fun a q1 q2 => by rw [k3.2 a (by omega), k2.2 a (by omega), k1.2 a (by omega)]))) (fun m4 k4 => ?_)
  refine An.bd (c68 a9 b9 (by omega) (by decide) h14 (h5.mm (fun a q1 q2 => by rw [k4.2 a (by omega), k3.2 a (by omega), k2.2 a (by omega), k1.2 a (by omega)]))) (fun m5 k5 => ?_)
  have ne : g ≠ g' := by omega
  have e : m5 g = m g := by rw [k5.2 g (by omega), k4.2 g (by omega), k3.2 g (by omega), k2.2 g (by omega), k1.2 g (by omega)]
  simp only [wbs, wr_ne ne, e]
  have fr : ∀ a, a ≠ g' → ∀ v1 v2 v3 v4 v5 v6 v7 v8 : Int32, wr (wr (wr (wr (wr (wr (wr (wr m5 g' 5 v1) g' 6 v2) g' 7 v3) g' 8 v4) g' 9 v5) g' 10 v6) g' 11 v7) g' 12 v8 a = m5 a := fun a ha _ _ _ _ _ _ _ _ => by
    rw [wr_ne ha, wr_ne ha, wr_ne ha, wr_ne ha, wr_ne ha, wr_ne ha, wr_ne ha, wr_ne ha]
  obtain ⟨s1, s2, s3, s4, s5, s6, s7, s8⟩ := h6
  refine An.so ⟨⟨k1.1.mm (fun a q1 q2 => ?_), k2.1.mm (fun a q1 q2 => ?_), k3.1.mm (fun a q1 q2 => ?_), k4.1.mm (fun a q1 q2 => ?_), k5.1.mm (fun a q1 q2 => ?_), ?_⟩, fun a ha => ?_⟩
  · rw [fr a (by omega), k5.2 a (by omega), k4.2 a (by omega), k3.2 a (by omega), k2.2 a (by omega)]
  · rw [fr a (by omega), k5.2 a (by omega), k4.2 a (by omega), k3.2 a (by omega)]
  · rw [fr a (by omega), k5.2 a (by omega), k4.2 a (by omega)]
  · rw [fr a (by omega), k5.2 a (by omega)]
  · rw [fr a (by omega)]
  · unfold SV
    simp only [wr_at, Nat.reduceEqDiff, if_true, if_false, s1, s2, s3, s4, s5, s6, s7, s8, and_self]
  · rw [fr a (by omega), k5.2 a (by omega), k4.2 a (by omega), k3.2 a (by omega), k2.2 a (by omega), k1.2 a (by omega)]
end GC
