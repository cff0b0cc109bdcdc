/-! What is printed, in both. -/
section CM
variable {m : Mm} {r : Nat → Int} {W H n : Nat}
/-- a call that prints -/
theorem Inv.o {m' : Mm} (h : Inv n m) (q : ∀ a, core a → a ≠ 20 → a ≠ 248 → a ≠ 265 → m' a = m a) (q1 : ∀ k, k ≠ 10 → m' 20 k = m 20 k) (q2 : ∀ k, k ≠ 0 → k ≠ 30 → m' 249 k = m 249 k) (qo : iOut m') : Inv (n + 1) m' := by
  obtain ⟨h1, h2, h3, h4, h5, h6, h7, h8⟩ := h
  have lo : ∀ a, a < 42 → a ≠ 20 → m' a = m a := fun a ha hb => q a (Or.inl ha) hb (by omega) (by omega)
  have mid : ∀ a, 61 ≤ a → a < 234 → m' a = m a := fun a ha hb => q a (Or.inr (Or.inl ⟨ha, hb⟩)) (by omega) (by omega) (by omega)
  have hi : ∀ a, (a = 250 ∨ a = 255 ∨ a = 256 ∨ a = 264) → m' a = m a := fun a ha => q a (by unfold core; omega) (by omega) (by omega) (by omega)
  have mo : ((n : Nat) : Int) ≤ ((n + 1 : Nat) : Int) := by omega
  refine ⟨?_, ?_, ?_, ?_, ?_, ?_, ?_, qo⟩
  · unfold VL; rw [lo 0 (by decide) (by decide), lo 1 (by decide) (by decide)]; exact h1
  · intro k hk i hi'
    rw [lo (3 + k) (by omega) (by omega)]; exact h2 k hk i hi'
  · obtain ⟨r, W, H, a1, a2, a3⟩ := h3
    exact ⟨r, W, H, a1.mm (hi _ (by decide)), a2.mono mo, a3.mm (fun a _ _ => lo a (by omega) (by omega))⟩
  · obtain ⟨B, b1, b2, b3⟩ := h4
    refine ⟨B, by rw [q1 4 (by decide)]; exact b1, by rw [q2 9 (by decide) (by decide)]; exact b2, fun hB => ?_⟩
    obtain ⟨r, W, H, a1, a2, a3⟩ := b3 hB
    exact ⟨r, W, H, a1.mm (hi _ (by decide)), a2.mono mo, a3.mm (fun a _ _ => mid a (by omega) (by omega))⟩
  · obtain ⟨k, x, b1, b2, b3, b4, b5, b6⟩ := h5
    refine ⟨k, x, b1, b2, by rw [mid 80 (by decide) (by decide)]; exact b3, by rw [mid 80 (by decide) (by decide)]; exact b4, by rw [q2 8 (by decide) (by decide)]; exact b5, fun j hj => ?_⟩
    obtain ⟨r, W, H, a1, a2, a3⟩ := b6 j hj
    exact ⟨r, W, H, a1.mm (hi _ (by decide)), a2.mono mo, a3.mm (fun a _ _ => mid a (by omega) (by omega))⟩
  · obtain ⟨l, b1, b2, b3, b4⟩ := h6
    exact ⟨l, b1, by rw [lo 21 (by decide) (by decide)]; exact b2, by rw [q2 18 (by decide) (by decide)]; exact b3, fun i hi' => by rw [lo 22 (by decide) (by decide), hi 264 (by decide)]; exact b4 i hi'⟩
  · exact ⟨by rw [lo 21 (by decide) (by decide), q2 25 (by decide) (by decide)]; exact h7.1, by rw [lo 21 (by decide) (by decide), q2 26 (by decide) (by decide)]; exact h7.2⟩
/-- the byte that a number leaves -/
def bt (x : Int32) : Int32 := x.toInt8.toInt32.toInt8.toInt32
/-- the class has printed l, the reference has -/
def OC (m m' : Mm) (l : List Int32) : Prop := (∀ a, a ≠ 20 → a ≠ 248 → m' a = m a) ∧ (∀ k, k ≠ 10 → m' 20 k = m 20 k) ∧ m' 20 10 = zI (l.length : Nat) ∧ ∀ i, i < l.length → m' 248 i = bt (l.getD i 0)
def OM (m m' : Mm) (l : List Int32) : Prop := (∀ a, a ≠ 249 → a ≠ 265 → m' a = m a) ∧ (∀ k, k ≠ 30 → m' 249 k = m 249 k) ∧ m' 249 30 = zI (l.length : Nat) ∧ ∀ i, i < l.length → m' 265 i = bt (l.getD i 0)
theorem OC.nil : OC m (wr m 20 10 0) [] := ⟨fun a h _ => wr_ne h, fun k hk => wr_nk hk, wr_eq, fun i hi => absurd hi (Nat.not_lt_zero i)⟩
theorem OM.nil : OM m (wr m 249 30 0) [] := ⟨fun a h _ => wr_ne h, fun k hk => wr_nk hk, wr_eq, fun i hi => absurd hi (Nat.not_lt_zero i)⟩
theorem gd_app {l : List Int32} {x : Int32} {i : Nat} (hi : i < l.length + 1) : (l ++ [x]).getD i 0 = if i = l.length then x else l.getD i 0 := by
  by_cases h : i = l.length
  · subst h; rw [if_pos rfl]; simp
  · rw [if_neg h]; simp [List.getD, List.getElem?_append_left (show i < l.length by omega)]
theorem c171 {m' : Mm} {l : List Int32} {x : Int32} (h : OC m m' l) (hl : l.length < 279) : An (d_171 20 x m') (fun m2 => OC m m2 (l ++ [x])) := by
  obtain ⟨h1, h2, h3, h4⟩ := h
  have n9 : sh_n 248 = 279 := by decide +kernel
  unfold d_171
  rw [k_r9, n9, h3, zI_on, if_neg (by rw [zI_le (by omega) (by omega) (by omega) (by omega)]; omega), if_pos (in_k (by omega) (by decide)), z_ix (by omega)]
  simp only [wbs]
  refine An.so ⟨fun a a1 a2 => ?_, fun k hk => ?_, ?_, fun i hi => ?_⟩
  · rw [wr_ne a1, wr_ne a2]; exact h1 a a1 a2
  · rw [wr_nk hk, wr_ne (by decide)]; exact h2 k hk
  · rw [wr_eq, wr_ne (by decide), h3, zl_1, zI_add, List.length_append, List.length_singleton]
    rfl
  · rw [List.length_append, List.length_singleton] at hi
    rw [wr_ne (by decide), gd_app hi]
    by_cases e : i = l.length
    · rw [e, wr_eq, if_pos rfl]; rfl
    · rw [wr_nk e, if_neg e]; exact h4 i (by omega)
theorem m305 {m' : Mm} {l : List Int32} {x : Int32} (h : OM m m' l) (hl : l.length < 279) : An (d_305 249 x m') (fun m2 => OM m m2 (l ++ [x])) := by
  obtain ⟨h1, h2, h3, h4⟩ := h
  unfold d_305
  rw [m_r29, n_265, h3, if_pos (in_k (by omega) (by decide)), z_ix (by omega)]
  simp only [wbs]
  refine An.so ⟨fun a a1 a2 => ?_, fun k hk => ?_, ?_, fun i hi => ?_⟩
  · rw [wr_ne a1, wr_ne a2]; exact h1 a a1 a2
  · rw [wr_nk hk, wr_ne (by decide)]; exact h2 k hk
  · rw [wr_eq, wr_ne (by decide), h3, zl_1, zI_add, List.length_append, List.length_singleton]
    rfl
  · rw [List.length_append, List.length_singleton] at hi
    rw [wr_ne (by decide), gd_app hi]
    by_cases e : i = l.length
    · rw [e, wr_eq, if_pos rfl]; rfl
    · rw [wr_nk e, if_neg e]; exact h4 i (by omega)
/-- both have printed the same -/
theorem Inv.pr {m1 m2 m3 : Mm} {l : List Int32} (hI : Inv n m) (hl : l.length ≤ 279) (h1 : OC m m1 l) (hq : Qe m1 m2) (h2 : OM m2 m3 l) : Inv (n + 1) m3 := by
  obtain ⟨a1, a2, a3, a4⟩ := h1
  obtain ⟨b1, b2, b3, b4⟩ := h2
  have e20 : m3 20 = m1 20 := by rw [b1 20 (by decide) (by decide)]; exact hq.1 20 (Or.inl (by decide))
  have e248 : m3 248 = m1 248 := by rw [b1 248 (by decide) (by decide)]; exact hq.1 248 (by unfold core; decide)
  refine hI.o (fun a ha n1 n2 n3 => ?_) (fun k hk => ?_) (fun k hk hk2 => ?_) ⟨l.length, hl, ?_, b3, fun i hi => ?_⟩
  · rw [b1 a (by unfold core at ha; omega) n3, hq.1 a ha]; exact a1 a n1 n2
  · rw [e20]; exact a2 k hk
  · rw [b2 k hk2, hq.2 k hk, a1 249 (by decide) (by decide)]
  · rw [e20]; exact a3
  · rw [e248, a4 i hi, b4 i hi]
end CM
