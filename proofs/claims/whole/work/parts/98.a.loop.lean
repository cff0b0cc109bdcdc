/-! The law's loop: from the start, and the turns, to the end. -/
def START : Prop := ∀ (L : Nat) (xs : Nat → Int32), L ≤ 3584 → ∃ (b z : Nat) (d : Option Value × Option Value × Option Value × Option Value) (m : Mm), 2100 ≤ b ∧ 13000 ≤ z ∧ ev_dn 601024 7293034 348 0 (some (.ref 2) :: List.replicate 8 none) [] (20, ev_sf L xs) = E_348_23 L 267 b z d (0, m) ∧ Inv 0 m
def STEP : Prop := ∀ (n L : Nat) (m : Mm), Inv n m → 7 * n + 7 ≤ L → L ≤ 3584 → TN n L (s_348_23 L (zI ((7 * n : Nat) : Int)) m)
theorem s_end {n L : Nat} {m : Mm} (h : L < 7 * n + 7) (hL : L ≤ 3584) (hn : 7 * n ≤ L) : s_348_23 L (zI ((7 * n : Nat) : Int)) m = some (.inr (true, m)) := by
  unfold s_348_23
  rw [zI_on, zl_7, zI_sub, if_pos]
  rw [zI_lt (by omega) (by omega) (by omega) (by omega)]
  omega
theorem loop_ok (hS : STEP) {L : Nat} (hL : L ≤ 3584) : ∀ (j n b z : Nat) (d : Option Value × Option Value × Option Value × Option Value) (m : Mm), j + n = L / 7 → Inv n m → 4 * j + 4 ≤ b → 24 * j + 24 ≤ z → ∃ μ' : ev_H, E_348_23 L 267 b z d (zI ((7 * n : Nat) : Int), m) = some (.inl (some (.int 1)), μ') := by
  intro j
  have hN : okn 267 := Or.inr (Or.inr rfl)
  have k0 : ok 267 2 99 := ⟨by decide +kernel, by decide⟩
  have k1 : ok 267 20 10 := ⟨by decide +kernel, by decide⟩
  have k2 : ok 267 249 11 := ⟨by decide +kernel, by decide⟩
  have k3 : ok 267 266 102 := ⟨by decide +kernel, by decide⟩
  induction j with
  | zero =>
    intro n b z d m hj hI hb hz
    have u := u_348_23 (L := L) hN (b := b) (z := z) (by omega) (by omega) (m := m) k0 k1 k2 k3 (x4 := zI ((7 * n : Nat) : Int)) (o5 := d.1) (o6 := d.2.1) (o7 := d.2.2.1) (o8 := d.2.2.2) _ (s_end (by omega) hL (by omega))
    exact ⟨_, u⟩
  | succ j ih =>
    intro n b z d m hj hI hb hz
    obtain ⟨w, e, m', rfl, hI'⟩ := hS n L m hI (by omega) hL
    have u := u_348_23 (L := L) hN (b := b) (z := z) (by omega) (by omega) (m := m) k0 k1 k2 k3 (x4 := zI ((7 * n : Nat) : Int)) (o5 := d.1) (o6 := d.2.1) (o7 := d.2.2.1) (o8 := d.2.2.2) _ e
    obtain ⟨b', z', d', hb', hz', u'⟩ := u
    obtain ⟨μ', h⟩ := ih (n + 1) b' z' d' m' (by omega) hI' (by omega) (by omega)
    refine ⟨μ', ?_⟩
    rw [show 7 * (n + 1) = 7 * n + 7 by omega] at h
    exact u'.trans h
theorem ev_law_of (h0 : START) (hS : STEP) : ev_law_ok := by
  intro L xs hL
  obtain ⟨b, z, d, m, hb, hz, e, hI⟩ := h0 L xs hL
  obtain ⟨μ', h⟩ := loop_ok hS hL (L / 7) 0 b z d m (by omega) hI (by omega) (by omega)
  exact ⟨μ', e.trans h⟩
