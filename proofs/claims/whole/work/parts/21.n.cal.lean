/-! The moves, printed by the reference. -/
section CO
variable {m : Mm} {r : Nat → Int} {W H n : Nat}
theorem OM.rd {m' : Mm} {l : List Int32} (h : OM m m' l) (hG : MW m r W H) {k : Nat} (hk : k < 584) : m' 250 k = zI (r k) := (h.mw hG).1 k hk
theorem m91r {m' : Mm} {l : List Int32} (h : OM m m' l) (hG : MW m r W H) {k : Nat} (hk : k < 20) {t : Nat} (t1 : 1 ≤ t) (t2 : t ≤ 9) (et : r (464 + 6 * k + 4) = (t : Nat)) (hl : l.length + (t - 1) ≤ 279) : An (d_309_91 249 (zI (k : Nat)) (zI ((464 + 6 * k : Nat) : Int)) 1 m') (fun q => ∃ m2, q = .inl (zI ((k + 1 : Nat) : Int), m2) ∧ OM m m2 (l ++ List.replicate (t - 1) 63)) := by
  have e4 : zI ((464 + 6 * k : Nat) : Int) + 4 = zI ((464 + 6 * k + 4 : Nat) : Int) := by rw [zl_4, zI_add]; exact congrArg zI (by omega)
  unfold d_309_91
  refine it_inv (fun j (s : Int32 × Mm) => s.1 = zI (((1 + j : Nat) : Nat) : Int) ∧ OM m s.2 (l ++ List.replicate j 63)) _ (t - 1) ⟨rfl, by simpa using h⟩ (fun j hj s hs => ?_) (fun s hs => ?_)
  · obtain ⟨x, m2⟩ := s
    obtain ⟨rfl, h2⟩ := hs
    change OM m m2 _ at h2
    show An (s_309_91 249 (zI (k : Nat)) (zI ((464 + 6 * k : Nat) : Int)) (zI (((1 + j : Nat) : Nat) : Int)) m2) _
    unfold s_309_91
    rw [e4, m_r1, n_250, if_pos (in_k (by omega) (by decide)), z_ix (by omega), h2.rd hG (by omega), et, if_neg (by rw [zI_le (by omega) (by omega) (by omega) (by omega)]; omega)]
    refine (m305 h2 (by rw [List.length_append, List.length_replicate]; omega)).bd (fun m3 h3 => ?_)
    simp only [wbs]
    refine An.so ⟨?_, by rw [← rp_s]; exact h3⟩
    rw [zl_1, zI_add]
    exact congrArg zI (by omega)
  · obtain ⟨x, m2⟩ := s
    obtain ⟨rfl, h2⟩ := hs
    change OM m m2 _ at h2
    show An (s_309_91 249 (zI (k : Nat)) (zI ((464 + 6 * k : Nat) : Int)) (zI (((1 + (t - 1) : Nat) : Nat) : Int)) m2) _
    unfold s_309_91
    rw [e4, m_r1, n_250, if_pos (in_k (by omega) (by decide)), z_ix (by omega), h2.rd hG (by omega), et, if_pos (by rw [zI_le (by omega) (by omega) (by omega) (by omega)]; omega)]
    simp only [wbs]
    refine An.so ⟨m2, ?_, h2⟩
    rw [zl_1, zI_add]
    rfl
theorem m42r {m' : Mm} {l : List Int32} (h : OM m m' l) (hG : MW m r W H) (hR : RG n r W H) {k : Nat} (hk : (k : Int) < r 14) (hl : l.length + 13 ≤ 279) : An (d_309_42 249 (zI (k : Nat)) (zI ((464 + 6 * k : Nat) : Int)) m') (fun q => ∃ m2, q = .inl (zI ((k + 1 : Nat) : Int), m2) ∧ OM m m2 (l ++ mvb r W k)) := by
  have h14 := hR.2.2.2.2.2.2.2.2.1
  obtain ⟨-, b1, b2, b3, b4⟩ := hR.2.2.2.2.2.2.2.2.2.2.2 k hk
  have e1 : zI ((464 + 6 * k : Nat) : Int) + 1 = zI ((464 + 6 * k + 1 : Nat) : Int) := by rw [zl_1, zI_add]; exact congrArg zI (by omega)
  have e2 : zI ((464 + 6 * k : Nat) : Int) + 2 = zI ((464 + 6 * k + 2 : Nat) : Int) := by rw [zl_2, zI_add]; exact congrArg zI (by omega)
  have e3 : zI ((464 + 6 * k : Nat) : Int) + 3 = zI ((464 + 6 * k + 3 : Nat) : Int) := by rw [zl_3, zI_add]; exact congrArg zI (by omega)
  have tl : ∀ (m2 : Mm) (l2 : List Int32), OM m m2 l2 → l2.length + 11 ≤ 279 → ∀ x : Int32, An (d_309_74 249 (zI (k : Nat)) (zI ((464 + 6 * k : Nat) : Int)) 249 x m2) (fun q => ∃ m3, q = .inl (zI ((k + 1 : Nat) : Int), m3) ∧ OM m m3 (l2 ++ [x] ++ cl W (r (464 + 6 * k + 2)) ++ List.replicate ((r (464 + 6 * k + 4)).toNat - 1) 63)) := by
    intro m2 l2 h2 hl2 x
    unfold d_309_74
    refine (m305 h2 (by omega)).bd (fun m3 h3 => ?_)
    rw [e2, m_r1, n_250, if_pos (in_k (by omega) (by decide)), z_ix (by omega), h3.rd hG (by omega)]
    refine (m308 h3 (by rw [List.length_append, List.length_singleton]; omega) hG b2.1 b2.2).bd (fun m4 h4 => ?_)
    exact m91r h4 hG (by omega) (by omega) (by omega) (by omega) (by simp only [List.length_append, List.length_singleton, cl, List.length_cons, List.length_nil]; omega)
  unfold d_309_42
  rw [e1, e3, m_r1, n_250, if_pos (in_k (by omega) (by decide)), z_ix (by omega), h.rd hG (by omega)]
  refine (m308 h (by omega) hG b1.1 b1.2).bd (fun m2 h2 => ?_)
  rw [if_pos (in_k (by omega) (by decide)), z_ix (by omega), h2.rd hG (by omega)]
  have hl2 : (l ++ cl W (r (464 + 6 * k + 1))).length + 11 ≤ 279 := by simp only [List.length_append, cl, List.length_cons, List.length_nil]; omega
  have ee : zI (r (464 + 6 * k + 3)) = -1 ↔ r (464 + 6 * k + 3) = -1 := by rw [show (-1 : Int32) = zI (-1) from by decide, zI_inj (by omega) (by omega) (by omega) (by omega)]
  unfold mvb
  by_cases q : r (464 + 6 * k + 3) = -1
  · rw [if_neg (fun h => h (ee.2 q)), if_pos q]
    have := tl m2 _ h2 hl2 45
    simp only [List.append_assoc] at this ⊢
    exact this
  · rw [if_pos (fun h => q (ee.1 h)), if_neg q]
    have := tl m2 _ h2 hl2 120
    simp only [List.append_assoc] at this ⊢
    exact this
end CO
