/-! printMoves, by the reference. -/
section CQ
variable {m : Mm} {r : Nat → Int} {W H n : Nat}
theorem m309 {m1 : Mm} (hG : MW m1 r W H) (hR : RG n r W H) (hn : n ≤ 512) : An (d_309 249 m1) (fun p => p.1 = zI ((prf r W).length : Nat) ∧ OM (wr m1 249 0 0) p.2 (prf r W)) := by
  have h14 := hR.2.2.2.2.2.2.2.2.1
  have hG2 : MW (wr m1 249 0 0) r W H := ⟨fun k hk => by rw [wr_ne (by decide)]; exact hG.1 k hk, hG.2⟩
  have el : prl r W (r 14).toNat = [] ↔ r 14 = 0 := by
    have := prl_l hR (k := (r 14).toNat) (by omega)
    rw [← List.length_eq_zero_iff]
    omega
  unfold d_309
  simp only [wbs]
  unfold d_309_12
  rw [zl_0]
  refine it_inv (fun j (s : Int32 × Mm) => s.1 = zI ((j : Nat) : Int) ∧ OM (wr m1 249 0 0) s.2 (prl r W j)) _ (r 14).toNat ⟨rfl, OM.nil⟩ (fun j hj s hs => ?_) (fun s hs => ?_)
  · obtain ⟨x, m2⟩ := s
    obtain ⟨rfl, h2⟩ := hs
    change OM _ m2 _ at h2
    have hl := prl_l hR (k := j) (by omega)
    show An (s_309_12 249 (zI ((j : Nat) : Int)) m2) _
    unfold s_309_12
    rw [m_r1, n_250, if_pos (by decide), show ix (14 : Int32) = 14 from by decide, h2.rd hG2 (by decide), if_neg (by rw [zI_le (by omega) (by omega) (by omega) (by omega)]; omega)]
    simp only [wbs, zl_0, zl_1, zl_2, zl_3, zl_4, zl_5, zl_6, zl_7, zl_8, zl_9, zl_10, zl_11, zl_12, zl_13, zl_14, zl_15, zl_16, zl_17, zl_18, zl_19, zl_20, zl_21, zl_22, zl_23, zl_24, zl_25, zl_26, zl_27, zl_28, zl_29, zl_30, zl_31, zl_32, zl_33, zl_34, zl_35, zl_36, zl_37, zl_38, zl_39, zl_40, zl_41, zl_42, zl_43, zl_44, zl_45, zl_46, zl_47, zl_48, zl_49, zl_50, zl_51, zl_52, zl_53, zl_54, zl_55, zl_56, zl_57, zl_58, zl_59, zl_60, zl_61, zl_62, zl_63, zl_64, zl_88, zl_97, zl_99, zl_120, zl_122, zl_150, zl_152, zl_200, zl_255, zl_264, zl_280, zl_304, zl_464, zl_584, zl_600, zl_837, zl_999, zl_1000, zl_4088, zl_9999, zl_99999, zI_mul, zI_add]
    rw [show (464 : Int) + 6 * (j : Nat) = ((464 + 6 * j : Nat) : Int) by omega]
    have one : ∀ (m3 : Mm) (l3 : List Int32), OM (wr m1 249 0 0) m3 l3 → l3.length + 13 ≤ 279 → l3 = prl r W j ++ (if j = 0 then [] else [32]) → An (d_309_42 249 (zI ((j : Nat) : Int)) (zI ((464 + 6 * j : Nat) : Int)) m3) (fun q => ∃ m4, q = .inl (zI ((j + 1 : Nat) : Int), m4) ∧ OM (wr m1 249 0 0) m4 (prl r W (j + 1))) := by
      intro m3 l3 h3 hl3 e3
      unfold prl
      rw [← e3]
      exact m42r h3 hG2 hR (by omega) hl3
    by_cases q : j = 0
    · rw [if_pos (by rw [zI_le (by omega) (by omega) (by omega) (by omega)]; omega)]
      exact (one m2 _ h2 (by omega) (by rw [if_pos q, List.append_nil])).mp (fun v ⟨m4, e, h4⟩ => by rw [e]; exact ⟨rfl, h4⟩)
    · rw [if_neg (by rw [zI_le (by omega) (by omega) (by omega) (by omega)]; omega)]
      refine (m305 h2 (by omega)).bd (fun m3 h3 => ?_)
      exact (one m3 _ h3 (by rw [List.length_append, List.length_singleton]; omega) (by rw [if_neg q]; rfl)).mp (fun v ⟨m4, e, h4⟩ => by rw [e]; exact ⟨rfl, h4⟩)
  · obtain ⟨x, m2⟩ := s
    obtain ⟨rfl, h2⟩ := hs
    change OM _ m2 _ at h2
    have hl := prl_l hR (k := (r 14).toNat) (by omega)
    show An (s_309_12 249 (zI (((r 14).toNat : Nat) : Int)) m2) _
    unfold s_309_12 d_309_121 d_309_134
    rw [m_r1, n_250, if_pos (by decide), show ix (14 : Int32) = 14 from by decide, h2.rd hG2 (by decide), if_pos (by rw [zI_le (by omega) (by omega) (by omega) (by omega)]; omega)]
    have z : m2 249 30 = 0 ↔ r 14 = 0 := by rw [h2.2.2.1, zl_0, zI_inj (by omega) (by omega) (by omega) (by omega)]; omega
    unfold prf
    by_cases q : r 14 = 0
    · rw [if_neg (fun h => h (z.2 q)), if_pos q]
      rw [el.2 q] at h2
      refine An.mo (An.bd (m305 h2 (by decide)) (fun m3 h3 => An.so ⟨h3.2.2.1, h3⟩))
    · rw [if_pos (fun h => q (z.1 h)), if_neg q]
      exact An.mo (An.so ⟨h2.2.2.1, h2⟩)
theorem P_43 (hn : n ≤ 512) (hI : Inv n m) : PP n m (d_168 20 m) (fun m1 => d_309 249 m1) := by
  obtain ⟨r, W, H, hG⟩ := hI.2.2.1
  refine (c168 hG hn).mp (fun r1 ⟨a1, a2⟩ => ⟨a2.1 2 (by decide) (by decide), ?_⟩)
  have hM : MW r1.2 r W H := ⟨fun k hk => by rw [a2.1 250 (by decide) (by decide)]; exact hG.1 k hk, hG.mw.2⟩
  refine (m309 hM hG.2.1 hn).mp (fun r2 ⟨b1, b2⟩ => ⟨by rw [a1, b1], ?_⟩)
  exact hI.pr (prf_l hG.2.1) a2 Qe.told b2
end CQ
