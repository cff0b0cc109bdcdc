/-! Calls, one by one: count, ranked, fog, what was. -/
section CH
variable {m : Mm} {r : Nat → Int} {W H n : Nat}
theorem q5c {k : Int} (hG : iGam k m r W H) {c : Int} (hc : m 80 2 = zI c) {a : Int} (h : 0 ≤ a ∧ a ≤ 15) : d_125 20 (zI a) m = some (.inl (if a = 15 then zI c else zI (r a.toNat)), m) := by
  have hg := hG.2.2
  have hR := hG.2.1
  have r1 : sh_r (sh_r (sh_r 20 1) 0) 0 = 25 := by decide +kernel
  have r2 : sh_r (sh_r 20 1) 2 = 34 := by decide +kernel
  have r3 : sh_r (sh_r 20 1) 0 = 24 := by decide +kernel
  have r4 : sh_r (sh_r 20 1) 1 = 29 := by decide +kernel
  have r5 : sh_r (sh_r 20 1) 4 = 40 := by decide +kernel
  have r6 : sh_r (sh_r 20 1) 3 = 38 := by decide +kernel
  unfold d_125
  rw [r1, r2, r3, r4, r5, r6, k_r1, k_r5]
  have : a = 0 ∨ a = 1 ∨ a = 2 ∨ a = 3 ∨ a = 4 ∨ a = 5 ∨ a = 6 ∨ a = 7 ∨ a = 8 ∨ a = 9 ∨ a = 10 ∨ a = 11 ∨ a = 12 ∨ a = 13 ∨ a = 14 ∨ a = 15 := by omega
  rcases this with rfl | rfl | rfl | rfl | rfl | rfl | rfl | rfl | rfl | rfl | rfl | rfl | rfl | rfl | rfl | rfl
  · rw [if_pos (show zI 0 = 0 from rfl), (show m 25 1 = zI (r 0) from by rw [hg.1.1.1, hR.1.1])]; rfl
  · rw [if_neg (by decide), if_pos (show zI 1 = 1 from rfl), (show m 25 2 = zI (r 1) from by rw [hg.1.1.2.1, hR.1.2.1])]; rfl
  · rw [if_neg (by decide), if_neg (by decide), if_pos (show zI 2 = 2 from rfl), (show m 23 5 = zI (r 2) from hg.2.2.2.2.2.1)]; rfl
  · rw [if_neg (by decide), if_neg (by decide), if_neg (by decide), if_pos (show zI 3 = 3 from rfl), (show m 23 6 = zI (r 3) from hg.2.2.2.2.2.2.1)]; rfl
  · rw [if_neg (by decide), if_neg (by decide), if_neg (by decide), if_neg (by decide), if_pos (show zI 4 = 4 from rfl), (show m 23 7 = zI (r 4) from hg.2.2.2.2.2.2.2.1)]; rfl
  · rw [if_neg (by decide), if_neg (by decide), if_neg (by decide), if_neg (by decide), if_neg (by decide), if_pos (show zI 5 = 5 from rfl), (show m 23 8 = zI (r 5) from hg.2.2.2.2.2.2.2.2.1)]; rfl
  · rw [if_neg (by decide), if_neg (by decide), if_neg (by decide), if_neg (by decide), if_neg (by decide), if_neg (by decide), if_pos (show zI 6 = 6 from rfl), (show m 23 9 = zI (r 6) from hg.2.2.2.2.2.2.2.2.2.1)]; rfl
  · rw [if_neg (by decide), if_neg (by decide), if_neg (by decide), if_neg (by decide), if_neg (by decide), if_neg (by decide), if_neg (by decide), if_pos (show zI 7 = 7 from rfl), (show m 23 10 = zI (r 7) from hg.2.2.2.2.2.2.2.2.2.2.1)]; rfl
  · rw [if_neg (by decide), if_neg (by decide), if_neg (by decide), if_neg (by decide), if_neg (by decide), if_neg (by decide), if_neg (by decide), if_neg (by decide), if_pos (show zI 8 = 8 from rfl), (show m 34 3 = zI (r 8) from hg.2.2.1.1)]; rfl
  · rw [if_neg (by decide), if_neg (by decide), if_neg (by decide), if_neg (by decide), if_neg (by decide), if_neg (by decide), if_neg (by decide), if_neg (by decide), if_neg (by decide), if_pos (show zI 9 = 9 from rfl), (show m 24 2 = zI (r 9) from hg.1.2.2.1)]; rfl
  · rw [if_neg (by decide), if_neg (by decide), if_neg (by decide), if_neg (by decide), if_neg (by decide), if_neg (by decide), if_neg (by decide), if_neg (by decide), if_neg (by decide), if_neg (by decide), if_pos (show zI 10 = 10 from rfl), (show m 29 2 = zI (r 10) from hg.2.1.2.2.1)]; rfl
  · rw [if_neg (by decide), if_neg (by decide), if_neg (by decide), if_neg (by decide), if_neg (by decide), if_neg (by decide), if_neg (by decide), if_neg (by decide), if_neg (by decide), if_neg (by decide), if_neg (by decide), if_pos (show zI 11 = 11 from rfl), (show m 40 2 = zI (r 11) from hg.2.2.2.2.1.2.1)]; rfl
  · rw [if_neg (by decide), if_neg (by decide), if_neg (by decide), if_neg (by decide), if_neg (by decide), if_neg (by decide), if_neg (by decide), if_neg (by decide), if_neg (by decide), if_neg (by decide), if_neg (by decide), if_neg (by decide), if_pos (show zI 12 = 12 from rfl), (show m 38 2 = zI (r 12) from hg.2.2.2.1.2.1)]; rfl
  · rw [if_neg (by decide), if_neg (by decide), if_neg (by decide), if_neg (by decide), if_neg (by decide), if_neg (by decide), if_neg (by decide), if_neg (by decide), if_neg (by decide), if_neg (by decide), if_neg (by decide), if_neg (by decide), if_neg (by decide), if_pos (show zI 13 = 13 from rfl), (show m 38 1 = zI (r 13) from hg.2.2.2.1.1)]; rfl
  · rw [if_neg (by decide), if_neg (by decide), if_neg (by decide), if_neg (by decide), if_neg (by decide), if_neg (by decide), if_neg (by decide), if_neg (by decide), if_neg (by decide), if_neg (by decide), if_neg (by decide), if_neg (by decide), if_neg (by decide), if_neg (by decide), if_pos (show zI 14 = 14 from rfl), (show m 40 1 = zI (r 14) from hg.2.2.2.2.1.1)]; rfl
  · rw [if_neg (by decide), if_neg (by decide), if_neg (by decide), if_neg (by decide), if_neg (by decide), if_neg (by decide), if_neg (by decide), if_neg (by decide), if_neg (by decide), if_neg (by decide), if_neg (by decide), if_neg (by decide), if_neg (by decide), if_neg (by decide), if_neg (by decide), if_pos (show zI 15 = 15 from rfl), hc]; rfl
theorem P_5 (hn : n ≤ 512) (hI : Inv n m) : ∀ (a1 : Int32), PR n m (d_311 20 a1 266 m) (fun m1 => d_215 249 a1 m1) := by
  intro a
  obtain ⟨a, rfl, a1, a2⟩ := zI_ex a
  obtain ⟨r, W, H, hG⟩ := hI.2.2.1
  obtain ⟨c, x, c1, x1, e1, e2, e3, -⟩ := hI.2.2.2.2.1
  by_cases q : 0 ≤ a ∧ a ≤ 15
  · refine PR_of hI (code := 0) (v := if a = 15 then zI (c : Nat) else zI (r a.toNat)) (Or.inl rfl) ?_ (fun m1 qe => ?_)
    · unfold d_311
      rw [q5c hG e1 q, bE_l]
      exact lq_ok (Qe.rf m)
    · have hG1 := hG.q qe
      have e4 : wr m1 249 0 (zI 0) 249 8 = zI (c : Nat) := by rw [wr_nk (by decide), qe.2 8 (by decide)]; exact e3
      unfold d_215
      rw [zl_0, zl_15, m185 a1 a2 (by decide) (by decide) (by decide) (by decide), decide_eq_true q]
      simp only [obs, m183, ift]
      by_cases q15 : a = 15
      · subst q15
        rw [if_neg (fun q => q rfl), if_pos rfl, e4]
        exact rq_t (code := 0) (fun _ => rfl)
      · rw [if_pos (by rw [zI_inj a1 a2 (by decide) (by decide)]; exact q15), if_neg q15]
        have ea : zI a = zI ((a.toNat : Nat) : Int) := congrArg zI (by omega)
        rw [ea, if_pos (m_in (by omega)), m_rd hG1.mw.told (by omega)]
        exact rq_t (code := 0) (fun _ => rfl)
  · refine PR_of hI (code := 1) (v := 0) (Or.inr (Or.inl rfl)) ?_ (fun m1 qe => ?_)
    · have e : d_125 20 (zI a) m = some (.inr 0, m) := by
        unfold d_125
        have ne : ∀ k : Int, 0 ≤ k → k ≤ 15 → ¬ zI a = zI k := fun k h1 h2 => by
          rw [zI_inj a1 a2 (by omega) (by omega)]; omega
        simp only [zl_0, zl_1, zl_2, zl_3, zl_4, zl_5, zl_6, zl_7, zl_8, zl_9, zl_10, zl_11, zl_12, zl_13, zl_14, zl_15, zl_16, zl_17, zl_18, zl_19, zl_20, zl_21, zl_22, zl_23, zl_24, zl_25, zl_26, zl_27, zl_28, zl_29, zl_30, zl_31, zl_32, zl_33, zl_34, zl_35, zl_36, zl_37, zl_38, zl_39, zl_40, zl_41, zl_42, zl_43, zl_44, zl_45, zl_46, zl_47, zl_48, zl_49, zl_50, zl_51, zl_52, zl_53, zl_54, zl_55, zl_56, zl_57, zl_58, zl_59, zl_60, zl_61, zl_62, zl_63, zl_64, zl_88, zl_97, zl_99, zl_120, zl_122, zl_150, zl_152, zl_200, zl_255, zl_264, zl_280, zl_304, zl_464, zl_584, zl_600, zl_837, zl_999, zl_1000, zl_4088, zl_9999, zl_99999]
        rw [if_neg (ne 0 (by decide) (by decide)), if_neg (ne 1 (by decide) (by decide)), if_neg (ne 2 (by decide) (by decide)), if_neg (ne 3 (by decide) (by decide)), if_neg (ne 4 (by decide) (by decide)), if_neg (ne 5 (by decide) (by decide)), if_neg (ne 6 (by decide) (by decide)), if_neg (ne 7 (by decide) (by decide)), if_neg (ne 8 (by decide) (by decide)), if_neg (ne 9 (by decide) (by decide)), if_neg (ne 10 (by decide) (by decide)), if_neg (ne 11 (by decide) (by decide)), if_neg (ne 12 (by decide) (by decide)), if_neg (ne 13 (by decide) (by decide)), if_neg (ne 14 (by decide) (by decide)), if_neg (ne 15 (by decide) (by decide))]
      unfold d_311
      rw [e, bE_r, if_pos rfl]
      exact lq_ex (c := 1) (by decide) (Qe.rf m)
    · unfold d_215
      rw [zl_0, zl_15, m185 a1 a2 (by decide) (by decide) (by decide) (by decide), decide_eq_false q]
      simp only [obs, m183, ifn, Bool.false_eq_true]
      exact rq_t (code := 1) (fun e => by cases e)
theorem c43 {f : Nat} {k : Nat} {F L E : Nat → Int} {N : Nat} (ho : oA f) (h : FV m f (N : Nat) F L E) (hB : FB N F L E) (hk : k < N) {w : Int} (w0 : 0 ≤ w) (w1 : w ≤ 3) : d_43 f (zI (k : Nat)) (zI w) m = some (zI (if w = 0 then F k else if w = 1 then L k else if w = 2 then E k else (L k + E k - 1) / E k)) := by
  obtain ⟨a1, a2, a3, a4, a5, a6⟩ := ho
  obtain ⟨h8, hB⟩ := hB
  obtain ⟨b1, b2, b3⟩ := hB k hk
  obtain ⟨e1, e2, e3⟩ := h.2 k (by omega)
  unfold d_43
  rw [if_neg (by rw [zl_0, zI_lt (by omega) (by omega) (by omega) (by omega)]; omega), if_pos (by rw [zl_8, zI_lt (by omega) (by omega) (by omega) (by omega)]; omega), a1, a2, a3, a4, a5, a6, z_ix (by omega), e1, e2, e3]
  have i : ev_in (zI (k : Nat)) 8 = true := in_k (by omega) (by decide)
  simp only [i, ift]
  have : w = 0 ∨ w = 1 ∨ w = 2 ∨ w = 3 := by omega
  rcases this with rfl | rfl | rfl | rfl
  · rw [if_pos (show zI 0 = 0 from rfl)]; rfl
  · rw [if_neg (by decide), if_pos (show zI 1 = 1 from rfl)]; rfl
  · rw [if_neg (by decide), if_neg (by decide), if_pos (show zI 2 = 2 from rfl)]; rfl
  · rw [if_neg (by decide), if_neg (by decide), if_neg (by decide), if_pos (by rw [zl_1, zI_le (by omega) (by omega) (by omega) (by omega)]; omega), if_neg (by rw [zl_0, zI_inj (by omega) (by omega) (by omega) (by omega)]; omega), zI_add, zl_1, zI_sub, zI_dv (by omega) (by omega) (by omega) (by omega)]
    rfl
theorem P_21 (hn : n ≤ 512) (hI : Inv n m) : ∀ (a1 a2 : Int32), PR n m (d_327 20 a1 a2 266 m) (fun m1 => d_239 249 a1 a2 m1) := by
  intro f w
  obtain ⟨f, rfl, hf⟩ := zI_ex f
  obtain ⟨w, rfl, hw⟩ := zI_ex w
  obtain ⟨r, W, H, hG⟩ := hI.2.2.1
  obtain ⟨f1, f2, f3⟩ := iG_F hG
  have f8 := f2.1
  have ei : ∀ m1, MR m1 r → d_238 249 (zI f) m1 = some (decide (0 ≤ f ∧ f < ((r 8).toNat : Nat))) := by
    intro m1 h
    unfold d_238
    rw [m_r1, n_250, if_pos (by decide), show ix (8 : Int32) = 8 from by decide, h 8 (by decide), zl_1, zI_sub, zl_0, m185 hf.1 hf.2 (by decide) (by decide) (by omega) (by omega)]
    simp only [obs]
    congr 1
    rw [decide_eq_decide]
    omega
  have q0 : m 34 3 = zI ((r 8).toNat : Nat) := f1.1
  by_cases qf : 0 ≤ f ∧ f < ((r 8).toNat : Nat)
  · have ef : zI f = zI ((f.toNat : Nat) : Int) := congrArg zI (by omega)
    by_cases qw : 0 ≤ w ∧ w ≤ 3
    · refine PR_of hI (code := 0) (v := zI (if w = 0 then rF r f.toNat else if w = 1 then rL r f.toNat else if w = 2 then rE r f.toNat else (rL r f.toNat + rE r f.toNat - 1) / rE r f.toNat)) (Or.inl rfl) ?_ (fun m1 qe => ?_)
      · unfold d_327 d_142
        rw [fogs_r, q0, k176y hf.1 hf.2 (by omega) (by omega) qf, bE_l, zl_0, zl_3, k177y hw.1 hw.2 (by decide) (by decide) (by decide) (by decide) qw, bE_l, ef, c43 iG_o f1 f2 (by omega) qw.1 qw.2]
        simp only [obs]
        rw [bE_l, ← zl_0]
        exact lq_ok (Qe.rf m)
      · have hM := (hG.q qe).1.mm (show wr m1 249 0 (zI 0) 250 = m1 250 from wr_ne (by decide))
        obtain ⟨b1, b2, b3⟩ := f2.2 f.toNat (by omega)
        unfold d_239
        rw [ei m1 (hG.q qe).1, decide_eq_true qf]
        simp only [obs, m183, ift]
        rw [zl_0, zl_3, m185 hw.1 hw.2 (by decide) (by decide) (by decide) (by decide), decide_eq_true qw]
        simp only [obs, m184, ift, wr_wr]
        rw [ef]
        by_cases q3 : w = 3
        · subst q3
          have g1 := m231 hM (k := f.toNat) (w := 1) (by omega) (by omega)
          have g2 := m231 hM (k := f.toNat) (w := 2) (by omega) (by omega)
          rw [show 280 + 3 * f.toNat + 1 = 281 + 3 * f.toNat by omega] at g1
          rw [show 280 + 3 * f.toNat + 2 = 282 + 3 * f.toNat by omega] at g2
          rw [z1n, z2n, if_pos (by decide), g1, g2]
          simp only [obs]
          unfold rL rE at *
          rw [if_neg (by rw [zI_inj (by omega) (by omega) (by omega) (by omega)]; omega), zI_add, zI_sub, zI_dv (by omega) (by omega) (by omega) (by omega)]
          exact rq_t (code := 0) (fun _ => rfl)
        · have g := m231 hM (k := f.toNat) (w := w.toNat) (by omega) (by omega)
          rw [show ((w.toNat : Nat) : Int) = w by omega] at g
          rw [if_neg (by rw [zI_le (by decide) (by decide) hw.1 hw.2]; omega), g]
          simp only [obs]
          refine rq_t (code := 0) (fun _ => ?_)
          unfold rF rL rE
          have : w = 0 ∨ w = 1 ∨ w = 2 := by omega
          rcases this with rfl | rfl | rfl
          · rfl
          · rw [if_neg (by decide), if_pos rfl]
            exact congrArg zI (congrArg r (by show 280 + 3 * f.toNat + 1 = 281 + 3 * f.toNat; omega))
          · rw [if_neg (by decide), if_neg (by decide), if_pos rfl]
            exact congrArg zI (congrArg r (by show 280 + 3 * f.toNat + 2 = 282 + 3 * f.toNat; omega))
    · refine PR_of hI (code := 2) (v := 0) (Or.inr (Or.inr (Or.inl rfl))) ?_ (fun m1 qe => ?_)
      · unfold d_327 d_142
        rw [fogs_r, q0, k176y hf.1 hf.2 (by omega) (by omega) qf, bE_l, zl_0, zl_3, k177n hw.1 hw.2 (by decide) (by decide) (by decide) (by decide) qw, bE_r, bE_r, if_neg (by decide), if_pos rfl]
        exact lq_ex (c := 2) (by decide) (Qe.rf m)
      · unfold d_239
        rw [ei m1 (hG.q qe).1, decide_eq_true qf]
        simp only [obs, m183, ift]
        rw [zl_0, zl_3, m185 hw.1 hw.2 (by decide) (by decide) (by decide) (by decide), decide_eq_false qw]
        simp only [obs, m184, ifn, wr_wr, Bool.false_eq_true]
        exact rq_t (code := 2) (fun e => by cases e)
  · refine PR_of hI (code := 1) (v := 0) (Or.inr (Or.inl rfl)) ?_ (fun m1 qe => ?_)
    · unfold d_327 d_142
      rw [fogs_r, q0, k176n hf.1 hf.2 (by omega) (by omega) qf, bE_r, bE_r, if_pos rfl]
      exact lq_ex (c := 1) (by decide) (Qe.rf m)
    · unfold d_239
      rw [ei m1 (hG.q qe).1, decide_eq_false qf]
      simp only [obs, m183, ifn, Bool.false_eq_true]
      exact rq_t (code := 1) (fun e => by cases e)
end CH
