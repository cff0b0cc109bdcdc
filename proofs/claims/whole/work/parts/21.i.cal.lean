/-! Calls, one by one: what was. -/
section CJ
variable {m : Mm} {r : Nat → Int} {W H n : Nat}
theorem log_s : sh_r (sh_r 20 1) 3 = 38 := by decide +kernel
theorem log_a : sh_r (sh_r 20 1) 4 = 40 := by decide +kernel
theorem now_r : sh_r (sh_r (sh_r 20 1) 0) 0 = 25 := by decide +kernel
theorem c72 {q : Nat} {N c : Int} {J : Nat} {P : Nat → Nat → Int} (hq : lA q) (h : LV m q N c J P) (hN : N ≤ 20) {k j : Nat} (hk : (k : Int) < N) (hj : j < J) (hJ : J ≤ 8) : d_72 q (zI (k : Nat)) (zI (j : Nat)) m = some (zI (P k j)) := by
  obtain ⟨a1, a2⟩ := hq
  have e := h.2.2 k j hk hj
  unfold d_72
  rw [a1, a2, zl_8, zI_mul, zI_add, wbs, show ((k : Nat) : Int) * 8 + (j : Nat) = ((8 * k + j : Nat) : Int) by omega]
  rw [if_neg (by rw [zl_0, zI_lt (by omega) (by omega) (by omega) (by omega)]; omega), zI_on, if_neg (by rw [zI_le (by omega) (by omega) (by omega) (by omega)]; omega), if_pos (in_k (by omega) (by decide)), z_ix (by omega), e]
theorem P_28 (hn : n ≤ 512) (hI : Inv n m) : ∀ (a1 a2 : Int32), PR n m (d_334 20 a1 a2 266 m) (fun m1 => d_270 249 a1 a2 m1) := by
  intro f w
  obtain ⟨f, rfl, hf⟩ := zI_ex f
  obtain ⟨w, rfl, hw⟩ := zI_ex w
  obtain ⟨r, W, H, hG⟩ := hI.2.2.1
  have h13 := hG.2.1.2.2.2.2.2.2.2.1
  have hL := hG.2.2.2.2.2.1
  have hl : lA 38 := (gA_F gA_23).2.2.2.2.2.2.2.2.1
  have em : ∀ m1, MR m1 r → m1 250 13 = zI (r 13) := fun m1 h => h 13 (by decide)
  by_cases qf : 0 ≤ f ∧ f < r 13
  · by_cases qw : 0 ≤ w ∧ w ≤ 7
    · have ef : zI f = zI ((f.toNat : Nat) : Int) := congrArg zI (by omega)
      have ew : zI w = zI ((w.toNat : Nat) : Int) := congrArg zI (by omega)
      refine PR_of hI (code := 0) (v := zI (r (304 + 8 * f.toNat + w.toNat))) (Or.inl rfl) ?_ (fun m1 qe => ?_)
      · unfold d_334 d_150
        rw [log_s, hL.1, k176y hf.1 hf.2 (by omega) (by omega) qf, bE_l, zl_0, zl_7, k177y hw.1 hw.2 (by decide) (by decide) (by decide) (by decide) qw, bE_l, ef, ew, c72 hl hL h13.2 (by omega) (by omega) (by decide)]
        simp only [obs]
        rw [bE_l, ← zl_0]
        exact lq_ok (Qe.rf m)
      · have hG1 := hG.q qe
        unfold d_270
        rw [m_r1, n_250, if_pos (by decide), show ix (13 : Int32) = 13 from by decide, em m1 hG1.1, zl_1, zI_sub, zl_0, zl_7, m185 hf.1 hf.2 (by decide) (by decide) (by omega) (by omega), decide_eq_true (by omega)]
        simp only [obs, m183, ift]
        rw [m185 hw.1 hw.2 (by decide) (by decide) (by decide) (by decide), decide_eq_true qw]
        simp only [obs, m184, ift, wr_wr, zl_0, zl_1, zl_2, zl_3, zl_4, zl_5, zl_6, zl_7, zl_8, zl_9, zl_10, zl_11, zl_12, zl_13, zl_14, zl_15, zl_16, zl_17, zl_18, zl_19, zl_20, zl_21, zl_22, zl_23, zl_24, zl_25, zl_26, zl_27, zl_28, zl_29, zl_30, zl_31, zl_32, zl_33, zl_34, zl_35, zl_36, zl_37, zl_38, zl_39, zl_40, zl_41, zl_42, zl_43, zl_44, zl_45, zl_46, zl_47, zl_48, zl_49, zl_50, zl_51, zl_52, zl_53, zl_54, zl_55, zl_56, zl_57, zl_58, zl_59, zl_60, zl_61, zl_62, zl_63, zl_64, zl_88, zl_97, zl_99, zl_120, zl_122, zl_150, zl_152, zl_200, zl_255, zl_264, zl_280, zl_304, zl_464, zl_584, zl_600, zl_837, zl_999, zl_1000, zl_4088, zl_9999, zl_99999, zI_mul, zI_add]
        rw [show (304 : Int) + 8 * f + w = ((304 + 8 * f.toNat + w.toNat : Nat) : Int) by omega, if_pos (in_k (by omega) (by decide)), z_ix (by omega), wr_ne (by decide), hG1.1 _ (by omega)]
        exact rq_t (code := 0) (fun _ => rfl)
    · refine PR_of hI (code := 2) (v := 0) (Or.inr (Or.inr (Or.inl rfl))) ?_ (fun m1 qe => ?_)
      · unfold d_334 d_150
        rw [log_s, hL.1, k176y hf.1 hf.2 (by omega) (by omega) qf, bE_l, zl_0, zl_7, k177n hw.1 hw.2 (by decide) (by decide) (by decide) (by decide) qw, bE_r, bE_r, if_neg (by decide), if_pos rfl]
        exact lq_ex (c := 2) (by decide) (Qe.rf m)
      · unfold d_270
        rw [m_r1, n_250, if_pos (by decide), show ix (13 : Int32) = 13 from by decide, em m1 (hG.q qe).1, zl_1, zI_sub, zl_0, zl_7, m185 hf.1 hf.2 (by decide) (by decide) (by omega) (by omega), decide_eq_true (by omega)]
        simp only [obs, m183, ift]
        rw [m185 hw.1 hw.2 (by decide) (by decide) (by decide) (by decide), decide_eq_false qw]
        simp only [obs, m184, ifn, wr_wr, Bool.false_eq_true, zl_0, zl_1, zl_2, zl_3, zl_4, zl_5, zl_6, zl_7, zl_8, zl_9, zl_10, zl_11, zl_12, zl_13, zl_14, zl_15, zl_16, zl_17, zl_18, zl_19, zl_20, zl_21, zl_22, zl_23, zl_24, zl_25, zl_26, zl_27, zl_28, zl_29, zl_30, zl_31, zl_32, zl_33, zl_34, zl_35, zl_36, zl_37, zl_38, zl_39, zl_40, zl_41, zl_42, zl_43, zl_44, zl_45, zl_46, zl_47, zl_48, zl_49, zl_50, zl_51, zl_52, zl_53, zl_54, zl_55, zl_56, zl_57, zl_58, zl_59, zl_60, zl_61, zl_62, zl_63, zl_64, zl_88, zl_97, zl_99, zl_120, zl_122, zl_150, zl_152, zl_200, zl_255, zl_264, zl_280, zl_304, zl_464, zl_584, zl_600, zl_837, zl_999, zl_1000, zl_4088, zl_9999, zl_99999]
        exact rq_t (code := 2) (fun e => by cases e)
  · refine PR_of hI (code := 1) (v := 0) (Or.inr (Or.inl rfl)) ?_ (fun m1 qe => ?_)
    · unfold d_334 d_150
      rw [log_s, hL.1, k176n hf.1 hf.2 (by omega) (by omega) qf, bE_r, bE_r, if_pos rfl]
      exact lq_ex (c := 1) (by decide) (Qe.rf m)
    · unfold d_270
      rw [m_r1, n_250, if_pos (by decide), show ix (13 : Int32) = 13 from by decide, em m1 (hG.q qe).1, zl_1, zI_sub, zl_0, m185 hf.1 hf.2 (by decide) (by decide) (by omega) (by omega), decide_eq_false (by omega)]
      simp only [obs, m183, ifn, Bool.false_eq_true]
      exact rq_t (code := 1) (fun e => by cases e)
theorem P_29 (hn : n ≤ 512) (hI : Inv n m) : ∀ (a1 a2 : Int32), PR n m (d_335 20 a1 a2 266 m) (fun m1 => d_271 249 a1 a2 m1) := by
  intro f w
  obtain ⟨f, rfl, hf⟩ := zI_ex f
  obtain ⟨w, rfl, hw⟩ := zI_ex w
  obtain ⟨r, W, H, hG⟩ := hI.2.2.1
  have hW := iG_w hG
  have h14 := hG.2.1.2.2.2.2.2.2.2.2.1
  have hM := hG.2.1.2.2.2.2.2.2.2.2.2.2.2
  have hL := hG.2.2.2.2.2.2.1
  have hl : lA 40 := (gA_F gA_23).2.2.2.2.2.2.2.2.2
  have em : ∀ m1, MR m1 r → m1 250 14 = zI (r 14) := fun m1 h => h 14 (by decide)
  by_cases qf : 0 ≤ f ∧ f < r 14
  · by_cases qw : 0 ≤ w ∧ w ≤ 5
    · have ef : zI f = zI ((f.toNat : Nat) : Int) := congrArg zI (by omega)
      have ew : zI w = zI ((w.toNat : Nat) : Int) := congrArg zI (by omega)
      obtain ⟨-, c1, c2, -, -⟩ := hM f.toNat (by omega)
      have cell : ∀ v : Int, 0 ≤ v → v < (W * H : Nat) → d_151_43 20 (zI (gi W v)) m = some (.inl (zI v), m) := by
        intro v v1 v2
        obtain ⟨x, y, hx, hy, e1, -, -, e2⟩ := gio_c hW (c := v.toNat) (by omega)
        obtain ⟨w1, w2, w3, w4⟩ := hW
        unfold d_151_43 gi
        rw [e2, now_r, c16 hG.2.2.1.1 (by omega) (by omega)]
        simp only [obs]
        rw [← e1, show ((v.toNat : Nat) : Int) = v by omega]
      refine PR_of hI (code := 0) (v := zI (r (464 + 6 * f.toNat + w.toNat))) (Or.inl rfl) ?_ (fun m1 qe => ?_)
      · unfold d_335 d_151
        have e72 : d_72 40 (zI f) (zI w) m = some (zI (made_ r W f.toNat w.toNat)) := by
          rw [ef, ew]; exact c72 hl hL h14.2 (by omega) (by omega) (by decide)
        rw [log_a, hL.1, k176y hf.1 hf.2 (by omega) (by omega) qf, bE_l, zl_0, zl_5, k177y hw.1 hw.2 (by decide) (by decide) (by decide) (by decide) qw, bE_l, e72]
        simp only [obs]
        unfold made_
        by_cases q1 : w = 1
        · subst q1
          rw [if_pos (show zI 1 = 1 from rfl), show Int.toNat 1 = 1 from rfl, if_pos (Or.inl rfl), cell _ c1.1 c1.2, bE_l, ← zl_0]
          exact lq_ok (Qe.rf m)
        · rw [if_neg (by rw [zl_1, zI_inj hw.1 hw.2 (by decide) (by decide)]; exact q1)]
          by_cases q2 : w = 2
          · subst q2
            rw [show Int.toNat 2 = 2 from rfl, if_neg (by decide), if_pos (Or.inr rfl), cell _ c2.1 c2.2, bE_l, ← zl_0]
            exact lq_ok (Qe.rf m)
          · rw [if_pos (by rw [zl_2, zI_inj hw.1 hw.2 (by decide) (by decide)]; exact q2), if_neg (show ¬ (w.toNat = 1 ∨ w.toNat = 2) by omega), bE_l, ← zl_0]
            exact lq_ok (Qe.rf m)
      · have hG1 := hG.q qe
        unfold d_271
        rw [m_r1, n_250, if_pos (by decide), show ix (14 : Int32) = 14 from by decide, em m1 hG1.1, zl_1, zI_sub, zl_0, zl_5, m185 hf.1 hf.2 (by decide) (by decide) (by omega) (by omega), decide_eq_true (by omega)]
        simp only [obs, m183, ift]
        rw [m185 hw.1 hw.2 (by decide) (by decide) (by decide) (by decide), decide_eq_true qw]
        simp only [obs, m184, ift, wr_wr, zl_0, zl_1, zl_2, zl_3, zl_4, zl_5, zl_6, zl_7, zl_8, zl_9, zl_10, zl_11, zl_12, zl_13, zl_14, zl_15, zl_16, zl_17, zl_18, zl_19, zl_20, zl_21, zl_22, zl_23, zl_24, zl_25, zl_26, zl_27, zl_28, zl_29, zl_30, zl_31, zl_32, zl_33, zl_34, zl_35, zl_36, zl_37, zl_38, zl_39, zl_40, zl_41, zl_42, zl_43, zl_44, zl_45, zl_46, zl_47, zl_48, zl_49, zl_50, zl_51, zl_52, zl_53, zl_54, zl_55, zl_56, zl_57, zl_58, zl_59, zl_60, zl_61, zl_62, zl_63, zl_64, zl_88, zl_97, zl_99, zl_120, zl_122, zl_150, zl_152, zl_200, zl_255, zl_264, zl_280, zl_304, zl_464, zl_584, zl_600, zl_837, zl_999, zl_1000, zl_4088, zl_9999, zl_99999, zI_mul, zI_add]
        rw [show (464 : Int) + 6 * f + w = ((464 + 6 * f.toNat + w.toNat : Nat) : Int) by omega, if_pos (in_k (by omega) (by decide)), z_ix (by omega), wr_ne (by decide), hG1.1 _ (by omega)]
        exact rq_t (code := 0) (fun _ => rfl)
    · refine PR_of hI (code := 2) (v := 0) (Or.inr (Or.inr (Or.inl rfl))) ?_ (fun m1 qe => ?_)
      · unfold d_335 d_151
        rw [log_a, hL.1, k176y hf.1 hf.2 (by omega) (by omega) qf, bE_l, zl_0, zl_5, k177n hw.1 hw.2 (by decide) (by decide) (by decide) (by decide) qw, bE_r, bE_r, if_neg (by decide), if_pos rfl]
        exact lq_ex (c := 2) (by decide) (Qe.rf m)
      · unfold d_271
        rw [m_r1, n_250, if_pos (by decide), show ix (14 : Int32) = 14 from by decide, em m1 (hG.q qe).1, zl_1, zI_sub, zl_0, zl_5, m185 hf.1 hf.2 (by decide) (by decide) (by omega) (by omega), decide_eq_true (by omega)]
        simp only [obs, m183, ift]
        rw [m185 hw.1 hw.2 (by decide) (by decide) (by decide) (by decide), decide_eq_false qw]
        simp only [obs, m184, ifn, wr_wr, Bool.false_eq_true, zl_0, zl_1, zl_2, zl_3, zl_4, zl_5, zl_6, zl_7, zl_8, zl_9, zl_10, zl_11, zl_12, zl_13, zl_14, zl_15, zl_16, zl_17, zl_18, zl_19, zl_20, zl_21, zl_22, zl_23, zl_24, zl_25, zl_26, zl_27, zl_28, zl_29, zl_30, zl_31, zl_32, zl_33, zl_34, zl_35, zl_36, zl_37, zl_38, zl_39, zl_40, zl_41, zl_42, zl_43, zl_44, zl_45, zl_46, zl_47, zl_48, zl_49, zl_50, zl_51, zl_52, zl_53, zl_54, zl_55, zl_56, zl_57, zl_58, zl_59, zl_60, zl_61, zl_62, zl_63, zl_64, zl_88, zl_97, zl_99, zl_120, zl_122, zl_150, zl_152, zl_200, zl_255, zl_264, zl_280, zl_304, zl_464, zl_584, zl_600, zl_837, zl_999, zl_1000, zl_4088, zl_9999, zl_99999]
        exact rq_t (code := 2) (fun e => by cases e)
  · refine PR_of hI (code := 1) (v := 0) (Or.inr (Or.inl rfl)) ?_ (fun m1 qe => ?_)
    · unfold d_335 d_151
      rw [log_a, hL.1, k176n hf.1 hf.2 (by omega) (by omega) qf, bE_r, bE_r, if_pos rfl]
      exact lq_ex (c := 1) (by decide) (Qe.rf m)
    · unfold d_271
      rw [m_r1, n_250, if_pos (by decide), show ix (14 : Int32) = 14 from by decide, em m1 (hG.q qe).1, zl_1, zI_sub, zl_0, m185 hf.1 hf.2 (by decide) (by decide) (by omega) (by omega), decide_eq_false (by omega)]
      simp only [obs, m183, ifn, Bool.false_eq_true]
      exact rq_t (code := 1) (fun e => by cases e)
end CJ
