/-! Worths and ranks, as both work them out. -/
/-- the class's list of moves in memory -/
def LC (W : Nat) (m : Mm) (l : List (Nat × Nat)) : Prop := m 237 4 = zI (l.length : Nat) ∧ ∀ i, i < l.length → m 238 i = zI (gio W (l.getD i (0, 0)).1) ∧ m 239 i = zI (gio W (l.getD i (0, 0)).2)
theorem LC_lay {W : Nat} {m : Mm} {l : List (Nat × Nat)} : LC W (layc W m l) l := by
  refine ⟨layc_sz, fun i hi => ?_⟩
  unfold layc
  rw [wr_ne (by decide), wr_ne (by decide)]
  unfold lay
  constructor
  · rw [if_pos rfl, if_pos hi]
  · rw [if_neg (show ¬ (239 : Nat) = 238 by decide), if_pos rfl, if_pos hi]
theorem LC.mm {W : Nat} {m m' : Mm} {l : List (Nat × Nat)} (h : LC W m l) (h1 : m' 237 = m 237) (h2 : m' 238 = m 238) (h3 : m' 239 = m 239) : LC W m' l := by
  unfold LC; rw [h1, h2, h3]; exact h
theorem gio_c {W H c : Nat} (hw : WH W H) (hc : c < W * H) : ∃ x y, x < W ∧ y < H ∧ c = x + W * y ∧ c % W = x ∧ c / W = y ∧ gio W c = ((x + 8 * y : Nat) : Int) := by
  obtain ⟨x, y, hx, hy, rfl⟩ := mxy hw hc
  exact ⟨x, y, hx, hy, rfl, (cell_md hx).1, (cell_md hx).2, gio_xy hx⟩
section RD
variable {m : Mm} {f W H : Nat} {b : Nat → Int}
theorem c80 (hv : VL m) (hf : fA f) (hf2 : f + 1 < 237) (hf3 : 1 < f) (h : FR m f W H b) (hw : WH W H) (hb : BD W H b) {s : Int} (h1 : 0 ≤ s) (h2 : s ≤ 1) (hB : (ml W H b s).length ≤ 837) (hl : LC W m (ml W H b s)) :
    An (d_80 237 f (zI s) m) (fun m' => (∀ i, i < (ml W H b s).length → m' 240 i = zI (wl W H b s (ml W H b s) i)) ∧ ∀ a, a ≠ 240 → a ≠ 241 → a ≠ 242 → m' a = m a) := by
  have hw' := hw
  obtain ⟨a, a2, a3, a4⟩ := hw'
  unfold d_80 d_80_2
  rw [zl_0]
  refine it_inv (fun k st => st.1 = zI (k : Nat) ∧ (∀ i, i < k → st.2 240 i = zI (wl W H b s (ml W H b s) i)) ∧ ∀ a, a ≠ 240 → a ≠ 241 → a ≠ 242 → st.2 a = m a) _ (ml W H b s).length ⟨rfl, fun i hi => absurd hi (Nat.not_lt_zero _), fun _ _ _ _ => rfl⟩ (fun k hk st hst => ?_) (fun st hst => ?_)
  · obtain ⟨x3, m'⟩ := st
    obtain ⟨e1, e2, e3⟩ := hst
    dsimp only at e1 e2 e3
    subst e1
    obtain ⟨g1, g2, g3⟩ := ml_get (W := W) (H := H) (b := b) (s := s) hk
    have l1 := hl.1
    have l2 := hl.2 k hk
    rw [← e3 237 (by decide) (by decide) (by decide)] at l1
    rw [← e3 238 (by decide) (by decide) (by decide), ← e3 239 (by decide) (by decide) (by decide)] at l2
    obtain ⟨x, y, hx, hy, d1, d2, d3, d4⟩ := gio_c hw g1
    obtain ⟨X, Y, hX, hY, f1, f2, f3, f4⟩ := gio_c hw g2
    have hwl : wl W H b s (ml W H b s) k = wo W H b s x y X Y := by
      unfold wl pt
      rw [if_neg (by decide), if_neg (by decide), if_neg (by decide), d2, d3, f2, f3]
    rw [d2, d3, f2, f3] at g3
    rw [d4, f4] at l2
    have v' : VL m' := by
      unfold VL
      rw [e3 0 (by decide) (by decide) (by decide), e3 1 (by decide) (by decide) (by decide)]; exact hv
    have h' : FR m' f W H b := h.mm (e3 f (by omega) (by omega) (by omega)) (e3 (f + 1) (by omega) (by omega) (by omega))
    have i79 := c79 v' hf hf2 hf3 h' hw hb h1 h2 hx hy hX hY g3
    dsimp only
    unfold s_80_2
    simp (disch := omega) only [l1, wbs, obs, oms, ift, ifn, not_true_eq_false, not_false_eq_true, true_and, and_true, false_and, and_false, true_or, or_true, false_or, or_false, Bool.false_eq_true, reduceCtorEq, eq_self, decide_true, decide_false, zl_0, zl_1, zl_2, zl_3, zl_4, zl_5, zl_6, zl_7, zl_8, zl_9, zl_10, zl_11, zl_12, zl_13, zl_14, zl_15, zl_16, zl_17, zl_18, zl_19, zl_20, zl_21, zl_22, zl_23, zl_24, zl_25, zl_26, zl_27, zl_28, zl_29, zl_30, zl_31, zl_32, zl_33, zl_34, zl_35, zl_36, zl_37, zl_38, zl_39, zl_40, zl_41, zl_42, zl_43, zl_44, zl_45, zl_46, zl_47, zl_48, zl_49, zl_50, zl_51, zl_52, zl_53, zl_54, zl_55, zl_56, zl_57, zl_58, zl_59, zl_60, zl_61, zl_62, zl_63, zl_64, zl_88, zl_97, zl_99, zl_120, zl_122, zl_150, zl_152, zl_200, zl_255, zl_264, zl_280, zl_304, zl_464, zl_584, zl_600, zl_837, zl_999, zl_1000, zl_4088, zl_9999, zl_99999, zI_on, zI_add, zI_sub, zI_mul, zI_neg, zI_bi, zI_lt, zI_le, zI_inj, zI_in, zI_ix, int_lt_t, int_lt_f, int_le_t, int_le_f, int_eq_t, int_eq_f, l_r0, l_r1, l_r2, l_n8, l_n9, l_n40, Int.toNat_natCast, l2.1, l2.2]
    refine An.bd i79 (fun q hq => ?_)
    refine An.so ⟨rfl, fun i hi => ?_, fun c q1 q2 q3 => ?_⟩
    · dsimp only
      rw [wr_at]
      by_cases e : i = k
      · rw [if_pos e, hq.1, e, hwl]
      · rw [if_neg e, hq.2 240 (by decide) (by decide)]
        exact e2 i (by omega)
    · dsimp only
      rw [wr_ne q1, hq.2 c q2 q3]
      exact e3 c q1 q2 q3
  · obtain ⟨x3, m'⟩ := st
    obtain ⟨e1, e2, e3⟩ := hst
    dsimp only at e1 e2 e3
    subst e1
    have l1 := hl.1
    rw [← e3 237 (by decide) (by decide) (by decide)] at l1
    dsimp only
    unfold s_80_2
    simp (disch := omega) only [l1, wbs, obs, oms, ift, ifn, not_true_eq_false, not_false_eq_true, true_and, and_true, false_and, and_false, true_or, or_true, false_or, or_false, Bool.false_eq_true, reduceCtorEq, eq_self, decide_true, decide_false, zl_0, zl_1, zl_2, zl_3, zl_4, zl_5, zl_6, zl_7, zl_8, zl_9, zl_10, zl_11, zl_12, zl_13, zl_14, zl_15, zl_16, zl_17, zl_18, zl_19, zl_20, zl_21, zl_22, zl_23, zl_24, zl_25, zl_26, zl_27, zl_28, zl_29, zl_30, zl_31, zl_32, zl_33, zl_34, zl_35, zl_36, zl_37, zl_38, zl_39, zl_40, zl_41, zl_42, zl_43, zl_44, zl_45, zl_46, zl_47, zl_48, zl_49, zl_50, zl_51, zl_52, zl_53, zl_54, zl_55, zl_56, zl_57, zl_58, zl_59, zl_60, zl_61, zl_62, zl_63, zl_64, zl_88, zl_97, zl_99, zl_120, zl_122, zl_150, zl_152, zl_200, zl_255, zl_264, zl_280, zl_304, zl_464, zl_584, zl_600, zl_837, zl_999, zl_1000, zl_4088, zl_9999, zl_99999, zI_on, zI_add, zI_sub, zI_mul, zI_neg, zI_bi, zI_lt, zI_le, zI_inj, zI_in, zI_ix, int_lt_t, int_lt_f, int_le_t, int_le_f, int_eq_t, int_eq_f]
    exact An.so ⟨e2, e3⟩
theorem c82 {n : Nat} {w : Nat → Int} (hn : n ≤ 837) (hw : ∀ i, -1000 ≤ w i ∧ w i ≤ 1000) (h1 : m 237 4 = zI (n : Nat)) (h2 : ∀ i, i < n → m 240 i = zI (w i)) {k : Nat} (hk : k < n) : d_82 237 (zI (k : Nat)) m = some (zI (ah n w k : Nat)) := by
  unfold d_82 d_82_17
  simp (disch := omega) only [wbs, obs, oms, ift, ifn, not_true_eq_false, not_false_eq_true, true_and, and_true, false_and, and_false, true_or, or_true, false_or, or_false, Bool.false_eq_true, reduceCtorEq, eq_self, decide_true, decide_false, zl_0, zl_1, zl_2, zl_3, zl_4, zl_5, zl_6, zl_7, zl_8, zl_9, zl_10, zl_11, zl_12, zl_13, zl_14, zl_15, zl_16, zl_17, zl_18, zl_19, zl_20, zl_21, zl_22, zl_23, zl_24, zl_25, zl_26, zl_27, zl_28, zl_29, zl_30, zl_31, zl_32, zl_33, zl_34, zl_35, zl_36, zl_37, zl_38, zl_39, zl_40, zl_41, zl_42, zl_43, zl_44, zl_45, zl_46, zl_47, zl_48, zl_49, zl_50, zl_51, zl_52, zl_53, zl_54, zl_55, zl_56, zl_57, zl_58, zl_59, zl_60, zl_61, zl_62, zl_63, zl_64, zl_88, zl_97, zl_99, zl_120, zl_122, zl_150, zl_152, zl_200, zl_255, zl_264, zl_280, zl_304, zl_464, zl_584, zl_600, zl_837, zl_999, zl_1000, zl_4088, zl_9999, zl_99999, zI_on, zI_add, zI_sub, zI_mul, zI_neg, zI_bi, zI_lt, zI_le, zI_inj, zI_in, zI_ix, int_lt_t, int_lt_f, int_le_t, int_le_f, int_eq_t, int_eq_f]
  refine it_ft (F := fun t => s_82_17 237 (zI (k : Nat)) m t.1 t.2) (mk := fun (v : Nat) i => (zI (v : Nat), zI (i : Nat))) (out := fun v => zI (v : Nat)) (n := n) (s := 0) (f := fun i v => if decide (w k < w i ∨ (w i = w k ∧ i < k)) = true then v + 1 else v) (fun i hi v => ?_) (fun v => ?_)
  · have a1 := hw i
    have a2 := hw k
    have b1 := h2 i hi
    have b2 := h2 k hk
    dsimp only
    unfold s_82_17
    by_cases q1 : w k < w i
    · rw [decide_eq_true (Or.inl q1)]
      simp (disch := omega) only [h1, wbs, obs, oms, ift, ifn, not_true_eq_false, not_false_eq_true, true_and, and_true, false_and, and_false, true_or, or_true, false_or, or_false, Bool.false_eq_true, reduceCtorEq, eq_self, decide_true, decide_false, zl_0, zl_1, zl_2, zl_3, zl_4, zl_5, zl_6, zl_7, zl_8, zl_9, zl_10, zl_11, zl_12, zl_13, zl_14, zl_15, zl_16, zl_17, zl_18, zl_19, zl_20, zl_21, zl_22, zl_23, zl_24, zl_25, zl_26, zl_27, zl_28, zl_29, zl_30, zl_31, zl_32, zl_33, zl_34, zl_35, zl_36, zl_37, zl_38, zl_39, zl_40, zl_41, zl_42, zl_43, zl_44, zl_45, zl_46, zl_47, zl_48, zl_49, zl_50, zl_51, zl_52, zl_53, zl_54, zl_55, zl_56, zl_57, zl_58, zl_59, zl_60, zl_61, zl_62, zl_63, zl_64, zl_88, zl_97, zl_99, zl_120, zl_122, zl_150, zl_152, zl_200, zl_255, zl_264, zl_280, zl_304, zl_464, zl_584, zl_600, zl_837, zl_999, zl_1000, zl_4088, zl_9999, zl_99999, zI_on, zI_add, zI_sub, zI_mul, zI_neg, zI_bi, zI_lt, zI_le, zI_inj, zI_in, zI_ix, int_lt_t, int_lt_f, int_le_t, int_le_f, int_eq_t, int_eq_f, l_r2, l_n40, Int.toNat_natCast, b1, b2]
      rfl
    · by_cases q2 : w i = w k
      · by_cases q3 : i < k
        · rw [decide_eq_true (Or.inr ⟨q2, q3⟩)]
          simp (disch := omega) only [h1, wbs, obs, oms, ift, ifn, not_true_eq_false, not_false_eq_true, true_and, and_true, false_and, and_false, true_or, or_true, false_or, or_false, Bool.false_eq_true, reduceCtorEq, eq_self, decide_true, decide_false, zl_0, zl_1, zl_2, zl_3, zl_4, zl_5, zl_6, zl_7, zl_8, zl_9, zl_10, zl_11, zl_12, zl_13, zl_14, zl_15, zl_16, zl_17, zl_18, zl_19, zl_20, zl_21, zl_22, zl_23, zl_24, zl_25, zl_26, zl_27, zl_28, zl_29, zl_30, zl_31, zl_32, zl_33, zl_34, zl_35, zl_36, zl_37, zl_38, zl_39, zl_40, zl_41, zl_42, zl_43, zl_44, zl_45, zl_46, zl_47, zl_48, zl_49, zl_50, zl_51, zl_52, zl_53, zl_54, zl_55, zl_56, zl_57, zl_58, zl_59, zl_60, zl_61, zl_62, zl_63, zl_64, zl_88, zl_97, zl_99, zl_120, zl_122, zl_150, zl_152, zl_200, zl_255, zl_264, zl_280, zl_304, zl_464, zl_584, zl_600, zl_837, zl_999, zl_1000, zl_4088, zl_9999, zl_99999, zI_on, zI_add, zI_sub, zI_mul, zI_neg, zI_bi, zI_lt, zI_le, zI_inj, zI_in, zI_ix, int_lt_t, int_lt_f, int_le_t, int_le_f, int_eq_t, int_eq_f, l_r2, l_n40, Int.toNat_natCast, b1, b2]
          rfl
        · rw [decide_eq_false (by omega)]
          simp (disch := omega) only [h1, wbs, obs, oms, ift, ifn, not_true_eq_false, not_false_eq_true, true_and, and_true, false_and, and_false, true_or, or_true, false_or, or_false, Bool.false_eq_true, reduceCtorEq, eq_self, decide_true, decide_false, zl_0, zl_1, zl_2, zl_3, zl_4, zl_5, zl_6, zl_7, zl_8, zl_9, zl_10, zl_11, zl_12, zl_13, zl_14, zl_15, zl_16, zl_17, zl_18, zl_19, zl_20, zl_21, zl_22, zl_23, zl_24, zl_25, zl_26, zl_27, zl_28, zl_29, zl_30, zl_31, zl_32, zl_33, zl_34, zl_35, zl_36, zl_37, zl_38, zl_39, zl_40, zl_41, zl_42, zl_43, zl_44, zl_45, zl_46, zl_47, zl_48, zl_49, zl_50, zl_51, zl_52, zl_53, zl_54, zl_55, zl_56, zl_57, zl_58, zl_59, zl_60, zl_61, zl_62, zl_63, zl_64, zl_88, zl_97, zl_99, zl_120, zl_122, zl_150, zl_152, zl_200, zl_255, zl_264, zl_280, zl_304, zl_464, zl_584, zl_600, zl_837, zl_999, zl_1000, zl_4088, zl_9999, zl_99999, zI_on, zI_add, zI_sub, zI_mul, zI_neg, zI_bi, zI_lt, zI_le, zI_inj, zI_in, zI_ix, int_lt_t, int_lt_f, int_le_t, int_le_f, int_eq_t, int_eq_f, l_r2, l_n40, Int.toNat_natCast, b1, b2]
          rfl
      · rw [decide_eq_false (by omega)]
        simp (disch := omega) only [h1, wbs, obs, oms, ift, ifn, not_true_eq_false, not_false_eq_true, true_and, and_true, false_and, and_false, true_or, or_true, false_or, or_false, Bool.false_eq_true, reduceCtorEq, eq_self, decide_true, decide_false, zl_0, zl_1, zl_2, zl_3, zl_4, zl_5, zl_6, zl_7, zl_8, zl_9, zl_10, zl_11, zl_12, zl_13, zl_14, zl_15, zl_16, zl_17, zl_18, zl_19, zl_20, zl_21, zl_22, zl_23, zl_24, zl_25, zl_26, zl_27, zl_28, zl_29, zl_30, zl_31, zl_32, zl_33, zl_34, zl_35, zl_36, zl_37, zl_38, zl_39, zl_40, zl_41, zl_42, zl_43, zl_44, zl_45, zl_46, zl_47, zl_48, zl_49, zl_50, zl_51, zl_52, zl_53, zl_54, zl_55, zl_56, zl_57, zl_58, zl_59, zl_60, zl_61, zl_62, zl_63, zl_64, zl_88, zl_97, zl_99, zl_120, zl_122, zl_150, zl_152, zl_200, zl_255, zl_264, zl_280, zl_304, zl_464, zl_584, zl_600, zl_837, zl_999, zl_1000, zl_4088, zl_9999, zl_99999, zI_on, zI_add, zI_sub, zI_mul, zI_neg, zI_bi, zI_lt, zI_le, zI_inj, zI_in, zI_ix, int_lt_t, int_lt_f, int_le_t, int_le_f, int_eq_t, int_eq_f, l_r2, l_n40, Int.toNat_natCast, b1, b2]
        rfl
  · dsimp only
    unfold s_82_17
    simp (disch := omega) only [h1, wbs, obs, oms, ift, ifn, not_true_eq_false, not_false_eq_true, true_and, and_true, false_and, and_false, true_or, or_true, false_or, or_false, Bool.false_eq_true, reduceCtorEq, eq_self, decide_true, decide_false, zl_0, zl_1, zl_2, zl_3, zl_4, zl_5, zl_6, zl_7, zl_8, zl_9, zl_10, zl_11, zl_12, zl_13, zl_14, zl_15, zl_16, zl_17, zl_18, zl_19, zl_20, zl_21, zl_22, zl_23, zl_24, zl_25, zl_26, zl_27, zl_28, zl_29, zl_30, zl_31, zl_32, zl_33, zl_34, zl_35, zl_36, zl_37, zl_38, zl_39, zl_40, zl_41, zl_42, zl_43, zl_44, zl_45, zl_46, zl_47, zl_48, zl_49, zl_50, zl_51, zl_52, zl_53, zl_54, zl_55, zl_56, zl_57, zl_58, zl_59, zl_60, zl_61, zl_62, zl_63, zl_64, zl_88, zl_97, zl_99, zl_120, zl_122, zl_150, zl_152, zl_200, zl_255, zl_264, zl_280, zl_304, zl_464, zl_584, zl_600, zl_837, zl_999, zl_1000, zl_4088, zl_9999, zl_99999, zI_on, zI_add, zI_sub, zI_mul, zI_neg, zI_bi, zI_lt, zI_le, zI_inj, zI_in, zI_ix, int_lt_t, int_lt_f, int_le_t, int_le_f, int_eq_t, int_eq_f]
theorem c81 {n : Nat} {w : Nat → Int} (hn : n ≤ 837) (hw : ∀ i, -1000 ≤ w i ∧ w i ≤ 1000) (h1 : m 237 4 = zI (n : Nat)) (h2 : ∀ i, i < n → m 240 i = zI (w i)) {v : Int} (hv0 : 0 ≤ v) (hv : v < n) : d_81 237 (zI v) m = some (zI (pl n w v : Nat)) := by
  have hl := pl_lt (w := w) hv0 hv
  have key := it_ff (F := fun t => s_81_2 237 (zI v) m t) (fun k => zI (k : Nat)) (fun i => decide ((ah n w i : Int) = v)) (fun k => zI (k : Nat)) (zI (-1)) n (fun k hk hp => ?_) (fun k hk hp => ?_) ?_
  · unfold d_81 d_81_2
    rw [zl_0]
    refine Eq.trans key ?_
    unfold pl at hl ⊢
    rw [if_pos hl]
  · have hp := of_decide_eq_false hp
    have i := c82 hn hw h1 h2 hk
    have j := ah_lt (w := w) hk
    unfold s_81_2
    simp (disch := omega) only [h1, wbs, obs, oms, ift, ifn, not_true_eq_false, not_false_eq_true, true_and, and_true, false_and, and_false, true_or, or_true, false_or, or_false, Bool.false_eq_true, reduceCtorEq, eq_self, decide_true, decide_false, zl_0, zl_1, zl_2, zl_3, zl_4, zl_5, zl_6, zl_7, zl_8, zl_9, zl_10, zl_11, zl_12, zl_13, zl_14, zl_15, zl_16, zl_17, zl_18, zl_19, zl_20, zl_21, zl_22, zl_23, zl_24, zl_25, zl_26, zl_27, zl_28, zl_29, zl_30, zl_31, zl_32, zl_33, zl_34, zl_35, zl_36, zl_37, zl_38, zl_39, zl_40, zl_41, zl_42, zl_43, zl_44, zl_45, zl_46, zl_47, zl_48, zl_49, zl_50, zl_51, zl_52, zl_53, zl_54, zl_55, zl_56, zl_57, zl_58, zl_59, zl_60, zl_61, zl_62, zl_63, zl_64, zl_88, zl_97, zl_99, zl_120, zl_122, zl_150, zl_152, zl_200, zl_255, zl_264, zl_280, zl_304, zl_464, zl_584, zl_600, zl_837, zl_999, zl_1000, zl_4088, zl_9999, zl_99999, zI_on, zI_add, zI_sub, zI_mul, zI_neg, zI_bi, zI_lt, zI_le, zI_inj, zI_in, zI_ix, int_lt_t, int_lt_f, int_le_t, int_le_f, int_eq_t, int_eq_f, i]
    rfl
  · have hp := of_decide_eq_true hp
    have i := c82 hn hw h1 h2 hk
    have j := ah_lt (w := w) hk
    unfold s_81_2
    simp (disch := omega) only [h1, wbs, obs, oms, ift, ifn, not_true_eq_false, not_false_eq_true, true_and, and_true, false_and, and_false, true_or, or_true, false_or, or_false, Bool.false_eq_true, reduceCtorEq, eq_self, decide_true, decide_false, zl_0, zl_1, zl_2, zl_3, zl_4, zl_5, zl_6, zl_7, zl_8, zl_9, zl_10, zl_11, zl_12, zl_13, zl_14, zl_15, zl_16, zl_17, zl_18, zl_19, zl_20, zl_21, zl_22, zl_23, zl_24, zl_25, zl_26, zl_27, zl_28, zl_29, zl_30, zl_31, zl_32, zl_33, zl_34, zl_35, zl_36, zl_37, zl_38, zl_39, zl_40, zl_41, zl_42, zl_43, zl_44, zl_45, zl_46, zl_47, zl_48, zl_49, zl_50, zl_51, zl_52, zl_53, zl_54, zl_55, zl_56, zl_57, zl_58, zl_59, zl_60, zl_61, zl_62, zl_63, zl_64, zl_88, zl_97, zl_99, zl_120, zl_122, zl_150, zl_152, zl_200, zl_255, zl_264, zl_280, zl_304, zl_464, zl_584, zl_600, zl_837, zl_999, zl_1000, zl_4088, zl_9999, zl_99999, zI_on, zI_add, zI_sub, zI_mul, zI_neg, zI_bi, zI_lt, zI_le, zI_inj, zI_in, zI_ix, int_lt_t, int_lt_f, int_le_t, int_le_f, int_eq_t, int_eq_f, i]
  · unfold s_81_2
    simp (disch := omega) only [h1, wbs, obs, oms, ift, ifn, not_true_eq_false, not_false_eq_true, true_and, and_true, false_and, and_false, true_or, or_true, false_or, or_false, Bool.false_eq_true, reduceCtorEq, eq_self, decide_true, decide_false, zl_0, zl_1, zl_2, zl_3, zl_4, zl_5, zl_6, zl_7, zl_8, zl_9, zl_10, zl_11, zl_12, zl_13, zl_14, zl_15, zl_16, zl_17, zl_18, zl_19, zl_20, zl_21, zl_22, zl_23, zl_24, zl_25, zl_26, zl_27, zl_28, zl_29, zl_30, zl_31, zl_32, zl_33, zl_34, zl_35, zl_36, zl_37, zl_38, zl_39, zl_40, zl_41, zl_42, zl_43, zl_44, zl_45, zl_46, zl_47, zl_48, zl_49, zl_50, zl_51, zl_52, zl_53, zl_54, zl_55, zl_56, zl_57, zl_58, zl_59, zl_60, zl_61, zl_62, zl_63, zl_64, zl_88, zl_97, zl_99, zl_120, zl_122, zl_150, zl_152, zl_200, zl_255, zl_264, zl_280, zl_304, zl_464, zl_584, zl_600, zl_837, zl_999, zl_1000, zl_4088, zl_9999, zl_99999, zI_on, zI_add, zI_sub, zI_mul, zI_neg, zI_bi, zI_lt, zI_le, zI_inj, zI_in, zI_ix, int_lt_t, int_lt_f, int_le_t, int_le_f, int_eq_t, int_eq_f]
end RD
section RM
variable {m : Mm} {r : Nat → Int} {W H : Nat}
end RM
section RF
variable {m : Mm} {f W H : Nat} {b : Nat → Int}
theorem c132 (hv : VL m) (hf : fA f) (hf2 : f + 1 < 237) (hf3 : 1 < f) (h : FR m f W H b) (hw : WH W H) (hb : BD W H b) {s : Int} (h1 : 0 ≤ s) (h2 : s ≤ 1) (hB : (ml W H b s).length ≤ 837) (hl : LC W m (ml W H b s)) {k : Nat} (hk : k < (ml W H b s).length) {what : Int} (w0 : 0 ≤ what) (w1 : what ≤ 3) :
    An (d_132 20 f (zI s) (zI (k : Nat)) (zI what) m) (fun q => q.1 = zI (pt W H b s ((ml W H b s).getD k (0, 0)) what) ∧ ∀ a, a ≠ 241 → a ≠ 242 → q.2 a = m a) := by
  have hw' := hw
  obtain ⟨a, a2, a3, a4⟩ := hw'
  obtain ⟨g1, g2, g3⟩ := ml_get (W := W) (H := H) (b := b) (s := s) hk
  have l2 := hl.2 k hk
  obtain ⟨x, y, hx, hy, d1, d2, d3, d4⟩ := gio_c hw g1
  obtain ⟨X, Y, hX, hY, f1, f2, f3, f4⟩ := gio_c hw g2
  rw [d4, f4] at l2
  have e77 : d_77 237 (zI (k : Nat)) m = some (zI ((x + 8 * y : Nat) : Int)) := by
    unfold d_77
    simp (disch := omega) only [wbs, obs, oms, ift, ifn, not_true_eq_false, not_false_eq_true, true_and, and_true, false_and, and_false, true_or, or_true, false_or, or_false, Bool.false_eq_true, reduceCtorEq, eq_self, decide_true, decide_false, zl_0, zl_1, zl_2, zl_3, zl_4, zl_5, zl_6, zl_7, zl_8, zl_9, zl_10, zl_11, zl_12, zl_13, zl_14, zl_15, zl_16, zl_17, zl_18, zl_19, zl_20, zl_21, zl_22, zl_23, zl_24, zl_25, zl_26, zl_27, zl_28, zl_29, zl_30, zl_31, zl_32, zl_33, zl_34, zl_35, zl_36, zl_37, zl_38, zl_39, zl_40, zl_41, zl_42, zl_43, zl_44, zl_45, zl_46, zl_47, zl_48, zl_49, zl_50, zl_51, zl_52, zl_53, zl_54, zl_55, zl_56, zl_57, zl_58, zl_59, zl_60, zl_61, zl_62, zl_63, zl_64, zl_88, zl_97, zl_99, zl_120, zl_122, zl_150, zl_152, zl_200, zl_255, zl_264, zl_280, zl_304, zl_464, zl_584, zl_600, zl_837, zl_999, zl_1000, zl_4088, zl_9999, zl_99999, zI_on, zI_add, zI_sub, zI_mul, zI_neg, zI_bi, zI_lt, zI_le, zI_inj, zI_in, zI_ix, int_lt_t, int_lt_f, int_le_t, int_le_f, int_eq_t, int_eq_f, l_r0, l_n8, Int.toNat_natCast, l2.1]
  have e78 : d_78 237 (zI (k : Nat)) m = some (zI ((X + 8 * Y : Nat) : Int)) := by
    unfold d_78
    simp (disch := omega) only [wbs, obs, oms, ift, ifn, not_true_eq_false, not_false_eq_true, true_and, and_true, false_and, and_false, true_or, or_true, false_or, or_false, Bool.false_eq_true, reduceCtorEq, eq_self, decide_true, decide_false, zl_0, zl_1, zl_2, zl_3, zl_4, zl_5, zl_6, zl_7, zl_8, zl_9, zl_10, zl_11, zl_12, zl_13, zl_14, zl_15, zl_16, zl_17, zl_18, zl_19, zl_20, zl_21, zl_22, zl_23, zl_24, zl_25, zl_26, zl_27, zl_28, zl_29, zl_30, zl_31, zl_32, zl_33, zl_34, zl_35, zl_36, zl_37, zl_38, zl_39, zl_40, zl_41, zl_42, zl_43, zl_44, zl_45, zl_46, zl_47, zl_48, zl_49, zl_50, zl_51, zl_52, zl_53, zl_54, zl_55, zl_56, zl_57, zl_58, zl_59, zl_60, zl_61, zl_62, zl_63, zl_64, zl_88, zl_97, zl_99, zl_120, zl_122, zl_150, zl_152, zl_200, zl_255, zl_264, zl_280, zl_304, zl_464, zl_584, zl_600, zl_837, zl_999, zl_1000, zl_4088, zl_9999, zl_99999, zI_on, zI_add, zI_sub, zI_mul, zI_neg, zI_bi, zI_lt, zI_le, zI_inj, zI_in, zI_ix, int_lt_t, int_lt_f, int_le_t, int_le_f, int_eq_t, int_eq_f, l_r1, l_n9, Int.toNat_natCast, l2.2]
  have r7 : sh_r 20 7 = 237 := by decide +kernel
  unfold d_132 pt
  rw [r7, e77]
  simp only [obs]
  rw [e78]
  simp only [obs]
  rw [d2, d3, f2, f3] at g3 ⊢
  by_cases q0 : what = 0
  · subst q0
    rw [if_pos (show zI 0 = 0 from rfl), c16 h (by omega) (by omega), d1]
    exact An.so ⟨rfl, fun _ _ _ => rfl⟩
  · rw [if_neg (by rw [zl_0, zI_inj (by omega) (by omega) (by omega) (by omega)]; exact q0), if_neg q0]
    by_cases q1 : what = 1
    · subst q1
      rw [if_pos (show zI 1 = 1 from rfl), c16 h (by omega) (by omega), f1]
      exact An.so ⟨rfl, fun _ _ _ => rfl⟩
    · rw [if_neg (by rw [zl_1, zI_inj (by omega) (by omega) (by omega) (by omega)]; exact q1), if_neg q1]
      by_cases q2 : what = 2
      · subst q2
        rw [if_pos (show zI 2 = 2 from rfl), c27 hv hf h hw hb hx hy hX hY]
        exact An.so ⟨rfl, fun _ _ _ => rfl⟩
      · rw [if_neg (by rw [zl_2, zI_inj (by omega) (by omega) (by omega) (by omega)]; exact q2), if_neg q2]
        refine An.bd (c79 hv hf hf2 hf3 h hw hb h1 h2 hx hy hX hY g3) (fun q hq => An.so hq)
end RF
