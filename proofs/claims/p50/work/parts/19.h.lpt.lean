/-! More loops over the cells of the class's boards. -/
/-- a loop that looks for the first one -/
theorem it_ff {τ ρ : Type} {F : τ → Option (τ ⊕ ρ)} (st : Nat → τ) (p : Nat → Bool) (g : Nat → ρ) (e : ρ) (N : Nat) (h1 : ∀ k, k < N → p k = false → F (st k) = some (.inl (st (k + 1)))) (h2 : ∀ k, k < N → p k = true → F (st k) = some (.inr (g k))) (h3 : F (st N) = some (.inr e)) :
    it F (st 0) = some (if ff p N < N then g (ff p N) else e) := by
  have hl := ff_le p N
  by_cases h : ff p N < N
  · rw [if_pos h]
    exact it_row st (g (ff p N)) (ff p N) (fun k hk => h1 k (by omega) (ff_lt hk)) (h2 _ h (ff_at h))
  · rw [if_neg h]
    have e2 : ff p N = N := by omega
    exact it_row st e N (fun k hk => h1 k hk (ff_lt (n := N) (by omega))) h3
/-- whether a king of a side could be taken -/
def kx (W H : Nat) (b : Nat → Int) (s : Int) : Bool := if ff (fun c => decide (b c = 1 + 6 * s)) (W * H) < W * H then decide (0 < atk W H b (1 - s) (ff (fun c => decide (b c = 1 + 6 * s)) (W * H) % W) (ff (fun c => decide (b c = 1 + 6 * s)) (W * H) / W)) else false
def fdi (n : Nat) (b b' : Nat → Int) : Int := if ff (fun c => decide (¬ b c = b' c)) n < n then (ff (fun c => decide (¬ b c = b' c)) n : Nat) else -1
theorem gn_r {W H : Nat} {b : Nat → Int} {x y X Y : Nat} : 0 ≤ gn W H b x y X Y ∧ gn W H b x y X Y ≤ 108 := by
  unfold gn
  have := vl_r (b (X + W * Y))
  split <;> omega
section CP
variable {m : Mm} {f W H : Nat} {b : Nat → Int}
theorem c27n (hv : VL m) (hf : fA f) (h : FR m f W H b) (hw : WH W H) (hb : BD W H b) {x y X Y : Nat} (hx : x < W) (hy : y < H) (hX : X < 8) (hY : Y < 8) (hn : ¬ (X < W ∧ Y < H)) :
    ∃ v, d_27 f (zI ((x + 8 * y : Nat) : Int)) (zI ((X + 8 * Y : Nat) : Int)) m = some (zI v) ∧ 0 ≤ v ∧ v ≤ 108 := by
  have hw' := hw
  obtain ⟨a, a2, a3, a4⟩ := hw'
  have b1 := hb x y hx hy
  unfold d_27
  rw [c17 hf (by omega), h.off hX hY hn]
  simp only [obs]
  have e := c20 hv (p := 0) (by decide) (by decide)
  rw [show (0 : Int) - 1 = -1 from rfl] at e
  rw [e]
  simp only [obs]
  rw [c17 hf (by omega), h.on hw hx hy]
  simp only [obs]
  rw [c24 h hw b1.1 b1.2 hX hY]
  cases bq H (b (x + W * y)) Y
  · exact ⟨vl 0 + 0, by simp only [obs, zI_on, zI_add, zI_sub, zI_mul, zI_neg, zI_bi, zl_0, zl_1, zl_2, zl_3, zl_4, zl_5, zl_6, zl_7, zl_8, zl_9, zl_10, zl_11, zl_12, zl_13, zl_14, zl_15, zl_16, zl_17, zl_18, zl_19, zl_20, zl_21, zl_22, zl_23, zl_24, zl_25, zl_26, zl_27, zl_28, zl_29, zl_30, zl_31, zl_32, zl_33, zl_34, zl_35, zl_36, zl_37, zl_38, zl_39, zl_40, zl_41, zl_42, zl_43, zl_44, zl_45, zl_46, zl_47, zl_48, zl_49, zl_50, zl_51, zl_52, zl_53, zl_54, zl_55, zl_56, zl_57, zl_58, zl_59, zl_60, zl_61, zl_62, zl_63, zl_64, zl_88, zl_97, zl_99, zl_120, zl_122, zl_150, zl_152, zl_200, zl_255, zl_264, zl_280, zl_304, zl_464, zl_584, zl_600, zl_837, zl_999, zl_1000, zl_4088, zl_9999, zl_99999, if_false, Bool.false_eq_true], by decide, by decide⟩
  · exact ⟨vl 0 + 8, by simp only [obs, zI_on, zI_add, zI_sub, zI_mul, zI_neg, zI_bi, zl_0, zl_1, zl_2, zl_3, zl_4, zl_5, zl_6, zl_7, zl_8, zl_9, zl_10, zl_11, zl_12, zl_13, zl_14, zl_15, zl_16, zl_17, zl_18, zl_19, zl_20, zl_21, zl_22, zl_23, zl_24, zl_25, zl_26, zl_27, zl_28, zl_29, zl_30, zl_31, zl_32, zl_33, zl_34, zl_35, zl_36, zl_37, zl_38, zl_39, zl_40, zl_41, zl_42, zl_43, zl_44, zl_45, zl_46, zl_47, zl_48, zl_49, zl_50, zl_51, zl_52, zl_53, zl_54, zl_55, zl_56, zl_57, zl_58, zl_59, zl_60, zl_61, zl_62, zl_63, zl_64, zl_88, zl_97, zl_99, zl_120, zl_122, zl_150, zl_152, zl_200, zl_255, zl_264, zl_280, zl_304, zl_464, zl_584, zl_600, zl_837, zl_999, zl_1000, zl_4088, zl_9999, zl_99999, if_true], by decide, by decide⟩
theorem c28i (hv : VL m) (hf : fA f) (h : FR m f W H b) (hw : WH W H) (hb : BD W H b) {s : Int} (h1 : 0 ≤ s) (h2 : s ≤ 1) {x y : Nat} (hx : x < W) (hy : y < H) {v : Int} (v1 : 0 ≤ v) (v2 : v ≤ 1000) :
    d_28_29 f (zI s) (zI ((x + 8 * y : Nat) : Int)) m (zI v) 0 = some (.inl (zI (bgi W H b s (x + W * y) v), zI ((x + 8 * y + 1 : Nat) : Int))) ∧ 0 ≤ bgi W H b s (x + W * y) v ∧ bgi W H b s (x + W * y) v ≤ 1000 := by
  have hw' := hw
  obtain ⟨a, a2, a3, a4⟩ := hw'
  unfold d_28_29 bgi
  rw [← fo_fc hw, (cell_md hx).1, (cell_md hx).2]
  have k := it_fo (F := fun t => s_28_29 f (zI s) (zI ((x + 8 * y : Nat) : Int)) m t.1 t.2) (mk := fun (v : Int) k => (zI v, zI (k : Int))) (out := fun v => Sum.inl (zI v, zI ((x + 8 * y + 1 : Nat) : Int))) (n := 64) (s := v)
    (f := fc W H (fun d v => if mv W b s x y (d % W) (d / W) = true then mx v (gn W H b x y (d % W) (d / W)) else v)) (fun _ v => 0 ≤ v ∧ v ≤ 1000) ⟨v1, v2⟩ (fun k hk v hv2 => ?_) (fun v hv2 => ?_)
  · exact ⟨k.1, k.2⟩
  · obtain ⟨X, Y, hX, hY, rfl⟩ := xy_of hk
    obtain ⟨v3, v4⟩ := hv2
    have e21 := c21 hf h hw hb h1 h2 (x := x) (y := y) (X := X) (Y := Y) (by omega) (by omega) hX hY
    by_cases q : X < W ∧ Y < H
    · have e27 := c27 hv hf h hw hb hx hy q.1 q.2
      have g := gn_r (W := W) (H := H) (b := b) (x := x) (y := y) (X := X) (Y := Y)
      have al : alw W H b s x y X Y = mv W b s x y X Y := by unfold alw; simp only [hx, hy, q.1, q.2, and_self, decide_true, Bool.true_and]
      rw [fc_on hw q.1 q.2, (cell_md q.1).1, (cell_md q.1).2]
      rw [al] at e21
      generalize gn W H b x y X Y = G at *
      cases hV : mv W b s x y X Y <;> rw [hV] at e21
      · refine ⟨?_, by simp only [Bool.false_eq_true, if_false]; omega⟩
        by_cases q2 : G ≤ v <;> simp (disch := omega) only [s_28_29, wbs, obs, oms, ift, ifn, not_true_eq_false, not_false_eq_true, true_and, and_true, false_and, and_false, true_or, or_true, false_or, or_false, Bool.false_eq_true, reduceCtorEq, eq_self, decide_true, decide_false, zl_0, zl_1, zl_2, zl_3, zl_4, zl_5, zl_6, zl_7, zl_8, zl_9, zl_10, zl_11, zl_12, zl_13, zl_14, zl_15, zl_16, zl_17, zl_18, zl_19, zl_20, zl_21, zl_22, zl_23, zl_24, zl_25, zl_26, zl_27, zl_28, zl_29, zl_30, zl_31, zl_32, zl_33, zl_34, zl_35, zl_36, zl_37, zl_38, zl_39, zl_40, zl_41, zl_42, zl_43, zl_44, zl_45, zl_46, zl_47, zl_48, zl_49, zl_50, zl_51, zl_52, zl_53, zl_54, zl_55, zl_56, zl_57, zl_58, zl_59, zl_60, zl_61, zl_62, zl_63, zl_64, zl_88, zl_97, zl_99, zl_120, zl_122, zl_150, zl_152, zl_200, zl_255, zl_264, zl_280, zl_304, zl_464, zl_584, zl_600, zl_837, zl_999, zl_1000, zl_4088, zl_9999, zl_99999, zI_on, zI_add, zI_sub, zI_mul, zI_neg, zI_bi, zI_lt, zI_le, zI_inj, zI_in, zI_ix, int_lt_t, int_lt_f, int_le_t, int_le_f, int_eq_t, int_eq_f, e27, e21] <;> rfl
      · have mf := mx_f v G
        refine ⟨?_, by simp only [if_true]; omega⟩
        unfold mx
        by_cases q2 : G ≤ v <;> simp (disch := omega) only [s_28_29, wbs, obs, oms, ift, ifn, not_true_eq_false, not_false_eq_true, true_and, and_true, false_and, and_false, true_or, or_true, false_or, or_false, Bool.false_eq_true, reduceCtorEq, eq_self, decide_true, decide_false, zl_0, zl_1, zl_2, zl_3, zl_4, zl_5, zl_6, zl_7, zl_8, zl_9, zl_10, zl_11, zl_12, zl_13, zl_14, zl_15, zl_16, zl_17, zl_18, zl_19, zl_20, zl_21, zl_22, zl_23, zl_24, zl_25, zl_26, zl_27, zl_28, zl_29, zl_30, zl_31, zl_32, zl_33, zl_34, zl_35, zl_36, zl_37, zl_38, zl_39, zl_40, zl_41, zl_42, zl_43, zl_44, zl_45, zl_46, zl_47, zl_48, zl_49, zl_50, zl_51, zl_52, zl_53, zl_54, zl_55, zl_56, zl_57, zl_58, zl_59, zl_60, zl_61, zl_62, zl_63, zl_64, zl_88, zl_97, zl_99, zl_120, zl_122, zl_150, zl_152, zl_200, zl_255, zl_264, zl_280, zl_304, zl_464, zl_584, zl_600, zl_837, zl_999, zl_1000, zl_4088, zl_9999, zl_99999, zI_on, zI_add, zI_sub, zI_mul, zI_neg, zI_bi, zI_lt, zI_le, zI_inj, zI_in, zI_ix, int_lt_t, int_lt_f, int_le_t, int_le_f, int_eq_t, int_eq_f, e27, e21] <;> rfl
    · obtain ⟨G, e27, g1, g2⟩ := c27n hv hf h hw hb hx hy hX hY q
      have al : alw W H b s x y X Y = false := by unfold alw; rw [decide_eq_false (by omega), Bool.false_and]
      rw [fc_off hX q]
      rw [al] at e21
      refine ⟨?_, v3, v4⟩
      by_cases q2 : G ≤ v <;> simp (disch := omega) only [s_28_29, wbs, obs, oms, ift, ifn, not_true_eq_false, not_false_eq_true, true_and, and_true, false_and, and_false, true_or, or_true, false_or, or_false, Bool.false_eq_true, reduceCtorEq, eq_self, decide_true, decide_false, zl_0, zl_1, zl_2, zl_3, zl_4, zl_5, zl_6, zl_7, zl_8, zl_9, zl_10, zl_11, zl_12, zl_13, zl_14, zl_15, zl_16, zl_17, zl_18, zl_19, zl_20, zl_21, zl_22, zl_23, zl_24, zl_25, zl_26, zl_27, zl_28, zl_29, zl_30, zl_31, zl_32, zl_33, zl_34, zl_35, zl_36, zl_37, zl_38, zl_39, zl_40, zl_41, zl_42, zl_43, zl_44, zl_45, zl_46, zl_47, zl_48, zl_49, zl_50, zl_51, zl_52, zl_53, zl_54, zl_55, zl_56, zl_57, zl_58, zl_59, zl_60, zl_61, zl_62, zl_63, zl_64, zl_88, zl_97, zl_99, zl_120, zl_122, zl_150, zl_152, zl_200, zl_255, zl_264, zl_280, zl_304, zl_464, zl_584, zl_600, zl_837, zl_999, zl_1000, zl_4088, zl_9999, zl_99999, zI_on, zI_add, zI_sub, zI_mul, zI_neg, zI_bi, zI_lt, zI_le, zI_inj, zI_in, zI_ix, int_lt_t, int_lt_f, int_le_t, int_le_f, int_eq_t, int_eq_f, e27, e21] <;> rfl
  · simp (disch := omega) only [s_28_29, wbs, obs, oms, ift, ifn, not_true_eq_false, not_false_eq_true, true_and, and_true, false_and, and_false, true_or, or_true, false_or, or_false, Bool.false_eq_true, reduceCtorEq, eq_self, decide_true, decide_false, zl_0, zl_1, zl_2, zl_3, zl_4, zl_5, zl_6, zl_7, zl_8, zl_9, zl_10, zl_11, zl_12, zl_13, zl_14, zl_15, zl_16, zl_17, zl_18, zl_19, zl_20, zl_21, zl_22, zl_23, zl_24, zl_25, zl_26, zl_27, zl_28, zl_29, zl_30, zl_31, zl_32, zl_33, zl_34, zl_35, zl_36, zl_37, zl_38, zl_39, zl_40, zl_41, zl_42, zl_43, zl_44, zl_45, zl_46, zl_47, zl_48, zl_49, zl_50, zl_51, zl_52, zl_53, zl_54, zl_55, zl_56, zl_57, zl_58, zl_59, zl_60, zl_61, zl_62, zl_63, zl_64, zl_88, zl_97, zl_99, zl_120, zl_122, zl_150, zl_152, zl_200, zl_255, zl_264, zl_280, zl_304, zl_464, zl_584, zl_600, zl_837, zl_999, zl_1000, zl_4088, zl_9999, zl_99999, zI_on, zI_add, zI_sub, zI_mul, zI_neg, zI_bi, zI_lt, zI_le, zI_inj, zI_in, zI_ix, int_lt_t, int_lt_f, int_le_t, int_le_f, int_eq_t, int_eq_f]
    rfl
theorem c28 (hv : VL m) (hf : fA f) (h : FR m f W H b) (hw : WH W H) (hb : BD W H b) {s : Int} (h1 : 0 ≤ s) (h2 : s ≤ 1) : d_28 f (zI s) m = some (zI (bg W H b s)) ∧ 0 ≤ bg W H b s ∧ bg W H b s ≤ 1000 := by
  unfold d_28 d_28_4 bg
  rw [← fo_fc hw]
  refine it_fo (F := fun t => s_28_4 f (zI s) m t.1 t.2) (mk := fun (v : Int) k => (zI v, zI (k : Int))) (out := zI) (n := 64) (s := 0) (fun _ v => 0 ≤ v ∧ v ≤ 1000) ⟨by decide, by decide⟩ (fun k hk v hv2 => ?_) (fun v _ => ?_)
  · obtain ⟨x, y, hx, hy, rfl⟩ := xy_of hk
    obtain ⟨v3, v4⟩ := hv2
    by_cases q : x < W ∧ y < H
    · have b1 := hb x y q.1 q.2
      have i := c28i hv hf h hw hb h1 h2 q.1 q.2 v3 v4
      rw [fc_on hw q.1 q.2]
      by_cases e : sd (b (x + W * y)) = s
      · rw [if_pos e]
        refine ⟨?_, i.2⟩
        rw [zl_0] at i
        simp (disch := omega) only [s_28_4, hf.1, hf.2, wbs, obs, oms, ift, ifn, not_true_eq_false, not_false_eq_true, true_and, and_true, false_and, and_false, true_or, or_true, false_or, or_false, Bool.false_eq_true, reduceCtorEq, eq_self, decide_true, decide_false, zl_0, zl_1, zl_2, zl_3, zl_4, zl_5, zl_6, zl_7, zl_8, zl_9, zl_10, zl_11, zl_12, zl_13, zl_14, zl_15, zl_16, zl_17, zl_18, zl_19, zl_20, zl_21, zl_22, zl_23, zl_24, zl_25, zl_26, zl_27, zl_28, zl_29, zl_30, zl_31, zl_32, zl_33, zl_34, zl_35, zl_36, zl_37, zl_38, zl_39, zl_40, zl_41, zl_42, zl_43, zl_44, zl_45, zl_46, zl_47, zl_48, zl_49, zl_50, zl_51, zl_52, zl_53, zl_54, zl_55, zl_56, zl_57, zl_58, zl_59, zl_60, zl_61, zl_62, zl_63, zl_64, zl_88, zl_97, zl_99, zl_120, zl_122, zl_150, zl_152, zl_200, zl_255, zl_264, zl_280, zl_304, zl_464, zl_584, zl_600, zl_837, zl_999, zl_1000, zl_4088, zl_9999, zl_99999, zI_on, zI_add, zI_sub, zI_mul, zI_neg, zI_bi, zI_lt, zI_le, zI_inj, zI_in, zI_ix, int_lt_t, int_lt_f, int_le_t, int_le_f, int_eq_t, int_eq_f, Int.toNat_natCast, h.on hw q.1 q.2, c19 b1.1 b1.2 h1 h2, e, i.1]
      · rw [if_neg e]
        refine ⟨?_, v3, v4⟩
        simp (disch := omega) only [s_28_4, hf.1, hf.2, wbs, obs, oms, ift, ifn, not_true_eq_false, not_false_eq_true, true_and, and_true, false_and, and_false, true_or, or_true, false_or, or_false, Bool.false_eq_true, reduceCtorEq, eq_self, decide_true, decide_false, zl_0, zl_1, zl_2, zl_3, zl_4, zl_5, zl_6, zl_7, zl_8, zl_9, zl_10, zl_11, zl_12, zl_13, zl_14, zl_15, zl_16, zl_17, zl_18, zl_19, zl_20, zl_21, zl_22, zl_23, zl_24, zl_25, zl_26, zl_27, zl_28, zl_29, zl_30, zl_31, zl_32, zl_33, zl_34, zl_35, zl_36, zl_37, zl_38, zl_39, zl_40, zl_41, zl_42, zl_43, zl_44, zl_45, zl_46, zl_47, zl_48, zl_49, zl_50, zl_51, zl_52, zl_53, zl_54, zl_55, zl_56, zl_57, zl_58, zl_59, zl_60, zl_61, zl_62, zl_63, zl_64, zl_88, zl_97, zl_99, zl_120, zl_122, zl_150, zl_152, zl_200, zl_255, zl_264, zl_280, zl_304, zl_464, zl_584, zl_600, zl_837, zl_999, zl_1000, zl_4088, zl_9999, zl_99999, zI_on, zI_add, zI_sub, zI_mul, zI_neg, zI_bi, zI_lt, zI_le, zI_inj, zI_in, zI_ix, int_lt_t, int_lt_f, int_le_t, int_le_f, int_eq_t, int_eq_f, Int.toNat_natCast, h.on hw q.1 q.2, c19 b1.1 b1.2 h1 h2, e]
        rfl
    · rw [fc_off hx q]
      refine ⟨?_, v3, v4⟩
      have e := c19n h1 h2
      simp (disch := omega) only [s_28_4, hf.1, hf.2, wbs, obs, oms, ift, ifn, not_true_eq_false, not_false_eq_true, true_and, and_true, false_and, and_false, true_or, or_true, false_or, or_false, Bool.false_eq_true, reduceCtorEq, eq_self, decide_true, decide_false, zl_0, zl_1, zl_2, zl_3, zl_4, zl_5, zl_6, zl_7, zl_8, zl_9, zl_10, zl_11, zl_12, zl_13, zl_14, zl_15, zl_16, zl_17, zl_18, zl_19, zl_20, zl_21, zl_22, zl_23, zl_24, zl_25, zl_26, zl_27, zl_28, zl_29, zl_30, zl_31, zl_32, zl_33, zl_34, zl_35, zl_36, zl_37, zl_38, zl_39, zl_40, zl_41, zl_42, zl_43, zl_44, zl_45, zl_46, zl_47, zl_48, zl_49, zl_50, zl_51, zl_52, zl_53, zl_54, zl_55, zl_56, zl_57, zl_58, zl_59, zl_60, zl_61, zl_62, zl_63, zl_64, zl_88, zl_97, zl_99, zl_120, zl_122, zl_150, zl_152, zl_200, zl_255, zl_264, zl_280, zl_304, zl_464, zl_584, zl_600, zl_837, zl_999, zl_1000, zl_4088, zl_9999, zl_99999, zI_on, zI_add, zI_sub, zI_mul, zI_neg, zI_bi, zI_lt, zI_le, zI_inj, zI_in, zI_ix, int_lt_t, int_lt_f, int_le_t, int_le_f, int_eq_t, int_eq_f, Int.toNat_natCast, h.off hx hy q, e]
      rfl
  · simp (disch := omega) only [s_28_4, wbs, obs, oms, ift, ifn, not_true_eq_false, not_false_eq_true, true_and, and_true, false_and, and_false, true_or, or_true, false_or, or_false, Bool.false_eq_true, reduceCtorEq, eq_self, decide_true, decide_false, zl_0, zl_1, zl_2, zl_3, zl_4, zl_5, zl_6, zl_7, zl_8, zl_9, zl_10, zl_11, zl_12, zl_13, zl_14, zl_15, zl_16, zl_17, zl_18, zl_19, zl_20, zl_21, zl_22, zl_23, zl_24, zl_25, zl_26, zl_27, zl_28, zl_29, zl_30, zl_31, zl_32, zl_33, zl_34, zl_35, zl_36, zl_37, zl_38, zl_39, zl_40, zl_41, zl_42, zl_43, zl_44, zl_45, zl_46, zl_47, zl_48, zl_49, zl_50, zl_51, zl_52, zl_53, zl_54, zl_55, zl_56, zl_57, zl_58, zl_59, zl_60, zl_61, zl_62, zl_63, zl_64, zl_88, zl_97, zl_99, zl_120, zl_122, zl_150, zl_152, zl_200, zl_255, zl_264, zl_280, zl_304, zl_464, zl_584, zl_600, zl_837, zl_999, zl_1000, zl_4088, zl_9999, zl_99999, zI_on, zI_add, zI_sub, zI_mul, zI_neg, zI_bi, zI_lt, zI_le, zI_inj, zI_in, zI_ix, int_lt_t, int_lt_f, int_le_t, int_le_f, int_eq_t, int_eq_f]
theorem c29 (hf : fA f) (h : FR m f W H b) (hw : WH W H) (hb : BD W H b) {s : Int} (h1 : 0 ≤ s) (h2 : s ≤ 1) {X Y : Nat} (hX : X < W) (hY : Y < H) : d_29 f (zI s) (zI ((X + 8 * Y : Nat) : Int)) m = some (zI (atk W H b s X Y)) ∧ 0 ≤ atk W H b s X Y ∧ atk W H b s X Y ≤ 64 := by
  unfold d_29 d_29_5 atk
  rw [← fo_fc hw]
  have key := it_fo (F := fun t => s_29_5 f (zI s) (zI ((X + 8 * Y : Nat) : Int)) m t.1 t.2) (mk := fun (v : Int) k => (zI v, zI (k : Int))) (out := zI) (n := 64) (s := 0) (f := fc W H (fun c v => if sd (b c) = s ∧ rc W b (b c) (c % W) (c / W) X Y true = true then v + 1 else v)) (fun k v => 0 ≤ v ∧ v ≤ (k : Int)) ⟨by decide, by decide⟩ (fun k hk v hv2 => ?_) (fun v _ => ?_)
  · exact key
  · obtain ⟨x, y, hx, hy, rfl⟩ := xy_of hk
    obtain ⟨v3, v4⟩ := hv2
    by_cases q : x < W ∧ y < H
    · have b1 := hb x y q.1 q.2
      rw [fc_on hw q.1 q.2, (cell_md q.1).1, (cell_md q.1).2]
      by_cases e : sd (b (x + W * y)) = s
      · have e22 := c22 hf h hw hb (sd_1 b1.1 b1.2 h1 e) b1.2 q.1 q.2 hX hY (tk := true)
        cases hR : rc W b (b (x + W * y)) x y X Y true
        · rw [hR] at e22
          rw [if_neg (by simp)]
          refine ⟨?_, by omega, by omega⟩
          simp (disch := omega) only [s_29_5, hf.1, hf.2, wbs, obs, oms, ift, ifn, not_true_eq_false, not_false_eq_true, true_and, and_true, false_and, and_false, true_or, or_true, false_or, or_false, Bool.false_eq_true, reduceCtorEq, eq_self, decide_true, decide_false, zl_0, zl_1, zl_2, zl_3, zl_4, zl_5, zl_6, zl_7, zl_8, zl_9, zl_10, zl_11, zl_12, zl_13, zl_14, zl_15, zl_16, zl_17, zl_18, zl_19, zl_20, zl_21, zl_22, zl_23, zl_24, zl_25, zl_26, zl_27, zl_28, zl_29, zl_30, zl_31, zl_32, zl_33, zl_34, zl_35, zl_36, zl_37, zl_38, zl_39, zl_40, zl_41, zl_42, zl_43, zl_44, zl_45, zl_46, zl_47, zl_48, zl_49, zl_50, zl_51, zl_52, zl_53, zl_54, zl_55, zl_56, zl_57, zl_58, zl_59, zl_60, zl_61, zl_62, zl_63, zl_64, zl_88, zl_97, zl_99, zl_120, zl_122, zl_150, zl_152, zl_200, zl_255, zl_264, zl_280, zl_304, zl_464, zl_584, zl_600, zl_837, zl_999, zl_1000, zl_4088, zl_9999, zl_99999, zI_on, zI_add, zI_sub, zI_mul, zI_neg, zI_bi, zI_lt, zI_le, zI_inj, zI_in, zI_ix, int_lt_t, int_lt_f, int_le_t, int_le_f, int_eq_t, int_eq_f, Int.toNat_natCast, h.on hw q.1 q.2, c19 b1.1 b1.2 h1 h2, e, e22]
          rfl
        · rw [hR] at e22
          rw [if_pos ⟨e, rfl⟩]
          refine ⟨?_, by omega, by omega⟩
          simp (disch := omega) only [s_29_5, hf.1, hf.2, wbs, obs, oms, ift, ifn, not_true_eq_false, not_false_eq_true, true_and, and_true, false_and, and_false, true_or, or_true, false_or, or_false, Bool.false_eq_true, reduceCtorEq, eq_self, decide_true, decide_false, zl_0, zl_1, zl_2, zl_3, zl_4, zl_5, zl_6, zl_7, zl_8, zl_9, zl_10, zl_11, zl_12, zl_13, zl_14, zl_15, zl_16, zl_17, zl_18, zl_19, zl_20, zl_21, zl_22, zl_23, zl_24, zl_25, zl_26, zl_27, zl_28, zl_29, zl_30, zl_31, zl_32, zl_33, zl_34, zl_35, zl_36, zl_37, zl_38, zl_39, zl_40, zl_41, zl_42, zl_43, zl_44, zl_45, zl_46, zl_47, zl_48, zl_49, zl_50, zl_51, zl_52, zl_53, zl_54, zl_55, zl_56, zl_57, zl_58, zl_59, zl_60, zl_61, zl_62, zl_63, zl_64, zl_88, zl_97, zl_99, zl_120, zl_122, zl_150, zl_152, zl_200, zl_255, zl_264, zl_280, zl_304, zl_464, zl_584, zl_600, zl_837, zl_999, zl_1000, zl_4088, zl_9999, zl_99999, zI_on, zI_add, zI_sub, zI_mul, zI_neg, zI_bi, zI_lt, zI_le, zI_inj, zI_in, zI_ix, int_lt_t, int_lt_f, int_le_t, int_le_f, int_eq_t, int_eq_f, Int.toNat_natCast, h.on hw q.1 q.2, c19 b1.1 b1.2 h1 h2, e, e22]
          rfl
      · rw [if_neg (fun q => e q.1)]
        refine ⟨?_, by omega, by omega⟩
        simp (disch := omega) only [s_29_5, hf.1, hf.2, wbs, obs, oms, ift, ifn, not_true_eq_false, not_false_eq_true, true_and, and_true, false_and, and_false, true_or, or_true, false_or, or_false, Bool.false_eq_true, reduceCtorEq, eq_self, decide_true, decide_false, zl_0, zl_1, zl_2, zl_3, zl_4, zl_5, zl_6, zl_7, zl_8, zl_9, zl_10, zl_11, zl_12, zl_13, zl_14, zl_15, zl_16, zl_17, zl_18, zl_19, zl_20, zl_21, zl_22, zl_23, zl_24, zl_25, zl_26, zl_27, zl_28, zl_29, zl_30, zl_31, zl_32, zl_33, zl_34, zl_35, zl_36, zl_37, zl_38, zl_39, zl_40, zl_41, zl_42, zl_43, zl_44, zl_45, zl_46, zl_47, zl_48, zl_49, zl_50, zl_51, zl_52, zl_53, zl_54, zl_55, zl_56, zl_57, zl_58, zl_59, zl_60, zl_61, zl_62, zl_63, zl_64, zl_88, zl_97, zl_99, zl_120, zl_122, zl_150, zl_152, zl_200, zl_255, zl_264, zl_280, zl_304, zl_464, zl_584, zl_600, zl_837, zl_999, zl_1000, zl_4088, zl_9999, zl_99999, zI_on, zI_add, zI_sub, zI_mul, zI_neg, zI_bi, zI_lt, zI_le, zI_inj, zI_in, zI_ix, int_lt_t, int_lt_f, int_le_t, int_le_f, int_eq_t, int_eq_f, Int.toNat_natCast, h.on hw q.1 q.2, c19 b1.1 b1.2 h1 h2, e]
        rfl
    · rw [fc_off hx q]
      refine ⟨?_, by omega, by omega⟩
      have e := c19n h1 h2
      simp (disch := omega) only [s_29_5, hf.1, hf.2, wbs, obs, oms, ift, ifn, not_true_eq_false, not_false_eq_true, true_and, and_true, false_and, and_false, true_or, or_true, false_or, or_false, Bool.false_eq_true, reduceCtorEq, eq_self, decide_true, decide_false, zl_0, zl_1, zl_2, zl_3, zl_4, zl_5, zl_6, zl_7, zl_8, zl_9, zl_10, zl_11, zl_12, zl_13, zl_14, zl_15, zl_16, zl_17, zl_18, zl_19, zl_20, zl_21, zl_22, zl_23, zl_24, zl_25, zl_26, zl_27, zl_28, zl_29, zl_30, zl_31, zl_32, zl_33, zl_34, zl_35, zl_36, zl_37, zl_38, zl_39, zl_40, zl_41, zl_42, zl_43, zl_44, zl_45, zl_46, zl_47, zl_48, zl_49, zl_50, zl_51, zl_52, zl_53, zl_54, zl_55, zl_56, zl_57, zl_58, zl_59, zl_60, zl_61, zl_62, zl_63, zl_64, zl_88, zl_97, zl_99, zl_120, zl_122, zl_150, zl_152, zl_200, zl_255, zl_264, zl_280, zl_304, zl_464, zl_584, zl_600, zl_837, zl_999, zl_1000, zl_4088, zl_9999, zl_99999, zI_on, zI_add, zI_sub, zI_mul, zI_neg, zI_bi, zI_lt, zI_le, zI_inj, zI_in, zI_ix, int_lt_t, int_lt_f, int_le_t, int_le_f, int_eq_t, int_eq_f, Int.toNat_natCast, h.off hx hy q, e]
      rfl
  · simp (disch := omega) only [s_29_5, wbs, obs, oms, ift, ifn, not_true_eq_false, not_false_eq_true, true_and, and_true, false_and, and_false, true_or, or_true, false_or, or_false, Bool.false_eq_true, reduceCtorEq, eq_self, decide_true, decide_false, zl_0, zl_1, zl_2, zl_3, zl_4, zl_5, zl_6, zl_7, zl_8, zl_9, zl_10, zl_11, zl_12, zl_13, zl_14, zl_15, zl_16, zl_17, zl_18, zl_19, zl_20, zl_21, zl_22, zl_23, zl_24, zl_25, zl_26, zl_27, zl_28, zl_29, zl_30, zl_31, zl_32, zl_33, zl_34, zl_35, zl_36, zl_37, zl_38, zl_39, zl_40, zl_41, zl_42, zl_43, zl_44, zl_45, zl_46, zl_47, zl_48, zl_49, zl_50, zl_51, zl_52, zl_53, zl_54, zl_55, zl_56, zl_57, zl_58, zl_59, zl_60, zl_61, zl_62, zl_63, zl_64, zl_88, zl_97, zl_99, zl_120, zl_122, zl_150, zl_152, zl_200, zl_255, zl_264, zl_280, zl_304, zl_464, zl_584, zl_600, zl_837, zl_999, zl_1000, zl_4088, zl_9999, zl_99999, zI_on, zI_add, zI_sub, zI_mul, zI_neg, zI_bi, zI_lt, zI_le, zI_inj, zI_in, zI_ix, int_lt_t, int_lt_f, int_le_t, int_le_f, int_eq_t, int_eq_f]
theorem c30 (hf : fA f) (h : FR m f W H b) (hw : WH W H) (hb : BD W H b) {s : Int} (h1 : 0 ≤ s) (h2 : s ≤ 1) : d_30 f (zI s) m = some (kx W H b s) := by
  have hw' := hw
  obtain ⟨a, a2, a3, a4⟩ := hw'
  have key := it_ff (F := fun t => s_30_2 f (zI s) m t) (fun k => zI (k : Int)) (fun k => decide (m (f + 1) k = zI (6 * s))) (fun k => if decide (k % 8 < W ∧ k / 8 < H) = true then decide (0 < atk W H b (1 - s) (k % 8) (k / 8)) else false) false 64 (fun k hk hp => ?_) (fun k hk hp => ?_) ?_
  · unfold d_30 d_30_2
    rw [zl_0]
    refine Eq.trans key ?_
    unfold kx
    have io := ff_io hw (p := fun k => decide (m (f + 1) k = zI (6 * s))) (q := fun c => decide (b c = 1 + 6 * s)) (fun x y hx hy => by
      have b1 := hb x y hx hy
      have e : zI (b (x + W * y) - 1) = zI (6 * s) ↔ b (x + W * y) = 1 + 6 * s := by rw [zI_inj (by omega) (by omega) (by omega) (by omega)]; omega
      rw [h.on hw hx hy, decide_eq_decide]
      exact e) (fun x y hx hy hn => by
      rw [h.off hx hy hn, decide_eq_false]
      rw [zI_inj (by omega) (by omega) (by omega) (by omega)]; omega)
    rcases io with ⟨e1, e2⟩ | ⟨x, y, hx, hy, e1, e2⟩
    · rw [e1, e2, if_neg (Nat.lt_irrefl _), if_neg (Nat.lt_irrefl _)]
    · rw [e1, e2, if_pos (by omega), if_pos (cell_lt hx hy), (cell_md hx).1, (cell_md hx).2, show (x + 8 * y) % 8 = x by omega, show (x + 8 * y) / 8 = y by omega, if_pos (by rw [decide_eq_true_eq]; exact ⟨hx, hy⟩)]
  · have hp' := of_decide_eq_false hp
    simp (disch := omega) only [s_30_2, hf.1, hf.2, wbs, obs, oms, ift, ifn, not_true_eq_false, not_false_eq_true, true_and, and_true, false_and, and_false, true_or, or_true, false_or, or_false, Bool.false_eq_true, reduceCtorEq, eq_self, decide_true, decide_false, zl_0, zl_1, zl_2, zl_3, zl_4, zl_5, zl_6, zl_7, zl_8, zl_9, zl_10, zl_11, zl_12, zl_13, zl_14, zl_15, zl_16, zl_17, zl_18, zl_19, zl_20, zl_21, zl_22, zl_23, zl_24, zl_25, zl_26, zl_27, zl_28, zl_29, zl_30, zl_31, zl_32, zl_33, zl_34, zl_35, zl_36, zl_37, zl_38, zl_39, zl_40, zl_41, zl_42, zl_43, zl_44, zl_45, zl_46, zl_47, zl_48, zl_49, zl_50, zl_51, zl_52, zl_53, zl_54, zl_55, zl_56, zl_57, zl_58, zl_59, zl_60, zl_61, zl_62, zl_63, zl_64, zl_88, zl_97, zl_99, zl_120, zl_122, zl_150, zl_152, zl_200, zl_255, zl_264, zl_280, zl_304, zl_464, zl_584, zl_600, zl_837, zl_999, zl_1000, zl_4088, zl_9999, zl_99999, zI_on, zI_add, zI_sub, zI_mul, zI_neg, zI_bi, zI_ix, zI_le, zI_in, int_lt_t, int_lt_f, int_le_t, int_le_f, int_eq_t, int_eq_f, Int.toNat_natCast, Int.zero_add, hp']
    rfl
  · have hp' := of_decide_eq_true hp
    obtain ⟨x, y, hx, hy, rfl⟩ := xy_of hk
    by_cases q : x < W ∧ y < H
    · obtain ⟨k1, k2, k3⟩ := c29 hf h hw hb (s := 1 - s) (by omega) (by omega) q.1 q.2
      rw [show (x + 8 * y) % 8 = x by omega, show (x + 8 * y) / 8 = y by omega, if_pos (by rw [decide_eq_true_eq]; exact q)]
      generalize atk W H b (1 - s) x y = A at *
      by_cases q2 : A ≤ 0 <;> simp (disch := omega) only [s_30_2, d_30_23, hf.1, hf.2, wbs, obs, oms, ift, ifn, not_true_eq_false, not_false_eq_true, true_and, and_true, false_and, and_false, true_or, or_true, false_or, or_false, Bool.false_eq_true, reduceCtorEq, eq_self, decide_true, decide_false, zl_0, zl_1, zl_2, zl_3, zl_4, zl_5, zl_6, zl_7, zl_8, zl_9, zl_10, zl_11, zl_12, zl_13, zl_14, zl_15, zl_16, zl_17, zl_18, zl_19, zl_20, zl_21, zl_22, zl_23, zl_24, zl_25, zl_26, zl_27, zl_28, zl_29, zl_30, zl_31, zl_32, zl_33, zl_34, zl_35, zl_36, zl_37, zl_38, zl_39, zl_40, zl_41, zl_42, zl_43, zl_44, zl_45, zl_46, zl_47, zl_48, zl_49, zl_50, zl_51, zl_52, zl_53, zl_54, zl_55, zl_56, zl_57, zl_58, zl_59, zl_60, zl_61, zl_62, zl_63, zl_64, zl_88, zl_97, zl_99, zl_120, zl_122, zl_150, zl_152, zl_200, zl_255, zl_264, zl_280, zl_304, zl_464, zl_584, zl_600, zl_837, zl_999, zl_1000, zl_4088, zl_9999, zl_99999, zI_on, zI_add, zI_sub, zI_mul, zI_neg, zI_bi, zI_ix, zI_le, zI_in, int_lt_t, int_lt_f, int_le_t, int_le_f, int_eq_t, int_eq_f, Int.toNat_natCast, Int.zero_add, hp', k1]
    · rw [h.off hx hy q, zI_inj (by omega) (by omega) (by omega) (by omega)] at hp'
      omega
  · simp (disch := omega) only [s_30_2, wbs, obs, oms, ift, ifn, not_true_eq_false, not_false_eq_true, true_and, and_true, false_and, and_false, true_or, or_true, false_or, or_false, Bool.false_eq_true, reduceCtorEq, eq_self, decide_true, decide_false, zl_0, zl_1, zl_2, zl_3, zl_4, zl_5, zl_6, zl_7, zl_8, zl_9, zl_10, zl_11, zl_12, zl_13, zl_14, zl_15, zl_16, zl_17, zl_18, zl_19, zl_20, zl_21, zl_22, zl_23, zl_24, zl_25, zl_26, zl_27, zl_28, zl_29, zl_30, zl_31, zl_32, zl_33, zl_34, zl_35, zl_36, zl_37, zl_38, zl_39, zl_40, zl_41, zl_42, zl_43, zl_44, zl_45, zl_46, zl_47, zl_48, zl_49, zl_50, zl_51, zl_52, zl_53, zl_54, zl_55, zl_56, zl_57, zl_58, zl_59, zl_60, zl_61, zl_62, zl_63, zl_64, zl_88, zl_97, zl_99, zl_120, zl_122, zl_150, zl_152, zl_200, zl_255, zl_264, zl_280, zl_304, zl_464, zl_584, zl_600, zl_837, zl_999, zl_1000, zl_4088, zl_9999, zl_99999, zI_on, zI_add, zI_sub, zI_mul, zI_neg, zI_bi, zI_lt, zI_le, zI_inj, zI_in, zI_ix, int_lt_t, int_lt_f, int_le_t, int_le_f, int_eq_t, int_eq_f]
theorem c36 {f' : Nat} {b' : Nat → Int} (hf : fA f) (h : FR m f W H b) (hf' : fA f') (h' : FR m f' W H b') (hw : WH W H) (hb : BD W H b) (hb' : BD W H b') : d_36 f f' m = some (zI (fdi (W * H) b b')) := by
  have hw' := hw
  obtain ⟨a, a2, a3, a4⟩ := hw'
  have key := it_ff (F := fun t => s_36_2 f f' m t) (fun k => zI (k : Int)) (fun k => decide (¬ m (f + 1) k = m (f' + 1) k)) (fun k => zI ((k % 8 + W * (k / 8) : Nat) : Int)) (zI (-1)) 64 (fun k hk hp => ?_) (fun k hk hp => ?_) ?_
  · unfold d_36 d_36_2
    rw [zl_0]
    refine Eq.trans key ?_
    unfold fdi
    have io := ff_io hw (p := fun k => decide (¬ m (f + 1) k = m (f' + 1) k)) (q := fun c => decide (¬ b c = b' c)) (fun x y hx hy => by
      have b1 := hb x y hx hy
      have b2 := hb' x y hx hy
      have e : ¬ zI (b (x + W * y) - 1) = zI (b' (x + W * y) - 1) ↔ ¬ b (x + W * y) = b' (x + W * y) := by rw [zI_inj (by omega) (by omega) (by omega) (by omega)]; omega
      rw [h.on hw hx hy, h'.on hw hx hy, decide_eq_decide]
      exact e) (fun x y hx hy hn => by
      rw [h.off hx hy hn, h'.off hx hy hn, decide_eq_false (fun q => q rfl)])
    rcases io with ⟨e1, e2⟩ | ⟨x, y, hx, hy, e1, e2⟩
    · rw [e1, e2, if_neg (Nat.lt_irrefl _), if_neg (Nat.lt_irrefl _)]
    · rw [e1, e2, if_pos (by omega), if_pos (cell_lt hx hy), show (x + 8 * y) % 8 = x by omega, show (x + 8 * y) / 8 = y by omega]
  · have hp' : m (f + 1) k = m (f' + 1) k := Classical.not_not.mp (of_decide_eq_false hp)
    simp (disch := omega) only [s_36_2, hf.1, hf.2, hf'.1, hf'.2, wbs, obs, oms, ift, ifn, not_true_eq_false, not_false_eq_true, true_and, and_true, false_and, and_false, true_or, or_true, false_or, or_false, Bool.false_eq_true, reduceCtorEq, eq_self, decide_true, decide_false, zl_0, zl_1, zl_2, zl_3, zl_4, zl_5, zl_6, zl_7, zl_8, zl_9, zl_10, zl_11, zl_12, zl_13, zl_14, zl_15, zl_16, zl_17, zl_18, zl_19, zl_20, zl_21, zl_22, zl_23, zl_24, zl_25, zl_26, zl_27, zl_28, zl_29, zl_30, zl_31, zl_32, zl_33, zl_34, zl_35, zl_36, zl_37, zl_38, zl_39, zl_40, zl_41, zl_42, zl_43, zl_44, zl_45, zl_46, zl_47, zl_48, zl_49, zl_50, zl_51, zl_52, zl_53, zl_54, zl_55, zl_56, zl_57, zl_58, zl_59, zl_60, zl_61, zl_62, zl_63, zl_64, zl_88, zl_97, zl_99, zl_120, zl_122, zl_150, zl_152, zl_200, zl_255, zl_264, zl_280, zl_304, zl_464, zl_584, zl_600, zl_837, zl_999, zl_1000, zl_4088, zl_9999, zl_99999, zI_on, zI_add, zI_sub, zI_mul, zI_neg, zI_bi, zI_ix, zI_le, zI_in, int_lt_t, int_lt_f, int_le_t, int_le_f, int_eq_t, int_eq_f, Int.toNat_natCast, Int.zero_add, hp']
    rfl
  · have hp' : ¬ m (f + 1) k = m (f' + 1) k := of_decide_eq_true hp
    obtain ⟨x, y, hx, hy, rfl⟩ := xy_of hk
    rw [show (x + 8 * y) % 8 = x by omega, show (x + 8 * y) / 8 = y by omega]
    simp (disch := omega) only [s_36_2, d_36_23, hf.1, hf.2, hf'.1, hf'.2, wbs, obs, oms, ift, ifn, not_true_eq_false, not_false_eq_true, true_and, and_true, false_and, and_false, true_or, or_true, false_or, or_false, Bool.false_eq_true, reduceCtorEq, eq_self, decide_true, decide_false, zl_0, zl_1, zl_2, zl_3, zl_4, zl_5, zl_6, zl_7, zl_8, zl_9, zl_10, zl_11, zl_12, zl_13, zl_14, zl_15, zl_16, zl_17, zl_18, zl_19, zl_20, zl_21, zl_22, zl_23, zl_24, zl_25, zl_26, zl_27, zl_28, zl_29, zl_30, zl_31, zl_32, zl_33, zl_34, zl_35, zl_36, zl_37, zl_38, zl_39, zl_40, zl_41, zl_42, zl_43, zl_44, zl_45, zl_46, zl_47, zl_48, zl_49, zl_50, zl_51, zl_52, zl_53, zl_54, zl_55, zl_56, zl_57, zl_58, zl_59, zl_60, zl_61, zl_62, zl_63, zl_64, zl_88, zl_97, zl_99, zl_120, zl_122, zl_150, zl_152, zl_200, zl_255, zl_264, zl_280, zl_304, zl_464, zl_584, zl_600, zl_837, zl_999, zl_1000, zl_4088, zl_9999, zl_99999, zI_on, zI_add, zI_sub, zI_mul, zI_neg, zI_bi, zI_ix, zI_le, zI_in, int_lt_t, int_lt_f, int_le_t, int_le_f, int_eq_t, int_eq_f, Int.toNat_natCast, Int.zero_add, hp', c16 h hx hy]
  · simp (disch := omega) only [s_36_2, wbs, obs, oms, ift, ifn, not_true_eq_false, not_false_eq_true, true_and, and_true, false_and, and_false, true_or, or_true, false_or, or_false, Bool.false_eq_true, reduceCtorEq, eq_self, decide_true, decide_false, zl_0, zl_1, zl_2, zl_3, zl_4, zl_5, zl_6, zl_7, zl_8, zl_9, zl_10, zl_11, zl_12, zl_13, zl_14, zl_15, zl_16, zl_17, zl_18, zl_19, zl_20, zl_21, zl_22, zl_23, zl_24, zl_25, zl_26, zl_27, zl_28, zl_29, zl_30, zl_31, zl_32, zl_33, zl_34, zl_35, zl_36, zl_37, zl_38, zl_39, zl_40, zl_41, zl_42, zl_43, zl_44, zl_45, zl_46, zl_47, zl_48, zl_49, zl_50, zl_51, zl_52, zl_53, zl_54, zl_55, zl_56, zl_57, zl_58, zl_59, zl_60, zl_61, zl_62, zl_63, zl_64, zl_88, zl_97, zl_99, zl_120, zl_122, zl_150, zl_152, zl_200, zl_255, zl_264, zl_280, zl_304, zl_464, zl_584, zl_600, zl_837, zl_999, zl_1000, zl_4088, zl_9999, zl_99999, zI_on, zI_add, zI_sub, zI_mul, zI_neg, zI_bi, zI_lt, zI_le, zI_inj, zI_in, zI_ix, int_lt_t, int_lt_f, int_le_t, int_le_f, int_eq_t, int_eq_f]
end CP
