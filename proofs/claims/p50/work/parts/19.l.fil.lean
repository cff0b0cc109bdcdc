/-! The lists of moves, as both lay them. -/
theorem l_r0 : sh_r 237 0 = 238 := by decide +kernel
theorem l_r1 : sh_r 237 1 = 239 := by decide +kernel
theorem l_r2 : sh_r 237 2 = 240 := by decide +kernel
theorem l_r3 : sh_r 237 3 = 241 := by decide +kernel
theorem l_n8 : sh_n 238 = 837 := by decide +kernel
theorem l_n9 : sh_n 239 = 837 := by decide +kernel
theorem l_n40 : sh_n 240 = 837 := by decide +kernel
def gio (W : Nat) (c : Nat) : Int := ((c % W + 8 * (c / W) : Nat) : Int)
theorem gio_xy {W x y : Nat} (hx : x < W) : gio W (x + W * y) = ((x + 8 * y : Nat) : Int) := by
  unfold gio; rw [(cell_md hx).1, (cell_md hx).2]
def gid (c : Nat) : Int := (c : Int)
theorem wr_wr {m : Mm} {a k : Nat} {x y : Int32} : wr (wr m a k x) a k y = wr m a k y := by
  funext b j
  by_cases h : b = a
  · subst h
    rw [wr_at, wr_at, wr_at]
    split <;> rfl
  · rw [wr_ne h, wr_ne h, wr_ne h]
theorem wr_cm {m : Mm} {a a' k k' : Nat} {x y : Int32} (h : a ≠ a') : wr (wr m a k x) a' k' y = wr (wr m a' k' y) a k x := by
  funext b j
  by_cases h1 : b = a
  · subst h1
    rw [wr_ne h, wr_at, wr_at, wr_ne h]
  · rw [wr_ne h1]
    by_cases h2 : b = a'
    · subst h2
      rw [wr_at, wr_at, wr_ne h1]
    · rw [wr_ne h2, wr_ne h2, wr_ne h1]
def layc (W : Nat) (m : Mm) (l : List (Nat × Nat)) : Mm := wr (lay 238 239 (gio W) m l) 237 4 (zI (l.length : Nat))
theorem layc_nil {W : Nat} {m : Mm} : layc W m [] = wr m 237 4 (zI 0) := by
  unfold layc; rw [lay_nil]; rfl
theorem layc_put {W : Nat} {m : Mm} {l : List (Nat × Nat)} {c d : Nat} : wr (wr (wr (layc W m l) 238 l.length (zI (gio W c))) 239 l.length (zI (gio W d))) 237 4 (zI ((l.length + 1 : Nat) : Int)) = layc W m (l ++ [(c, d)]) := by
  unfold layc
  rw [wr_cm (a := 237) (by decide), wr_cm (a := 237) (a' := 239) (by decide), wr_wr, lay_put (by decide)]
  simp
theorem layc_sz {W : Nat} {m : Mm} {l : List (Nat × Nat)} : layc W m l 237 4 = zI (l.length : Nat) := by unfold layc; rw [wr_eq]
theorem layc_ne {W : Nat} {m : Mm} {l : List (Nat × Nat)} {a : Nat} (h : a < 237 ∨ 239 < a) : layc W m l a = m a := by
  unfold layc; rw [wr_ne (by omega), lay_ne (by omega) (by omega)]
section FL
variable {m : Mm} {f W H : Nat} {b : Nat → Int}
theorem c76 (hf : fA f) (hf2 : f + 1 < 237) (h : FR m f W H b) (hw : WH W H) (hb : BD W H b) {s : Int} (h1 : 0 ≤ s) (h2 : s ≤ 1) {x y : Nat} (hx : x < W) (hy : y < H) {l : List (Nat × Nat)} (hB : (mli W H b s (x + W * y) l).length ≤ 837) :
    d_76 237 f (zI s) (zI ((x + 8 * y : Nat) : Int)) (layc W m l) = some (layc W m (mli W H b s (x + W * y) l)) := by
  have hw' := hw
  obtain ⟨a, a2, a3, a4⟩ := hw'
  unfold d_76 d_76_3
  have hm : ∀ k (u : List (Nat × Nat)), u.length ≤ (fc W H (fun d u => if mv W b s x y (d % W) (d / W) = true then u ++ [(x + W * y, d)] else u) k u).length := fun k u => by
    unfold fc; split
    · dsimp only
      split
      · simp
      · exact Nat.le_refl _
    · exact Nat.le_refl _
  have e : mli W H b s (x + W * y) l = fo (fc W H (fun d u => if mv W b s x y (d % W) (d / W) = true then u ++ [(x + W * y, d)] else u)) 64 l := by
    rw [fo_fc hw]; unfold mli; rw [(cell_md hx).1, (cell_md hx).2]
  rw [e] at hB ⊢
  have key := it_fo (F := fun t => s_76_3 237 f (zI s) (zI ((x + 8 * y : Nat) : Int)) t.1 t.2) (mk := fun (u : List (Nat × Nat)) k => (zI (k : Int), layc W m u)) (out := fun u => layc W m u) (n := 64) (s := l) (f := fc W H (fun d u => if mv W b s x y (d % W) (d / W) = true then u ++ [(x + W * y, d)] else u))
    (fun k u => u = fo (fc W H (fun d u => if mv W b s x y (d % W) (d / W) = true then u ++ [(x + W * y, d)] else u)) k l) rfl (fun k hk u hu => ?_) (fun u _ => ?_)
  · exact key.1
  · refine ⟨?_, by rw [hu]; rfl⟩
    have hb2 : (fc W H (fun d u => if mv W b s x y (d % W) (d / W) = true then u ++ [(x + W * y, d)] else u) k u).length ≤ 837 := by
      rw [hu]; exact Nat.le_trans (fo_mono hm (l := l) (n := 64) (k := k + 1) (by omega)) hB
    have hu2 : u.length ≤ 837 := by
      rw [hu]; exact Nat.le_trans (fo_mono hm (l := l) (n := 64) (k := k) (by omega)) hB
    obtain ⟨X, Y, hX, hY, rfl⟩ := xy_of hk
    have hF : FR (layc W m u) f W H b := h.mm (layc_ne (by omega)) (layc_ne (by omega))
    have e21 := c21 hf hF hw hb h1 h2 (x := x) (y := y) (X := X) (Y := Y) (by omega) (by omega) hX hY
    have no : alw W H b s x y X Y = false → s_76_3 237 f (zI s) (zI ((x + 8 * y : Nat) : Int)) (zI ((X + 8 * Y : Nat) : Int)) (layc W m u) = some (.inl (zI ((X + 8 * Y + 1 : Nat) : Int), layc W m u)) := by
      intro ha
      rw [ha] at e21
      unfold s_76_3
      rw [layc_sz, e21]
      by_cases q : 837 ≤ u.length
      · simp (disch := omega) only [wbs, obs, oms, ift, ifn, not_true_eq_false, not_false_eq_true, true_and, and_true, false_and, and_false, true_or, or_true, false_or, or_false, Bool.false_eq_true, reduceCtorEq, eq_self, decide_true, decide_false, zl_0, zl_1, zl_2, zl_3, zl_4, zl_5, zl_6, zl_7, zl_8, zl_9, zl_10, zl_11, zl_12, zl_13, zl_14, zl_15, zl_16, zl_17, zl_18, zl_19, zl_20, zl_21, zl_22, zl_23, zl_24, zl_25, zl_26, zl_27, zl_28, zl_29, zl_30, zl_31, zl_32, zl_33, zl_34, zl_35, zl_36, zl_37, zl_38, zl_39, zl_40, zl_41, zl_42, zl_43, zl_44, zl_45, zl_46, zl_47, zl_48, zl_49, zl_50, zl_51, zl_52, zl_53, zl_54, zl_55, zl_56, zl_57, zl_58, zl_59, zl_60, zl_61, zl_62, zl_63, zl_64, zl_88, zl_97, zl_99, zl_120, zl_122, zl_150, zl_152, zl_200, zl_255, zl_264, zl_280, zl_304, zl_464, zl_584, zl_600, zl_837, zl_999, zl_1000, zl_4088, zl_9999, zl_99999, zI_on, zI_add, zI_sub, zI_mul, zI_neg, zI_bi, zI_lt, zI_le, zI_inj, zI_in, zI_ix, int_lt_t, int_lt_f, int_le_t, int_le_f, int_eq_t, int_eq_f]; rfl
      · simp (disch := omega) only [wbs, obs, oms, ift, ifn, not_true_eq_false, not_false_eq_true, true_and, and_true, false_and, and_false, true_or, or_true, false_or, or_false, Bool.false_eq_true, reduceCtorEq, eq_self, decide_true, decide_false, zl_0, zl_1, zl_2, zl_3, zl_4, zl_5, zl_6, zl_7, zl_8, zl_9, zl_10, zl_11, zl_12, zl_13, zl_14, zl_15, zl_16, zl_17, zl_18, zl_19, zl_20, zl_21, zl_22, zl_23, zl_24, zl_25, zl_26, zl_27, zl_28, zl_29, zl_30, zl_31, zl_32, zl_33, zl_34, zl_35, zl_36, zl_37, zl_38, zl_39, zl_40, zl_41, zl_42, zl_43, zl_44, zl_45, zl_46, zl_47, zl_48, zl_49, zl_50, zl_51, zl_52, zl_53, zl_54, zl_55, zl_56, zl_57, zl_58, zl_59, zl_60, zl_61, zl_62, zl_63, zl_64, zl_88, zl_97, zl_99, zl_120, zl_122, zl_150, zl_152, zl_200, zl_255, zl_264, zl_280, zl_304, zl_464, zl_584, zl_600, zl_837, zl_999, zl_1000, zl_4088, zl_9999, zl_99999, zI_on, zI_add, zI_sub, zI_mul, zI_neg, zI_bi, zI_lt, zI_le, zI_inj, zI_in, zI_ix, int_lt_t, int_lt_f, int_le_t, int_le_f, int_eq_t, int_eq_f]; rfl
    by_cases q : X < W ∧ Y < H
    · have al : alw W H b s x y X Y = mv W b s x y X Y := by unfold alw; simp only [hx, hy, q.1, q.2, and_self, decide_true, Bool.true_and]
      rw [fc_on hw q.1 q.2] at hb2 ⊢
      simp only [(cell_md q.1).1, (cell_md q.1).2] at hb2 ⊢
      cases hV : mv W b s x y X Y
      · rw [if_neg (by decide)]
        exact no (by rw [al, hV])
      · rw [hV, if_pos rfl] at hb2
        rw [if_pos rfl]
        rw [List.length_append] at hb2
        simp only [List.length_cons, List.length_nil] at hb2
        rw [al, hV] at e21
        have p := layc_put (W := W) (m := m) (l := u) (c := x + W * y) (d := X + W * Y)
        rw [gio_xy hx, gio_xy q.1] at p
        rw [← p]
        unfold s_76_3
        have s1 : (wr (layc W m u) 238 u.length (zI ((x + 8 * y : Nat) : Int))) 237 4 = zI (u.length : Nat) := by rw [wr_ne (by decide), layc_sz]
        have s2 : (wr (wr (layc W m u) 238 u.length (zI ((x + 8 * y : Nat) : Int))) 239 u.length (zI ((X + 8 * Y : Nat) : Int))) 237 4 = zI (u.length : Nat) := by rw [wr_ne (by decide), s1]
        simp (disch := omega) only [layc_sz, e21, wbs, obs, oms, ift, ifn, not_true_eq_false, not_false_eq_true, true_and, and_true, false_and, and_false, true_or, or_true, false_or, or_false, Bool.false_eq_true, reduceCtorEq, eq_self, decide_true, decide_false, zl_0, zl_1, zl_2, zl_3, zl_4, zl_5, zl_6, zl_7, zl_8, zl_9, zl_10, zl_11, zl_12, zl_13, zl_14, zl_15, zl_16, zl_17, zl_18, zl_19, zl_20, zl_21, zl_22, zl_23, zl_24, zl_25, zl_26, zl_27, zl_28, zl_29, zl_30, zl_31, zl_32, zl_33, zl_34, zl_35, zl_36, zl_37, zl_38, zl_39, zl_40, zl_41, zl_42, zl_43, zl_44, zl_45, zl_46, zl_47, zl_48, zl_49, zl_50, zl_51, zl_52, zl_53, zl_54, zl_55, zl_56, zl_57, zl_58, zl_59, zl_60, zl_61, zl_62, zl_63, zl_64, zl_88, zl_97, zl_99, zl_120, zl_122, zl_150, zl_152, zl_200, zl_255, zl_264, zl_280, zl_304, zl_464, zl_584, zl_600, zl_837, zl_999, zl_1000, zl_4088, zl_9999, zl_99999, zI_on, zI_add, zI_sub, zI_mul, zI_neg, zI_bi, zI_lt, zI_le, zI_inj, zI_in, zI_ix, int_lt_t, int_lt_f, int_le_t, int_le_f, int_eq_t, int_eq_f, l_r0, l_r1, l_n8, l_n9, Int.toNat_natCast, s1, s2]
        rfl
    · have al : alw W H b s x y X Y = false := by unfold alw; rw [decide_eq_false (by omega), Bool.false_and]
      rw [fc_off hX q]
      exact no al
  · dsimp only
    unfold s_76_3
    simp (disch := omega) only [wbs, obs, oms, ift, ifn, not_true_eq_false, not_false_eq_true, true_and, and_true, false_and, and_false, true_or, or_true, false_or, or_false, Bool.false_eq_true, reduceCtorEq, eq_self, decide_true, decide_false, zl_0, zl_1, zl_2, zl_3, zl_4, zl_5, zl_6, zl_7, zl_8, zl_9, zl_10, zl_11, zl_12, zl_13, zl_14, zl_15, zl_16, zl_17, zl_18, zl_19, zl_20, zl_21, zl_22, zl_23, zl_24, zl_25, zl_26, zl_27, zl_28, zl_29, zl_30, zl_31, zl_32, zl_33, zl_34, zl_35, zl_36, zl_37, zl_38, zl_39, zl_40, zl_41, zl_42, zl_43, zl_44, zl_45, zl_46, zl_47, zl_48, zl_49, zl_50, zl_51, zl_52, zl_53, zl_54, zl_55, zl_56, zl_57, zl_58, zl_59, zl_60, zl_61, zl_62, zl_63, zl_64, zl_88, zl_97, zl_99, zl_120, zl_122, zl_150, zl_152, zl_200, zl_255, zl_264, zl_280, zl_304, zl_464, zl_584, zl_600, zl_837, zl_999, zl_1000, zl_4088, zl_9999, zl_99999, zI_on, zI_add, zI_sub, zI_mul, zI_neg, zI_bi, zI_lt, zI_le, zI_inj, zI_in, zI_ix, int_lt_t, int_lt_f, int_le_t, int_le_f, int_eq_t, int_eq_f]
theorem c75 (hf : fA f) (hf2 : f + 1 < 237) (h : FR m f W H b) (hw : WH W H) (hb : BD W H b) {s : Int} (h1 : 0 ≤ s) (h2 : s ≤ 1) (hB : (ml W H b s).length ≤ 837) :
    d_75 237 f (zI s) m = some (layc W m (ml W H b s)) := by
  have hw' := hw
  obtain ⟨a, a2, a3, a4⟩ := hw'
  unfold d_75 d_75_7
  have hm : ∀ k (u : List (Nat × Nat)), u.length ≤ (fc W H (fun c u => mli W H b s c u) k u).length := fun k u => by
    unfold fc; split
    · exact mli_len
    · exact Nat.le_refl _
  have e : ml W H b s = fo (fc W H (fun c u => mli W H b s c u)) 64 [] := by rw [fo_fc hw]; rfl
  rw [e] at hB ⊢
  rw [wbs, zl_0, ← layc_nil (W := W)]
  have key := it_fo (F := fun t => s_75_7 237 f (zI s) t.1 t.2) (mk := fun (u : List (Nat × Nat)) k => (zI (k : Int), layc W m u)) (out := fun u => layc W m u) (n := 64) (s := []) (f := fc W H (fun c u => mli W H b s c u))
    (fun k u => u = fo (fc W H (fun c u => mli W H b s c u)) k []) rfl (fun k hk u hu => ?_) (fun u _ => ?_)
  · exact key.1
  · refine ⟨?_, by rw [hu]; rfl⟩
    have hb2 : (fc W H (fun c u => mli W H b s c u) k u).length ≤ 837 := by
      rw [hu]; exact Nat.le_trans (fo_mono hm (l := []) (n := 64) (k := k + 1) (by omega)) hB
    have hu2 : u.length ≤ 837 := by
      rw [hu]; exact Nat.le_trans (fo_mono hm (l := []) (n := 64) (k := k) (by omega)) hB
    obtain ⟨x, y, hx, hy, rfl⟩ := xy_of hk
    have hF : FR (layc W m u) f W H b := h.mm (layc_ne (by omega)) (layc_ne (by omega))
    dsimp only
    unfold s_75_7
    rw [c17 hf (by omega)]
    by_cases q : x < W ∧ y < H
    · have b1 := hb x y q.1 q.2
      rw [fc_on hw q.1 q.2] at hb2 ⊢
      rw [hF.on hw q.1 q.2]
      simp only [obs]
      rw [c19 b1.1 b1.2 h1 h2]
      by_cases q2 : sd (b (x + W * y)) = s
      · rw [decide_eq_true q2]
        simp (disch := omega) only [wbs, obs, oms, ift, ifn, not_true_eq_false, not_false_eq_true, true_and, and_true, false_and, and_false, true_or, or_true, false_or, or_false, Bool.false_eq_true, reduceCtorEq, eq_self, decide_true, decide_false, zl_0, zl_1, zl_2, zl_3, zl_4, zl_5, zl_6, zl_7, zl_8, zl_9, zl_10, zl_11, zl_12, zl_13, zl_14, zl_15, zl_16, zl_17, zl_18, zl_19, zl_20, zl_21, zl_22, zl_23, zl_24, zl_25, zl_26, zl_27, zl_28, zl_29, zl_30, zl_31, zl_32, zl_33, zl_34, zl_35, zl_36, zl_37, zl_38, zl_39, zl_40, zl_41, zl_42, zl_43, zl_44, zl_45, zl_46, zl_47, zl_48, zl_49, zl_50, zl_51, zl_52, zl_53, zl_54, zl_55, zl_56, zl_57, zl_58, zl_59, zl_60, zl_61, zl_62, zl_63, zl_64, zl_88, zl_97, zl_99, zl_120, zl_122, zl_150, zl_152, zl_200, zl_255, zl_264, zl_280, zl_304, zl_464, zl_584, zl_600, zl_837, zl_999, zl_1000, zl_4088, zl_9999, zl_99999, zI_on, zI_add, zI_sub, zI_mul, zI_neg, zI_bi, zI_lt, zI_le, zI_inj, zI_in, zI_ix, int_lt_t, int_lt_f, int_le_t, int_le_f, int_eq_t, int_eq_f, c76 hf hf2 h hw hb h1 h2 q.1 q.2 hb2]
        rfl
      · rw [decide_eq_false q2, mli_no q.1 q2]
        simp (disch := omega) only [wbs, obs, oms, ift, ifn, not_true_eq_false, not_false_eq_true, true_and, and_true, false_and, and_false, true_or, or_true, false_or, or_false, Bool.false_eq_true, reduceCtorEq, eq_self, decide_true, decide_false, zl_0, zl_1, zl_2, zl_3, zl_4, zl_5, zl_6, zl_7, zl_8, zl_9, zl_10, zl_11, zl_12, zl_13, zl_14, zl_15, zl_16, zl_17, zl_18, zl_19, zl_20, zl_21, zl_22, zl_23, zl_24, zl_25, zl_26, zl_27, zl_28, zl_29, zl_30, zl_31, zl_32, zl_33, zl_34, zl_35, zl_36, zl_37, zl_38, zl_39, zl_40, zl_41, zl_42, zl_43, zl_44, zl_45, zl_46, zl_47, zl_48, zl_49, zl_50, zl_51, zl_52, zl_53, zl_54, zl_55, zl_56, zl_57, zl_58, zl_59, zl_60, zl_61, zl_62, zl_63, zl_64, zl_88, zl_97, zl_99, zl_120, zl_122, zl_150, zl_152, zl_200, zl_255, zl_264, zl_280, zl_304, zl_464, zl_584, zl_600, zl_837, zl_999, zl_1000, zl_4088, zl_9999, zl_99999, zI_on, zI_add, zI_sub, zI_mul, zI_neg, zI_bi, zI_lt, zI_le, zI_inj, zI_in, zI_ix, int_lt_t, int_lt_f, int_le_t, int_le_f, int_eq_t, int_eq_f]
        rfl
    · rw [fc_off hx q, hF.off hx hy q]
      simp only [obs]
      rw [c19n h1 h2]
      simp (disch := omega) only [wbs, obs, oms, ift, ifn, not_true_eq_false, not_false_eq_true, true_and, and_true, false_and, and_false, true_or, or_true, false_or, or_false, Bool.false_eq_true, reduceCtorEq, eq_self, decide_true, decide_false, zl_0, zl_1, zl_2, zl_3, zl_4, zl_5, zl_6, zl_7, zl_8, zl_9, zl_10, zl_11, zl_12, zl_13, zl_14, zl_15, zl_16, zl_17, zl_18, zl_19, zl_20, zl_21, zl_22, zl_23, zl_24, zl_25, zl_26, zl_27, zl_28, zl_29, zl_30, zl_31, zl_32, zl_33, zl_34, zl_35, zl_36, zl_37, zl_38, zl_39, zl_40, zl_41, zl_42, zl_43, zl_44, zl_45, zl_46, zl_47, zl_48, zl_49, zl_50, zl_51, zl_52, zl_53, zl_54, zl_55, zl_56, zl_57, zl_58, zl_59, zl_60, zl_61, zl_62, zl_63, zl_64, zl_88, zl_97, zl_99, zl_120, zl_122, zl_150, zl_152, zl_200, zl_255, zl_264, zl_280, zl_304, zl_464, zl_584, zl_600, zl_837, zl_999, zl_1000, zl_4088, zl_9999, zl_99999, zI_on, zI_add, zI_sub, zI_mul, zI_neg, zI_bi, zI_lt, zI_le, zI_inj, zI_in, zI_ix, int_lt_t, int_lt_f, int_le_t, int_le_f, int_eq_t, int_eq_f]
      rfl
  · dsimp only
    unfold s_75_7
    simp (disch := omega) only [wbs, obs, oms, ift, ifn, not_true_eq_false, not_false_eq_true, true_and, and_true, false_and, and_false, true_or, or_true, false_or, or_false, Bool.false_eq_true, reduceCtorEq, eq_self, decide_true, decide_false, zl_0, zl_1, zl_2, zl_3, zl_4, zl_5, zl_6, zl_7, zl_8, zl_9, zl_10, zl_11, zl_12, zl_13, zl_14, zl_15, zl_16, zl_17, zl_18, zl_19, zl_20, zl_21, zl_22, zl_23, zl_24, zl_25, zl_26, zl_27, zl_28, zl_29, zl_30, zl_31, zl_32, zl_33, zl_34, zl_35, zl_36, zl_37, zl_38, zl_39, zl_40, zl_41, zl_42, zl_43, zl_44, zl_45, zl_46, zl_47, zl_48, zl_49, zl_50, zl_51, zl_52, zl_53, zl_54, zl_55, zl_56, zl_57, zl_58, zl_59, zl_60, zl_61, zl_62, zl_63, zl_64, zl_88, zl_97, zl_99, zl_120, zl_122, zl_150, zl_152, zl_200, zl_255, zl_264, zl_280, zl_304, zl_464, zl_584, zl_600, zl_837, zl_999, zl_1000, zl_4088, zl_9999, zl_99999, zI_on, zI_add, zI_sub, zI_mul, zI_neg, zI_bi, zI_lt, zI_le, zI_inj, zI_in, zI_ix, int_lt_t, int_lt_f, int_le_t, int_le_f, int_eq_t, int_eq_f]
end FL
section FM
variable {m : Mm} {r : Nat → Int} {W H : Nat}
end FM
