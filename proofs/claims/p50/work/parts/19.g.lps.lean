/-! Loops over the cells of the class's boards. -/
def fc {σ : Type} (W H : Nat) (g : Nat → σ → σ) : Nat → σ → σ := fun k s => if k % 8 < W ∧ k / 8 < H then g (k % 8 + W * (k / 8)) s else s
theorem fc_on {σ : Type} {W H : Nat} {g : Nat → σ → σ} {x y : Nat} {s : σ} (hw : WH W H) (hx : x < W) (hy : y < H) : fc W H g (x + 8 * y) s = g (x + W * y) s := by
  obtain ⟨a, a2, a3, a4⟩ := hw
  unfold fc
  rw [show (x + 8 * y) % 8 = x by omega, show (x + 8 * y) / 8 = y by omega, if_pos ⟨hx, hy⟩]
theorem fc_off {σ : Type} {W H : Nat} {g : Nat → σ → σ} {x y : Nat} {s : σ} (hx : x < 8) (hn : ¬ (x < W ∧ y < H)) : fc W H g (x + 8 * y) s = s := by
  unfold fc
  rw [show (x + 8 * y) % 8 = x by omega, show (x + 8 * y) / 8 = y by omega, if_neg hn]
theorem fo_fc {σ : Type} {W H : Nat} {g : Nat → σ → σ} {s : σ} (hw : WH W H) : fo (fc W H g) 64 s = fo g (W * H) s :=
  fo_io hw (fun _ _ hx hy _ => fc_on hw hx hy) (fun _ _ hx _ hn _ => fc_off hx hn)
theorem xy_of {k : Nat} (hk : k < 64) : ∃ x y, x < 8 ∧ y < 8 ∧ k = x + 8 * y := ⟨k % 8, k / 8, by omega, by omega, by omega⟩
/-- the sum of a board -/
def tot (n : Nat) (b : Nat → Int) : Int := fo (fun c s => s + ((c : Int) + 1) * b c) n 0
/-- the sum that a board has with a move -/
def twi (W H : Nat) (b : Nat → Int) (x y X Y : Nat) : Int := tot (W * H) b - (((x + W * y : Nat) : Int) + 1) * b (x + W * y) - (((X + W * Y : Nat) : Int) + 1) * b (X + W * Y) + (((X + W * Y : Nat) : Int) + 1) * av H (b (x + W * y)) Y
/-- the values of the pieces of a side -/
def mat (n : Nat) (b : Nat → Int) (s : Int) : Int := fo (fun c v => if sd (b c) = s then v + vl (b c) else v) n 0
/-- in how many cells two boards differ, and the first one -/
def dif (n : Nat) (b b' : Nat → Int) : Int := fo (fun c v => if b c = b' c then v else v + 1) n 0
/-- how many pieces of a side attack a cell -/
def atk (W H : Nat) (b : Nat → Int) (s : Int) (X Y : Nat) : Int := fo (fun c v => if sd (b c) = s ∧ rc W b (b c) (c % W) (c / W) X Y true = true then v + 1 else v) (W * H) 0
/-- the greatest gain of a move of a side -/
def bgi (W H : Nat) (b : Nat → Int) (s : Int) (c : Nat) (v : Int) : Int := fo (fun d v => if mv W b s (c % W) (c / W) (d % W) (d / W) = true then mx v (gn W H b (c % W) (c / W) (d % W) (d / W)) else v) (W * H) v
def bg (W H : Nat) (b : Nat → Int) (s : Int) : Int := fo (fun c v => if sd (b c) = s then bgi W H b s c v else v) (W * H) 0
def VL (m : Mm) : Prop := (∀ p : Int, 1 ≤ p → p ≤ 12 → m 0 (kd p - 1).toNat = zI (vl p)) ∧ ∀ p : Int, 0 ≤ p → p ≤ 12 → m 1 (kd p).toNat = m 1 (kd p).toNat
theorem kd_r {p : Int} (h1 : 0 ≤ p) (h2 : p ≤ 12) : 0 ≤ kd p ∧ kd p ≤ 6 ∧ (kd p = 0 ↔ p = 0) := by
  unfold kd; split <;> omega
theorem vl_r (p : Int) : 0 ≤ vl p ∧ vl p ≤ 100 := by
  unfold vl; repeat' split
  all_goals omega
theorem av_r {H : Nat} {p : Int} {y : Nat} (h1 : 0 ≤ p) (h2 : p ≤ 12) : 0 ≤ av H p y ∧ av H p y ≤ 12 := by
  unfold av
  by_cases q : bq H p y = true
  · rw [if_pos q]
    unfold bq at q
    have q1 := (of_decide_eq_true q).1
    have k := sd_k h1 h2
    omega
  · rw [if_neg q]
    exact ⟨h1, h2⟩
section CL
variable {m : Mm} {f W H : Nat} {b : Nat → Int}
theorem c32 (h : FR m f W H b) (hw : WH W H) {x y : Nat} (hx : x < 8) (hy : y < 8) {p : Int} (h1 : 0 ≤ p) (h2 : p ≤ 12) : d_32 f (zI ((x + 8 * y : Nat) : Int)) (zI (p - 1)) m = some (zI ((((x + W * y : Nat) : Int) + 1) * p)) := by
  unfold d_32
  rw [c16 h hx hy]
  by_cases q : p = 0
  · subst q
    simp (disch := omega) only [wbs, obs, oms, ift, ifn, not_true_eq_false, not_false_eq_true, true_and, and_true, false_and, and_false, true_or, or_true, false_or, or_false, Bool.false_eq_true, reduceCtorEq, eq_self, decide_true, decide_false, zl_0, zl_1, zl_2, zl_3, zl_4, zl_5, zl_6, zl_7, zl_8, zl_9, zl_10, zl_11, zl_12, zl_13, zl_14, zl_15, zl_16, zl_17, zl_18, zl_19, zl_20, zl_21, zl_22, zl_23, zl_24, zl_25, zl_26, zl_27, zl_28, zl_29, zl_30, zl_31, zl_32, zl_33, zl_34, zl_35, zl_36, zl_37, zl_38, zl_39, zl_40, zl_41, zl_42, zl_43, zl_44, zl_45, zl_46, zl_47, zl_48, zl_49, zl_50, zl_51, zl_52, zl_53, zl_54, zl_55, zl_56, zl_57, zl_58, zl_59, zl_60, zl_61, zl_62, zl_63, zl_64, zl_88, zl_97, zl_99, zl_120, zl_122, zl_150, zl_152, zl_200, zl_255, zl_264, zl_280, zl_304, zl_464, zl_584, zl_600, zl_837, zl_999, zl_1000, zl_4088, zl_9999, zl_99999, zI_on, zI_add, zI_sub, zI_mul, zI_neg, zI_bi, zI_lt, zI_le, zI_inj, zI_in, zI_ix, int_lt_t, int_lt_f, int_le_t, int_le_f, int_eq_t, int_eq_f, Int.reduceSub, Int.mul_zero]
  · simp (disch := omega) only [wbs, obs, oms, ift, ifn, not_true_eq_false, not_false_eq_true, true_and, and_true, false_and, and_false, true_or, or_true, false_or, or_false, Bool.false_eq_true, reduceCtorEq, eq_self, decide_true, decide_false, zl_0, zl_1, zl_2, zl_3, zl_4, zl_5, zl_6, zl_7, zl_8, zl_9, zl_10, zl_11, zl_12, zl_13, zl_14, zl_15, zl_16, zl_17, zl_18, zl_19, zl_20, zl_21, zl_22, zl_23, zl_24, zl_25, zl_26, zl_27, zl_28, zl_29, zl_30, zl_31, zl_32, zl_33, zl_34, zl_35, zl_36, zl_37, zl_38, zl_39, zl_40, zl_41, zl_42, zl_43, zl_44, zl_45, zl_46, zl_47, zl_48, zl_49, zl_50, zl_51, zl_52, zl_53, zl_54, zl_55, zl_56, zl_57, zl_58, zl_59, zl_60, zl_61, zl_62, zl_63, zl_64, zl_88, zl_97, zl_99, zl_120, zl_122, zl_150, zl_152, zl_200, zl_255, zl_264, zl_280, zl_304, zl_464, zl_584, zl_600, zl_837, zl_999, zl_1000, zl_4088, zl_9999, zl_99999, zI_on, zI_add, zI_sub, zI_mul, zI_neg, zI_bi, zI_lt, zI_le, zI_inj, zI_in, zI_ix, int_lt_t, int_lt_f, int_le_t, int_le_f, int_eq_t, int_eq_f, Int.sub_add_cancel]
theorem c33 (hf : fA f) (h : FR m f W H b) (hw : WH W H) (hb : BD W H b) : d_33 f m = some (zI (tot (W * H) b)) := by
  unfold d_33 d_33_4 tot
  rw [← fo_fc hw]
  refine it_ft (F := fun s => s_33_4 f m s.1 s.2) (mk := fun (s : Int) k => (zI s, zI (k : Int))) (out := zI) (n := 64) (s := 0) (fun k hk s => ?_) (fun s => ?_)
  · obtain ⟨x, y, hx, hy, rfl⟩ := xy_of hk
    by_cases q : x < W ∧ y < H
    · rw [fc_on hw q.1 q.2]
      simp (disch := omega) only [s_33_4, hf.1, hf.2, wbs, obs, oms, ift, ifn, not_true_eq_false, not_false_eq_true, true_and, and_true, false_and, and_false, true_or, or_true, false_or, or_false, Bool.false_eq_true, reduceCtorEq, eq_self, decide_true, decide_false, zl_0, zl_1, zl_2, zl_3, zl_4, zl_5, zl_6, zl_7, zl_8, zl_9, zl_10, zl_11, zl_12, zl_13, zl_14, zl_15, zl_16, zl_17, zl_18, zl_19, zl_20, zl_21, zl_22, zl_23, zl_24, zl_25, zl_26, zl_27, zl_28, zl_29, zl_30, zl_31, zl_32, zl_33, zl_34, zl_35, zl_36, zl_37, zl_38, zl_39, zl_40, zl_41, zl_42, zl_43, zl_44, zl_45, zl_46, zl_47, zl_48, zl_49, zl_50, zl_51, zl_52, zl_53, zl_54, zl_55, zl_56, zl_57, zl_58, zl_59, zl_60, zl_61, zl_62, zl_63, zl_64, zl_88, zl_97, zl_99, zl_120, zl_122, zl_150, zl_152, zl_200, zl_255, zl_264, zl_280, zl_304, zl_464, zl_584, zl_600, zl_837, zl_999, zl_1000, zl_4088, zl_9999, zl_99999, zI_on, zI_add, zI_sub, zI_mul, zI_neg, zI_bi, zI_lt, zI_le, zI_inj, zI_in, zI_ix, int_lt_t, int_lt_f, int_le_t, int_le_f, int_eq_t, int_eq_f, Int.toNat_natCast, h.on hw q.1 q.2, c32 h hw hx hy (hb x y q.1 q.2).1 (hb x y q.1 q.2).2]
      rfl
    · rw [fc_off hx q]
      have e := c32 h hw hx hy (p := 0) (by decide) (by decide)
      rw [Int.mul_zero, show (0 : Int) - 1 = -1 from rfl] at e
      simp (disch := omega) only [s_33_4, hf.1, hf.2, wbs, obs, oms, ift, ifn, not_true_eq_false, not_false_eq_true, true_and, and_true, false_and, and_false, true_or, or_true, false_or, or_false, Bool.false_eq_true, reduceCtorEq, eq_self, decide_true, decide_false, zl_0, zl_1, zl_2, zl_3, zl_4, zl_5, zl_6, zl_7, zl_8, zl_9, zl_10, zl_11, zl_12, zl_13, zl_14, zl_15, zl_16, zl_17, zl_18, zl_19, zl_20, zl_21, zl_22, zl_23, zl_24, zl_25, zl_26, zl_27, zl_28, zl_29, zl_30, zl_31, zl_32, zl_33, zl_34, zl_35, zl_36, zl_37, zl_38, zl_39, zl_40, zl_41, zl_42, zl_43, zl_44, zl_45, zl_46, zl_47, zl_48, zl_49, zl_50, zl_51, zl_52, zl_53, zl_54, zl_55, zl_56, zl_57, zl_58, zl_59, zl_60, zl_61, zl_62, zl_63, zl_64, zl_88, zl_97, zl_99, zl_120, zl_122, zl_150, zl_152, zl_200, zl_255, zl_264, zl_280, zl_304, zl_464, zl_584, zl_600, zl_837, zl_999, zl_1000, zl_4088, zl_9999, zl_99999, zI_on, zI_add, zI_sub, zI_mul, zI_neg, zI_bi, zI_lt, zI_le, zI_inj, zI_in, zI_ix, int_lt_t, int_lt_f, int_le_t, int_le_f, int_eq_t, int_eq_f, Int.toNat_natCast, h.off hx hy q, e, Int.add_zero]
      rfl
  · simp (disch := omega) only [s_33_4, wbs, obs, oms, ift, ifn, not_true_eq_false, not_false_eq_true, true_and, and_true, false_and, and_false, true_or, or_true, false_or, or_false, Bool.false_eq_true, reduceCtorEq, eq_self, decide_true, decide_false, zl_0, zl_1, zl_2, zl_3, zl_4, zl_5, zl_6, zl_7, zl_8, zl_9, zl_10, zl_11, zl_12, zl_13, zl_14, zl_15, zl_16, zl_17, zl_18, zl_19, zl_20, zl_21, zl_22, zl_23, zl_24, zl_25, zl_26, zl_27, zl_28, zl_29, zl_30, zl_31, zl_32, zl_33, zl_34, zl_35, zl_36, zl_37, zl_38, zl_39, zl_40, zl_41, zl_42, zl_43, zl_44, zl_45, zl_46, zl_47, zl_48, zl_49, zl_50, zl_51, zl_52, zl_53, zl_54, zl_55, zl_56, zl_57, zl_58, zl_59, zl_60, zl_61, zl_62, zl_63, zl_64, zl_88, zl_97, zl_99, zl_120, zl_122, zl_150, zl_152, zl_200, zl_255, zl_264, zl_280, zl_304, zl_464, zl_584, zl_600, zl_837, zl_999, zl_1000, zl_4088, zl_9999, zl_99999, zI_on, zI_add, zI_sub, zI_mul, zI_neg, zI_bi, zI_lt, zI_le, zI_inj, zI_in, zI_ix, int_lt_t, int_lt_f, int_le_t, int_le_f, int_eq_t, int_eq_f]
theorem c34 (hf : fA f) (h : FR m f W H b) (hw : WH W H) (hb : BD W H b) {x y X Y : Nat} (hx : x < W) (hy : y < H) (hX : X < W) (hY : Y < H) :
    d_34 f (zI ((x + 8 * y : Nat) : Int)) (zI ((X + 8 * Y : Nat) : Int)) m = some (zI (twi W H b x y X Y)) := by
  have hw' := hw
  obtain ⟨a, a2, a3, a4⟩ := hw'
  have b1 := hb x y hx hy
  have b2 := hb X Y hX hY
  have b3 := av_r (H := H) (y := Y) b1.1 b1.2
  unfold d_34
  rw [c33 hf h hw hb]
  simp only [obs]
  rw [c17 hf (by omega), h.on hw hx hy]
  simp only [obs]
  rw [c32 h hw (by omega) (by omega) b1.1 b1.2]
  simp only [obs]
  rw [c17 hf (by omega), h.on hw hX hY]
  simp only [obs]
  rw [c32 h hw (by omega) (by omega) b2.1 b2.2]
  simp only [obs]
  rw [c25 hf h hw hb hx hy hX hY]
  simp only [obs]
  rw [c32 h hw (by omega) (by omega) b3.1 b3.2]
  simp only [obs, zI_sub, zI_add]
  rfl
theorem c20 (hv : VL m) {p : Int} (h1 : 0 ≤ p) (h2 : p ≤ 12) : d_20 (zI (p - 1)) m = some (zI (vl p)) := by
  by_cases q : p = 0
  · subst q
    rfl
  · have k := hv.1 p (by omega) h2
    have e : (p - 1) - (p - 1) / 6 * 6 = kd p - 1 := by unfold kd; split <;> omega
    have r := kd_r h1 h2
    unfold d_20
    simp (disch := omega) only [wbs, obs, oms, zl_0, zl_1, zl_2, zl_3, zl_4, zl_5, zl_6, zl_7, zl_8, zl_9, zl_10, zl_11, zl_12, zl_13, zl_14, zl_15, zl_16, zl_17, zl_18, zl_19, zl_20, zl_21, zl_22, zl_23, zl_24, zl_25, zl_26, zl_27, zl_28, zl_29, zl_30, zl_31, zl_32, zl_33, zl_34, zl_35, zl_36, zl_37, zl_38, zl_39, zl_40, zl_41, zl_42, zl_43, zl_44, zl_45, zl_46, zl_47, zl_48, zl_49, zl_50, zl_51, zl_52, zl_53, zl_54, zl_55, zl_56, zl_57, zl_58, zl_59, zl_60, zl_61, zl_62, zl_63, zl_64, zl_88, zl_97, zl_99, zl_120, zl_122, zl_150, zl_152, zl_200, zl_255, zl_264, zl_280, zl_304, zl_464, zl_584, zl_600, zl_837, zl_999, zl_1000, zl_4088, zl_9999, zl_99999, zI_dv, zI_mul, zI_sub, e]
    simp (disch := omega) only [wbs, obs, oms, ift, ifn, not_true_eq_false, not_false_eq_true, true_and, and_true, false_and, and_false, true_or, or_true, false_or, or_false, Bool.false_eq_true, reduceCtorEq, eq_self, decide_true, decide_false, zl_0, zl_1, zl_2, zl_3, zl_4, zl_5, zl_6, zl_7, zl_8, zl_9, zl_10, zl_11, zl_12, zl_13, zl_14, zl_15, zl_16, zl_17, zl_18, zl_19, zl_20, zl_21, zl_22, zl_23, zl_24, zl_25, zl_26, zl_27, zl_28, zl_29, zl_30, zl_31, zl_32, zl_33, zl_34, zl_35, zl_36, zl_37, zl_38, zl_39, zl_40, zl_41, zl_42, zl_43, zl_44, zl_45, zl_46, zl_47, zl_48, zl_49, zl_50, zl_51, zl_52, zl_53, zl_54, zl_55, zl_56, zl_57, zl_58, zl_59, zl_60, zl_61, zl_62, zl_63, zl_64, zl_88, zl_97, zl_99, zl_120, zl_122, zl_150, zl_152, zl_200, zl_255, zl_264, zl_280, zl_304, zl_464, zl_584, zl_600, zl_837, zl_999, zl_1000, zl_4088, zl_9999, zl_99999, zI_on, zI_add, zI_sub, zI_mul, zI_neg, zI_bi, zI_lt, zI_le, zI_inj, zI_in, zI_ix, int_lt_t, int_lt_f, int_le_t, int_le_f, int_eq_t, int_eq_f, k]
theorem c27 (hv : VL m) (hf : fA f) (h : FR m f W H b) (hw : WH W H) (hb : BD W H b) {x y X Y : Nat} (hx : x < W) (hy : y < H) (hX : X < W) (hY : Y < H) :
    d_27 f (zI ((x + 8 * y : Nat) : Int)) (zI ((X + 8 * Y : Nat) : Int)) m = some (zI (gn W H b x y X Y)) := by
  have hw' := hw
  obtain ⟨a, a2, a3, a4⟩ := hw'
  have b1 := hb x y hx hy
  have b2 := hb X Y hX hY
  unfold d_27 gn
  rw [c17 hf (by omega), h.on hw hX hY]
  simp only [obs]
  rw [c20 hv b2.1 b2.2]
  simp only [obs]
  rw [c17 hf (by omega), h.on hw hx hy]
  simp only [obs]
  rw [c24 h hw b1.1 b1.2 (by omega) (by omega)]
  cases bq H (b (x + W * y)) Y <;> simp only [obs, zI_on, zI_add, zI_sub, zI_mul, zI_neg, zI_bi, zl_0, zl_1, zl_2, zl_3, zl_4, zl_5, zl_6, zl_7, zl_8, zl_9, zl_10, zl_11, zl_12, zl_13, zl_14, zl_15, zl_16, zl_17, zl_18, zl_19, zl_20, zl_21, zl_22, zl_23, zl_24, zl_25, zl_26, zl_27, zl_28, zl_29, zl_30, zl_31, zl_32, zl_33, zl_34, zl_35, zl_36, zl_37, zl_38, zl_39, zl_40, zl_41, zl_42, zl_43, zl_44, zl_45, zl_46, zl_47, zl_48, zl_49, zl_50, zl_51, zl_52, zl_53, zl_54, zl_55, zl_56, zl_57, zl_58, zl_59, zl_60, zl_61, zl_62, zl_63, zl_64, zl_88, zl_97, zl_99, zl_120, zl_122, zl_150, zl_152, zl_200, zl_255, zl_264, zl_280, zl_304, zl_464, zl_584, zl_600, zl_837, zl_999, zl_1000, zl_4088, zl_9999, zl_99999, if_true, if_false, Bool.false_eq_true]
theorem c35 {f' : Nat} {b' : Nat → Int} (hf : fA f) (h : FR m f W H b) (hf' : fA f') (h' : FR m f' W H b') (hw : WH W H) (hb : BD W H b) (hb' : BD W H b') : d_35 f f' m = some (zI (dif (W * H) b b')) := by
  unfold d_35 d_35_4 dif
  rw [← fo_fc hw]
  refine it_ft (F := fun t => s_35_4 f f' m t.1 t.2) (mk := fun (v : Int) k => (zI v, zI (k : Int))) (out := zI) (n := 64) (s := 0) (fun k hk v => ?_) (fun v => ?_)
  · obtain ⟨x, y, hx, hy, rfl⟩ := xy_of hk
    by_cases q : x < W ∧ y < H
    · have b1 := hb x y q.1 q.2
      have b2 := hb' x y q.1 q.2
      rw [fc_on hw q.1 q.2]
      by_cases e : b (x + W * y) = b' (x + W * y)
      · simp (disch := omega) only [s_35_4, hf.1, hf.2, hf'.1, hf'.2, wbs, obs, oms, ift, ifn, not_true_eq_false, not_false_eq_true, true_and, and_true, false_and, and_false, true_or, or_true, false_or, or_false, Bool.false_eq_true, reduceCtorEq, eq_self, decide_true, decide_false, zl_0, zl_1, zl_2, zl_3, zl_4, zl_5, zl_6, zl_7, zl_8, zl_9, zl_10, zl_11, zl_12, zl_13, zl_14, zl_15, zl_16, zl_17, zl_18, zl_19, zl_20, zl_21, zl_22, zl_23, zl_24, zl_25, zl_26, zl_27, zl_28, zl_29, zl_30, zl_31, zl_32, zl_33, zl_34, zl_35, zl_36, zl_37, zl_38, zl_39, zl_40, zl_41, zl_42, zl_43, zl_44, zl_45, zl_46, zl_47, zl_48, zl_49, zl_50, zl_51, zl_52, zl_53, zl_54, zl_55, zl_56, zl_57, zl_58, zl_59, zl_60, zl_61, zl_62, zl_63, zl_64, zl_88, zl_97, zl_99, zl_120, zl_122, zl_150, zl_152, zl_200, zl_255, zl_264, zl_280, zl_304, zl_464, zl_584, zl_600, zl_837, zl_999, zl_1000, zl_4088, zl_9999, zl_99999, zI_on, zI_add, zI_sub, zI_mul, zI_neg, zI_bi, zI_lt, zI_le, zI_inj, zI_in, zI_ix, int_lt_t, int_lt_f, int_le_t, int_le_f, int_eq_t, int_eq_f, Int.toNat_natCast, h.on hw q.1 q.2, h'.on hw q.1 q.2, e]
        rfl
      · simp (disch := omega) only [s_35_4, hf.1, hf.2, hf'.1, hf'.2, wbs, obs, oms, ift, ifn, not_true_eq_false, not_false_eq_true, true_and, and_true, false_and, and_false, true_or, or_true, false_or, or_false, Bool.false_eq_true, reduceCtorEq, eq_self, decide_true, decide_false, zl_0, zl_1, zl_2, zl_3, zl_4, zl_5, zl_6, zl_7, zl_8, zl_9, zl_10, zl_11, zl_12, zl_13, zl_14, zl_15, zl_16, zl_17, zl_18, zl_19, zl_20, zl_21, zl_22, zl_23, zl_24, zl_25, zl_26, zl_27, zl_28, zl_29, zl_30, zl_31, zl_32, zl_33, zl_34, zl_35, zl_36, zl_37, zl_38, zl_39, zl_40, zl_41, zl_42, zl_43, zl_44, zl_45, zl_46, zl_47, zl_48, zl_49, zl_50, zl_51, zl_52, zl_53, zl_54, zl_55, zl_56, zl_57, zl_58, zl_59, zl_60, zl_61, zl_62, zl_63, zl_64, zl_88, zl_97, zl_99, zl_120, zl_122, zl_150, zl_152, zl_200, zl_255, zl_264, zl_280, zl_304, zl_464, zl_584, zl_600, zl_837, zl_999, zl_1000, zl_4088, zl_9999, zl_99999, zI_on, zI_add, zI_sub, zI_mul, zI_neg, zI_bi, zI_lt, zI_le, zI_inj, zI_in, zI_ix, int_lt_t, int_lt_f, int_le_t, int_le_f, int_eq_t, int_eq_f, Int.toNat_natCast, h.on hw q.1 q.2, h'.on hw q.1 q.2, e]
        rfl
    · rw [fc_off hx q]
      simp (disch := omega) only [s_35_4, hf.1, hf.2, hf'.1, hf'.2, wbs, obs, oms, ift, ifn, not_true_eq_false, not_false_eq_true, true_and, and_true, false_and, and_false, true_or, or_true, false_or, or_false, Bool.false_eq_true, reduceCtorEq, eq_self, decide_true, decide_false, zl_0, zl_1, zl_2, zl_3, zl_4, zl_5, zl_6, zl_7, zl_8, zl_9, zl_10, zl_11, zl_12, zl_13, zl_14, zl_15, zl_16, zl_17, zl_18, zl_19, zl_20, zl_21, zl_22, zl_23, zl_24, zl_25, zl_26, zl_27, zl_28, zl_29, zl_30, zl_31, zl_32, zl_33, zl_34, zl_35, zl_36, zl_37, zl_38, zl_39, zl_40, zl_41, zl_42, zl_43, zl_44, zl_45, zl_46, zl_47, zl_48, zl_49, zl_50, zl_51, zl_52, zl_53, zl_54, zl_55, zl_56, zl_57, zl_58, zl_59, zl_60, zl_61, zl_62, zl_63, zl_64, zl_88, zl_97, zl_99, zl_120, zl_122, zl_150, zl_152, zl_200, zl_255, zl_264, zl_280, zl_304, zl_464, zl_584, zl_600, zl_837, zl_999, zl_1000, zl_4088, zl_9999, zl_99999, zI_on, zI_add, zI_sub, zI_mul, zI_neg, zI_bi, zI_lt, zI_le, zI_inj, zI_in, zI_ix, int_lt_t, int_lt_f, int_le_t, int_le_f, int_eq_t, int_eq_f, Int.toNat_natCast, h.off hx hy q, h'.off hx hy q]
      rfl
  · simp (disch := omega) only [s_35_4, wbs, obs, oms, ift, ifn, not_true_eq_false, not_false_eq_true, true_and, and_true, false_and, and_false, true_or, or_true, false_or, or_false, Bool.false_eq_true, reduceCtorEq, eq_self, decide_true, decide_false, zl_0, zl_1, zl_2, zl_3, zl_4, zl_5, zl_6, zl_7, zl_8, zl_9, zl_10, zl_11, zl_12, zl_13, zl_14, zl_15, zl_16, zl_17, zl_18, zl_19, zl_20, zl_21, zl_22, zl_23, zl_24, zl_25, zl_26, zl_27, zl_28, zl_29, zl_30, zl_31, zl_32, zl_33, zl_34, zl_35, zl_36, zl_37, zl_38, zl_39, zl_40, zl_41, zl_42, zl_43, zl_44, zl_45, zl_46, zl_47, zl_48, zl_49, zl_50, zl_51, zl_52, zl_53, zl_54, zl_55, zl_56, zl_57, zl_58, zl_59, zl_60, zl_61, zl_62, zl_63, zl_64, zl_88, zl_97, zl_99, zl_120, zl_122, zl_150, zl_152, zl_200, zl_255, zl_264, zl_280, zl_304, zl_464, zl_584, zl_600, zl_837, zl_999, zl_1000, zl_4088, zl_9999, zl_99999, zI_on, zI_add, zI_sub, zI_mul, zI_neg, zI_bi, zI_lt, zI_le, zI_inj, zI_in, zI_ix, int_lt_t, int_lt_f, int_le_t, int_le_f, int_eq_t, int_eq_f]
end CL
