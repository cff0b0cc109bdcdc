/-! The class's boards. -/
def fA (f : Nat) : Prop := sh_r f 0 = f + 1 ∧ sh_n (f + 1) = 64
def FR (m : Mm) (f W H : Nat) (b : Nat → Int) : Prop := m f 1 = zI W ∧ m f 2 = zI H ∧ ∀ x y, x < 8 → y < 8 → m (f + 1) (x + 8 * y) = zI (if x < W ∧ y < H then b (x + W * y) - 1 else -1)
theorem FR.on {m : Mm} {f W H : Nat} {b : Nat → Int} (h : FR m f W H b) (hw : WH W H) {x y : Nat} (hx : x < W) (hy : y < H) : m (f + 1) (x + 8 * y) = zI (b (x + W * y) - 1) := by
  rw [h.2.2 x y (by have := hw.2.1; omega) (by have := hw.2.2.2; omega), if_pos ⟨hx, hy⟩]
theorem FR.off {m : Mm} {f W H : Nat} {b : Nat → Int} (h : FR m f W H b) {x y : Nat} (hx : x < 8) (hy : y < 8) (h2 : ¬ (x < W ∧ y < H)) : m (f + 1) (x + 8 * y) = zI (-1) := by
  rw [h.2.2 x y hx hy, if_neg h2]
theorem FR.mm {m m' : Mm} {f W H : Nat} {b : Nat → Int} (h : FR m f W H b) (h1 : m' f = m f) (h2 : m' (f + 1) = m (f + 1)) : FR m' f W H b := by
  unfold FR; rw [h1, h2]; exact h
theorem FR.bb {m : Mm} {f W H : Nat} {b b' : Nat → Int} (h : FR m f W H b) (h1 : ∀ x y, x < W → y < H → b (x + W * y) = b' (x + W * y)) : FR m f W H b' := by
  refine ⟨h.1, h.2.1, fun x y hx hy => ?_⟩
  rw [h.2.2 x y hx hy]
  by_cases q : x < W ∧ y < H
  · rw [if_pos q, if_pos q, h1 x y q.1 q.2]
  · rw [if_neg q, if_neg q]
def bq (H : Nat) (p : Int) (y : Nat) : Bool := decide (kd p = 6 ∧ (y : Int) = if sd p = 0 then (H : Int) - 1 else 0)
def av (H : Nat) (p : Int) (y : Nat) : Int := if bq H p y = true then p - 4 else p
def vl (p : Int) : Int := if kd p = 1 then 100 else if kd p = 2 then 9 else if kd p = 3 then 5 else if kd p = 4 then 3 else if kd p = 5 then 3 else if kd p = 6 then 1 else 0
def gn (W H : Nat) (b : Nat → Int) (x y X Y : Nat) : Int := vl (b (X + W * Y)) + (if bq H (b (x + W * y)) Y = true then 8 else 0)
/-- a board behind a move -/
def mb (W H : Nat) (b : Nat → Int) (x y X Y : Nat) : Nat → Int := fun c => if c = X + W * Y then av H (b (x + W * y)) Y else if c = x + W * y then 0 else b c
theorem p13 {P : Int → Prop} (h : ∀ n, n < 13 → P ((n : Nat) : Int)) {p : Int} (h1 : 0 ≤ p) (h2 : p ≤ 12) : P p := by
  have := h p.toNat (by omega)
  rwa [show ((p.toNat : Nat) : Int) = p by omega] at this
theorem p2 {P : Int → Prop} (h : ∀ n, n < 2 → P ((n : Nat) : Int)) {p : Int} (h1 : 0 ≤ p) (h2 : p ≤ 1) : P p := by
  have := h p.toNat (by omega)
  rwa [show ((p.toNat : Nat) : Int) = p by omega] at this
section CF
variable {m : Mm} {f W H : Nat} {b : Nat → Int}
theorem c13 {x y : Nat} (hx : x < 8) : d_13 (zI ((x + 8 * y : Nat) : Int)) = some (zI x) := by
  unfold d_13
  rw [zl_7, zI_and7, show (x + 8 * y) % 8 = x by omega]
theorem c14 {x y : Nat} (hx : x < 8) (hy : y < 8) : d_14 (zI ((x + 8 * y : Nat) : Int)) = some (zI y) := by
  unfold d_14
  rw [zl_3, zl_31, zI_shr3 (by omega), show (x + 8 * y) / 8 = y by omega]
theorem c15 (h : FR m f W H b) (hw : WH W H) {x y : Int} (h1 : -2147483648 ≤ x) (h2 : x ≤ 2147483647) (h3 : -2147483648 ≤ y) (h4 : y ≤ 2147483647) : d_15 f (zI x) (zI y) m = some (decide (0 ≤ x ∧ x < W ∧ 0 ≤ y ∧ y < H)) := by
  obtain ⟨a, a2, a3, a4⟩ := hw
  unfold d_15
  rw [h.1, h.2.1]
  by_cases q1 : 0 ≤ x <;> by_cases q2 : x < W <;> by_cases q3 : 0 ≤ y <;> by_cases q4 : y < H <;> first | omega | simp (disch := omega) only [wbs, obs, oms, ift, ifn, not_true_eq_false, not_false_eq_true, true_and, and_true, false_and, and_false, true_or, or_true, false_or, or_false, Bool.false_eq_true, reduceCtorEq, eq_self, decide_true, decide_false, zl_0, zl_1, zl_2, zl_3, zl_4, zl_5, zl_6, zl_7, zl_8, zl_9, zl_10, zl_11, zl_12, zl_13, zl_14, zl_15, zl_16, zl_17, zl_18, zl_19, zl_20, zl_21, zl_22, zl_23, zl_24, zl_25, zl_26, zl_27, zl_28, zl_29, zl_30, zl_31, zl_32, zl_33, zl_34, zl_35, zl_36, zl_37, zl_38, zl_39, zl_40, zl_41, zl_42, zl_43, zl_44, zl_45, zl_46, zl_47, zl_48, zl_49, zl_50, zl_51, zl_52, zl_53, zl_54, zl_55, zl_56, zl_57, zl_58, zl_59, zl_60, zl_61, zl_62, zl_63, zl_64, zl_88, zl_97, zl_99, zl_120, zl_122, zl_150, zl_152, zl_200, zl_255, zl_264, zl_280, zl_304, zl_464, zl_584, zl_600, zl_837, zl_999, zl_1000, zl_4088, zl_9999, zl_99999, zI_on, zI_add, zI_sub, zI_mul, zI_neg, zI_bi, zI_lt, zI_le, zI_inj, zI_in, zI_ix, int_lt_t, int_lt_f, int_le_t, int_le_f, int_eq_t, int_eq_f]
theorem c16 (h : FR m f W H b) {x y : Nat} (hx : x < 8) (hy : y < 8) : d_16 f (zI ((x + 8 * y : Nat) : Int)) m = some (zI ((x + W * y : Nat) : Int)) := by
  unfold d_16
  rw [h.1, zl_7, zl_3, zl_31, zI_and7, zI_shr3 (by omega), zI_mul, zI_add, show (x + 8 * y) % 8 = x by omega, show (x + 8 * y) / 8 = y by omega]
  simp only [Int.natCast_add, Int.natCast_mul]
theorem c17 (hf : fA f) {k : Nat} (hk : k < 64) : d_17 f (zI k) m = some (m (f + 1) k) := by
  unfold d_17
  rw [hf.1, hf.2]
  simp (disch := omega) only [wbs, obs, oms, ift, ifn, not_true_eq_false, not_false_eq_true, true_and, and_true, false_and, and_false, true_or, or_true, false_or, or_false, Bool.false_eq_true, reduceCtorEq, eq_self, decide_true, decide_false, zl_0, zl_1, zl_2, zl_3, zl_4, zl_5, zl_6, zl_7, zl_8, zl_9, zl_10, zl_11, zl_12, zl_13, zl_14, zl_15, zl_16, zl_17, zl_18, zl_19, zl_20, zl_21, zl_22, zl_23, zl_24, zl_25, zl_26, zl_27, zl_28, zl_29, zl_30, zl_31, zl_32, zl_33, zl_34, zl_35, zl_36, zl_37, zl_38, zl_39, zl_40, zl_41, zl_42, zl_43, zl_44, zl_45, zl_46, zl_47, zl_48, zl_49, zl_50, zl_51, zl_52, zl_53, zl_54, zl_55, zl_56, zl_57, zl_58, zl_59, zl_60, zl_61, zl_62, zl_63, zl_64, zl_88, zl_97, zl_99, zl_120, zl_122, zl_150, zl_152, zl_200, zl_255, zl_264, zl_280, zl_304, zl_464, zl_584, zl_600, zl_837, zl_999, zl_1000, zl_4088, zl_9999, zl_99999, zI_on, zI_add, zI_sub, zI_mul, zI_neg, zI_bi, zI_lt, zI_le, zI_inj, zI_in, zI_ix, int_lt_t, int_lt_f, int_le_t, int_le_f, int_eq_t, int_eq_f, Int.toNat_natCast]
theorem c19 {p s : Int} (h1 : 0 ≤ p) (h2 : p ≤ 12) (h3 : 0 ≤ s) (h4 : s ≤ 1) : d_19 (zI (p - 1)) (zI s) = some (decide (sd p = s)) := by
  revert h1 h2 h3 h4
  refine fun h1 h2 => p13 (P := fun p => 0 ≤ s → s ≤ 1 → d_19 (zI (p - 1)) (zI s) = some (decide (sd p = s))) ?_ h1 h2
  refine fun n hn h3 h4 => p2 (P := fun s => d_19 (zI ((n : Int) - 1)) (zI s) = some (decide (sd n = s))) ?_ h3 h4
  revert n
  decide +kernel
theorem c19n {s : Int} (h3 : 0 ≤ s) (h4 : s ≤ 1) : d_19 (zI (-1)) (zI s) = some false := by
  have h := c19 (p := 0) (Int.le_refl _) (by decide) h3 h4
  rw [show (0 : Int) - 1 = -1 from rfl] at h
  rw [h, decide_eq_false]
  have : sd 0 = -1 := by decide
  omega
theorem sd_k {p : Int} (h1 : 0 ≤ p) (h2 : p ≤ 12) : kd p = 6 ↔ p = 6 ∨ p = 12 := by
  unfold kd; split <;> omega
theorem c24 (h : FR m f W H b) (hw : WH W H) {p : Int} (h1 : 0 ≤ p) (h2 : p ≤ 12) {x y : Nat} (hx : x < 8) (hy : y < 8) : d_24 f (zI (p - 1)) (zI ((x + 8 * y : Nat) : Int)) m = some (bq H p y) := by
  obtain ⟨a, a2, a3, a4⟩ := hw
  unfold d_24 bq
  rw [c14 hx hy, h.2.1]
  have hk := sd_k h1 h2
  by_cases q1 : p = 6
  · subst q1
    by_cases q2 : (y : Int) = (H : Int) - 1 <;> simp (disch := omega) only [wbs, obs, oms, ift, ifn, not_true_eq_false, not_false_eq_true, true_and, and_true, false_and, and_false, true_or, or_true, false_or, or_false, Bool.false_eq_true, reduceCtorEq, eq_self, decide_true, decide_false, zl_0, zl_1, zl_2, zl_3, zl_4, zl_5, zl_6, zl_7, zl_8, zl_9, zl_10, zl_11, zl_12, zl_13, zl_14, zl_15, zl_16, zl_17, zl_18, zl_19, zl_20, zl_21, zl_22, zl_23, zl_24, zl_25, zl_26, zl_27, zl_28, zl_29, zl_30, zl_31, zl_32, zl_33, zl_34, zl_35, zl_36, zl_37, zl_38, zl_39, zl_40, zl_41, zl_42, zl_43, zl_44, zl_45, zl_46, zl_47, zl_48, zl_49, zl_50, zl_51, zl_52, zl_53, zl_54, zl_55, zl_56, zl_57, zl_58, zl_59, zl_60, zl_61, zl_62, zl_63, zl_64, zl_88, zl_97, zl_99, zl_120, zl_122, zl_150, zl_152, zl_200, zl_255, zl_264, zl_280, zl_304, zl_464, zl_584, zl_600, zl_837, zl_999, zl_1000, zl_4088, zl_9999, zl_99999, zI_on, zI_add, zI_sub, zI_mul, zI_neg, zI_bi, zI_lt, zI_le, zI_inj, zI_in, zI_ix, int_lt_t, int_lt_f, int_le_t, int_le_f, int_eq_t, int_eq_f, show kd 6 = 6 from rfl, show sd 6 = 0 from rfl]
  · by_cases q3 : p = 12
    · subst q3
      by_cases q2 : (y : Int) = 0 <;> simp (disch := omega) only [wbs, obs, oms, ift, ifn, not_true_eq_false, not_false_eq_true, true_and, and_true, false_and, and_false, true_or, or_true, false_or, or_false, Bool.false_eq_true, reduceCtorEq, eq_self, decide_true, decide_false, zl_0, zl_1, zl_2, zl_3, zl_4, zl_5, zl_6, zl_7, zl_8, zl_9, zl_10, zl_11, zl_12, zl_13, zl_14, zl_15, zl_16, zl_17, zl_18, zl_19, zl_20, zl_21, zl_22, zl_23, zl_24, zl_25, zl_26, zl_27, zl_28, zl_29, zl_30, zl_31, zl_32, zl_33, zl_34, zl_35, zl_36, zl_37, zl_38, zl_39, zl_40, zl_41, zl_42, zl_43, zl_44, zl_45, zl_46, zl_47, zl_48, zl_49, zl_50, zl_51, zl_52, zl_53, zl_54, zl_55, zl_56, zl_57, zl_58, zl_59, zl_60, zl_61, zl_62, zl_63, zl_64, zl_88, zl_97, zl_99, zl_120, zl_122, zl_150, zl_152, zl_200, zl_255, zl_264, zl_280, zl_304, zl_464, zl_584, zl_600, zl_837, zl_999, zl_1000, zl_4088, zl_9999, zl_99999, zI_on, zI_add, zI_sub, zI_mul, zI_neg, zI_bi, zI_lt, zI_le, zI_inj, zI_in, zI_ix, int_lt_t, int_lt_f, int_le_t, int_le_f, int_eq_t, int_eq_f, show kd 12 = 6 from rfl, show sd 12 = 1 from rfl]
    · have : ¬ kd p = 6 := by omega
      simp (disch := omega) only [wbs, obs, oms, ift, ifn, not_true_eq_false, not_false_eq_true, true_and, and_true, false_and, and_false, true_or, or_true, false_or, or_false, Bool.false_eq_true, reduceCtorEq, eq_self, decide_true, decide_false, zl_0, zl_1, zl_2, zl_3, zl_4, zl_5, zl_6, zl_7, zl_8, zl_9, zl_10, zl_11, zl_12, zl_13, zl_14, zl_15, zl_16, zl_17, zl_18, zl_19, zl_20, zl_21, zl_22, zl_23, zl_24, zl_25, zl_26, zl_27, zl_28, zl_29, zl_30, zl_31, zl_32, zl_33, zl_34, zl_35, zl_36, zl_37, zl_38, zl_39, zl_40, zl_41, zl_42, zl_43, zl_44, zl_45, zl_46, zl_47, zl_48, zl_49, zl_50, zl_51, zl_52, zl_53, zl_54, zl_55, zl_56, zl_57, zl_58, zl_59, zl_60, zl_61, zl_62, zl_63, zl_64, zl_88, zl_97, zl_99, zl_120, zl_122, zl_150, zl_152, zl_200, zl_255, zl_264, zl_280, zl_304, zl_464, zl_584, zl_600, zl_837, zl_999, zl_1000, zl_4088, zl_9999, zl_99999, zI_on, zI_add, zI_sub, zI_mul, zI_neg, zI_bi, zI_lt, zI_le, zI_inj, zI_in, zI_ix, int_lt_t, int_lt_f, int_le_t, int_le_f, int_eq_t, int_eq_f, this]
theorem c25 (hf : fA f) (h : FR m f W H b) (hw : WH W H) (hb : BD W H b) {x y X Y : Nat} (hx : x < W) (hy : y < H) (hX : X < W) (hY : Y < H) :
    d_25 f (zI ((x + 8 * y : Nat) : Int)) (zI ((X + 8 * Y : Nat) : Int)) m = some (zI (av H (b (x + W * y)) Y - 1)) := by
  have hb1 := hb x y hx hy
  have hw' := hw
  obtain ⟨a, a2, a3, a4⟩ := hw'
  unfold d_25 av
  rw [c17 hf (by omega), h.on hw hx hy]
  simp only [obs]
  rw [c24 h hw hb1.1 hb1.2 (by omega) (by omega)]
  by_cases q : bq H (b (x + W * y)) Y = true
  · simp only [obs, q, if_true, zl_0, zl_1, zl_2, zl_3, zl_4, zl_5, zl_6, zl_7, zl_8, zl_9, zl_10, zl_11, zl_12, zl_13, zl_14, zl_15, zl_16, zl_17, zl_18, zl_19, zl_20, zl_21, zl_22, zl_23, zl_24, zl_25, zl_26, zl_27, zl_28, zl_29, zl_30, zl_31, zl_32, zl_33, zl_34, zl_35, zl_36, zl_37, zl_38, zl_39, zl_40, zl_41, zl_42, zl_43, zl_44, zl_45, zl_46, zl_47, zl_48, zl_49, zl_50, zl_51, zl_52, zl_53, zl_54, zl_55, zl_56, zl_57, zl_58, zl_59, zl_60, zl_61, zl_62, zl_63, zl_64, zl_88, zl_97, zl_99, zl_120, zl_122, zl_150, zl_152, zl_200, zl_255, zl_264, zl_280, zl_304, zl_464, zl_584, zl_600, zl_837, zl_999, zl_1000, zl_4088, zl_9999, zl_99999, zI_on, zI_add, zI_sub, zI_mul, zI_neg, zI_bi]
    congr 2; omega
  · simp only [obs, q, if_false]
    rfl
theorem c18 (hf : fA f) {k : Nat} (hk : k < 64) {v : Int32} : d_18 f (zI k) v m = some (wr m (f + 1) k v) := by
  unfold d_18
  rw [hf.1, hf.2]
  simp (disch := omega) only [wbs, obs, oms, ift, ifn, not_true_eq_false, not_false_eq_true, true_and, and_true, false_and, and_false, true_or, or_true, false_or, or_false, Bool.false_eq_true, reduceCtorEq, eq_self, decide_true, decide_false, zl_0, zl_1, zl_2, zl_3, zl_4, zl_5, zl_6, zl_7, zl_8, zl_9, zl_10, zl_11, zl_12, zl_13, zl_14, zl_15, zl_16, zl_17, zl_18, zl_19, zl_20, zl_21, zl_22, zl_23, zl_24, zl_25, zl_26, zl_27, zl_28, zl_29, zl_30, zl_31, zl_32, zl_33, zl_34, zl_35, zl_36, zl_37, zl_38, zl_39, zl_40, zl_41, zl_42, zl_43, zl_44, zl_45, zl_46, zl_47, zl_48, zl_49, zl_50, zl_51, zl_52, zl_53, zl_54, zl_55, zl_56, zl_57, zl_58, zl_59, zl_60, zl_61, zl_62, zl_63, zl_64, zl_88, zl_97, zl_99, zl_120, zl_122, zl_150, zl_152, zl_200, zl_255, zl_264, zl_280, zl_304, zl_464, zl_584, zl_600, zl_837, zl_999, zl_1000, zl_4088, zl_9999, zl_99999, zI_on, zI_add, zI_sub, zI_mul, zI_neg, zI_bi, zI_lt, zI_le, zI_inj, zI_in, zI_ix, int_lt_t, int_lt_f, int_le_t, int_le_f, int_eq_t, int_eq_f, Int.toNat_natCast]
theorem wr_ne {m : Mm} {a c k : Nat} {x : Int32} (h : c ≠ a) : wr m a k x c = m c := by
  unfold wr wa; rw [if_neg h]
theorem wr_at {m : Mm} {a k j : Nat} {x : Int32} : wr m a k x a j = if j = k then x else m a j := by
  unfold wr wa upd; rw [if_pos rfl]
theorem wr_eq {m : Mm} {a k : Nat} {x : Int32} : wr m a k x a k = x := by rw [wr_at, if_pos rfl]
theorem wr_nk {m : Mm} {a k j : Nat} {x : Int32} (h : j ≠ k) : wr m a k x a j = m a j := by rw [wr_at, if_neg h]
theorem FR.put (h : FR m f W H b) (hw : WH W H) {X Y : Nat} (hX : X < W) (hY : Y < H) {p : Int} : FR (wr m (f + 1) (X + 8 * Y) (zI (p - 1))) f W H (fun c => if c = X + W * Y then p else b c) := by
  obtain ⟨a, a2, a3, a4⟩ := hw
  refine ⟨?_, ?_, fun x y hx hy => ?_⟩
  · rw [wr_ne (by omega)]; exact h.1
  · rw [wr_ne (by omega)]; exact h.2.1
  · rw [wr_at]
    by_cases q : x + 8 * y = X + 8 * Y
    · have e1 : x = X := by omega
      have e2 : y = Y := by omega
      subst e1; subst e2
      rw [if_pos rfl, if_pos ⟨hX, hY⟩]
      dsimp only
      rw [if_pos rfl]
    · rw [if_neg q, h.2.2 x y hx hy]
      by_cases q2 : x < W ∧ y < H
      · rw [if_pos q2, if_pos q2]
        dsimp only
        rw [if_neg]
        rw [cell_in q2.1 hX]
        omega
      · rw [if_neg q2, if_neg q2]
/-- a move carried out on a board -/
theorem c26 (hf : fA f) (h : FR m f W H b) (hw : WH W H) (hb : BD W H b) {x y X Y : Nat} (hx : x < W) (hy : y < H) (hX : X < W) (hY : Y < H) :
    An (d_26 f (zI ((x + 8 * y : Nat) : Int)) (zI ((X + 8 * Y : Nat) : Int)) m) (fun m' => FR m' f W H (mb W H b x y X Y) ∧ ∀ a, a ≠ f + 1 → m' a = m a) := by
  have hw' := hw
  obtain ⟨a, a2, a3, a4⟩ := hw'
  unfold d_26
  rw [c25 hf h hw hb hx hy hX hY]
  simp only [obs]
  rw [c18 hf (by omega)]
  simp only [obs]
  rw [c18 hf (by omega)]
  refine An.so ⟨?_, fun c hc => by rw [wr_ne hc, wr_ne hc]⟩
  have k1 := h.put hw hx hy (p := 0)
  have k2 := k1.put hw hX hY (p := av H (b (x + W * y)) Y)
  exact k2
end CF
