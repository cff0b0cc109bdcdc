/-! The reference's boards. -/
theorem m_r1 : sh_r 249 1 = 250 := by decide +kernel
theorem m_r2 : sh_r 249 2 = 251 := by decide +kernel
theorem m_r3 : sh_r 249 3 = 252 := by decide +kernel
theorem m_r4 : sh_r 249 4 = 253 := by decide +kernel
theorem m_r5 : sh_r 249 5 = 254 := by decide +kernel
theorem m_r6 : sh_r 249 6 = 255 := by decide +kernel
theorem m_r7 : sh_r 249 7 = 256 := by decide +kernel
theorem m_r10 : sh_r 249 10 = 257 := by decide +kernel
theorem m_r11 : sh_r 249 11 = 258 := by decide +kernel
theorem m_r12 : sh_r 249 12 = 259 := by decide +kernel
theorem m_r13 : sh_r 249 13 = 260 := by decide +kernel
theorem m_r14 : sh_r 249 14 = 261 := by decide +kernel
theorem m_r15 : sh_r 249 15 = 262 := by decide +kernel
theorem m_r16 : sh_r 249 16 = 263 := by decide +kernel
theorem m_r17 : sh_r 249 17 = 264 := by decide +kernel
theorem m_r29 : sh_r 249 29 = 265 := by decide +kernel
theorem n_250 : sh_n 250 = 584 := by decide +kernel
theorem n_251 : sh_n 251 = 584 := by decide +kernel
theorem n_252 : sh_n 252 = 584 := by decide +kernel
theorem n_253 : sh_n 253 = 584 := by decide +kernel
theorem n_254 : sh_n 254 = 584 := by decide +kernel
theorem n_255 : sh_n 255 = 584 := by decide +kernel
theorem n_256 : sh_n 256 = 4672 := by decide +kernel
theorem n_257 : sh_n 257 = 1024 := by decide +kernel
theorem n_258 : sh_n 258 = 1024 := by decide +kernel
theorem n_259 : sh_n 259 = 1024 := by decide +kernel
theorem n_260 : sh_n 260 = 64 := by decide +kernel
theorem n_261 : sh_n 261 = 64 := by decide +kernel
theorem n_262 : sh_n 262 = 6 := by decide +kernel
theorem n_263 : sh_n 263 = 6 := by decide +kernel
theorem n_264 : sh_n 264 = 600 := by decide +kernel
theorem n_265 : sh_n 265 = 400 := by decide +kernel
theorem n_266 : sh_n 266 = 1 := by decide +kernel
/-- the reference's row shows r, of a board of W times H -/
def MR (m : Mm) (r : Nat → Int) : Prop := ∀ k, k < 584 → m 250 k = zI (r k)
def MW (m : Mm) (r : Nat → Int) (W H : Nat) : Prop := MR m r ∧ r 0 = W ∧ r 1 = H ∧ WH W H
/-- a row with one number put -/
def rs (r : Nat → Int) (k : Nat) (v : Int) : Nat → Int := fun j => if j = k then v else r j
theorem rs_eq {r : Nat → Int} {k : Nat} {v : Int} : rs r k v k = v := if_pos rfl
theorem rs_ne {r : Nat → Int} {k j : Nat} {v : Int} (h : j ≠ k) : rs r k v j = r j := if_neg h
theorem MR.put {m : Mm} {r : Nat → Int} (h : MR m r) {k : Nat} {v : Int} : MR (wr m 250 k (zI v)) (rs r k v) := by
  intro j hj
  rw [wr_at]
  unfold rs
  split
  · rfl
  · exact h j hj
theorem MR.mm {m m' : Mm} {r : Nat → Int} (h : MR m r) (e : m' 250 = m 250) : MR m' r := fun k hk => by rw [e]; exact h k hk
section MB
variable {m : Mm} {r : Nat → Int} {W H : Nat}
theorem m_at (h : MR m r) {k : Nat} (hk : k < 584) : m 250 k = zI (r k) := h k hk
theorem m193 (h : MW m r W H) : d_193 249 m = some (zI ((W * H : Nat) : Int)) := by
  unfold d_193
  rw [m_r1, n_250]
  simp (disch := omega) only [wbs, obs, oms, ift, ifn, not_true_eq_false, not_false_eq_true, true_and, and_true, false_and, and_false, true_or, or_true, false_or, or_false, Bool.false_eq_true, reduceCtorEq, eq_self, decide_true, decide_false, zl_0, zl_1, zl_2, zl_3, zl_4, zl_5, zl_6, zl_7, zl_8, zl_9, zl_10, zl_11, zl_12, zl_13, zl_14, zl_15, zl_16, zl_17, zl_18, zl_19, zl_20, zl_21, zl_22, zl_23, zl_24, zl_25, zl_26, zl_27, zl_28, zl_29, zl_30, zl_31, zl_32, zl_33, zl_34, zl_35, zl_36, zl_37, zl_38, zl_39, zl_40, zl_41, zl_42, zl_43, zl_44, zl_45, zl_46, zl_47, zl_48, zl_49, zl_50, zl_51, zl_52, zl_53, zl_54, zl_55, zl_56, zl_57, zl_58, zl_59, zl_60, zl_61, zl_62, zl_63, zl_64, zl_88, zl_97, zl_99, zl_120, zl_122, zl_150, zl_152, zl_200, zl_255, zl_264, zl_280, zl_304, zl_464, zl_584, zl_600, zl_837, zl_999, zl_1000, zl_4088, zl_9999, zl_99999, zI_on, zI_add, zI_sub, zI_mul, zI_neg, zI_bi, zI_lt, zI_le, zI_inj, zI_in, zI_ix, int_lt_t, int_lt_f, int_le_t, int_le_f, int_eq_t, int_eq_f, h.1 0 (by decide), h.1 1 (by decide), h.2.1, h.2.2.1, Int.reduceToNat]
  rw [Int.natCast_mul]
theorem m194 {s : Int} : d_194 (zI s) = some (zI (24 + 64 * s)) := by
  unfold d_194
  simp only [zl_0, zl_1, zl_2, zl_3, zl_4, zl_5, zl_6, zl_7, zl_8, zl_9, zl_10, zl_11, zl_12, zl_13, zl_14, zl_15, zl_16, zl_17, zl_18, zl_19, zl_20, zl_21, zl_22, zl_23, zl_24, zl_25, zl_26, zl_27, zl_28, zl_29, zl_30, zl_31, zl_32, zl_33, zl_34, zl_35, zl_36, zl_37, zl_38, zl_39, zl_40, zl_41, zl_42, zl_43, zl_44, zl_45, zl_46, zl_47, zl_48, zl_49, zl_50, zl_51, zl_52, zl_53, zl_54, zl_55, zl_56, zl_57, zl_58, zl_59, zl_60, zl_61, zl_62, zl_63, zl_64, zl_88, zl_97, zl_99, zl_120, zl_122, zl_150, zl_152, zl_200, zl_255, zl_264, zl_280, zl_304, zl_464, zl_584, zl_600, zl_837, zl_999, zl_1000, zl_4088, zl_9999, zl_99999, zI_on, zI_add, zI_sub, zI_mul, zI_neg, zI_bi]
theorem m195 {s : Int} : d_195 (zI s) = some (zI (152 + 64 * s)) := by
  unfold d_195
  simp only [zl_0, zl_1, zl_2, zl_3, zl_4, zl_5, zl_6, zl_7, zl_8, zl_9, zl_10, zl_11, zl_12, zl_13, zl_14, zl_15, zl_16, zl_17, zl_18, zl_19, zl_20, zl_21, zl_22, zl_23, zl_24, zl_25, zl_26, zl_27, zl_28, zl_29, zl_30, zl_31, zl_32, zl_33, zl_34, zl_35, zl_36, zl_37, zl_38, zl_39, zl_40, zl_41, zl_42, zl_43, zl_44, zl_45, zl_46, zl_47, zl_48, zl_49, zl_50, zl_51, zl_52, zl_53, zl_54, zl_55, zl_56, zl_57, zl_58, zl_59, zl_60, zl_61, zl_62, zl_63, zl_64, zl_88, zl_97, zl_99, zl_120, zl_122, zl_150, zl_152, zl_200, zl_255, zl_264, zl_280, zl_304, zl_464, zl_584, zl_600, zl_837, zl_999, zl_1000, zl_4088, zl_9999, zl_99999, zI_on, zI_add, zI_sub, zI_mul, zI_neg, zI_bi]
theorem m198 (h : MW m r W H) {x y : Nat} (hx : x < W) (hy : y < H) : d_198 249 (zI ((x + W * y : Nat) : Int)) m = some (zI x) := by
  have hc := cell_64 h.2.2.2 hx hy
  have h4 := h.2.2.2
  obtain ⟨a, a2, a3, a4⟩ := h4
  unfold d_198
  rw [m_r1, n_250]
  have e : ((x + W * y : Nat) : Int) % (W : Int) = (x : Int) := by
    rw [← Int.natCast_emod, (cell_md hx).1]
  simp (disch := omega) only [wbs, obs, oms, ift, ifn, not_true_eq_false, not_false_eq_true, true_and, and_true, false_and, and_false, true_or, or_true, false_or, or_false, Bool.false_eq_true, reduceCtorEq, eq_self, decide_true, decide_false, zl_0, zl_1, zl_2, zl_3, zl_4, zl_5, zl_6, zl_7, zl_8, zl_9, zl_10, zl_11, zl_12, zl_13, zl_14, zl_15, zl_16, zl_17, zl_18, zl_19, zl_20, zl_21, zl_22, zl_23, zl_24, zl_25, zl_26, zl_27, zl_28, zl_29, zl_30, zl_31, zl_32, zl_33, zl_34, zl_35, zl_36, zl_37, zl_38, zl_39, zl_40, zl_41, zl_42, zl_43, zl_44, zl_45, zl_46, zl_47, zl_48, zl_49, zl_50, zl_51, zl_52, zl_53, zl_54, zl_55, zl_56, zl_57, zl_58, zl_59, zl_60, zl_61, zl_62, zl_63, zl_64, zl_88, zl_97, zl_99, zl_120, zl_122, zl_150, zl_152, zl_200, zl_255, zl_264, zl_280, zl_304, zl_464, zl_584, zl_600, zl_837, zl_999, zl_1000, zl_4088, zl_9999, zl_99999, zI_on, zI_lt, zI_le, zI_inj, zI_in, zI_ix, int_lt_t, int_lt_f, int_le_t, int_le_f, int_eq_t, int_eq_f, h.1 0 (by decide), h.2.1, Int.reduceToNat, zI_rm, e]
theorem m199 (h : MW m r W H) {x y : Nat} (hx : x < W) (hy : y < H) : d_199 249 (zI ((x + W * y : Nat) : Int)) m = some (zI y) := by
  have hc := cell_64 h.2.2.2 hx hy
  have h4 := h.2.2.2
  obtain ⟨a, a2, a3, a4⟩ := h4
  unfold d_199
  rw [m_r1, n_250]
  have e : ((x + W * y : Nat) : Int) / (W : Int) = (y : Int) := by
    rw [← Int.natCast_ediv, (cell_md hx).2]
  simp (disch := omega) only [wbs, obs, oms, ift, ifn, not_true_eq_false, not_false_eq_true, true_and, and_true, false_and, and_false, true_or, or_true, false_or, or_false, Bool.false_eq_true, reduceCtorEq, eq_self, decide_true, decide_false, zl_0, zl_1, zl_2, zl_3, zl_4, zl_5, zl_6, zl_7, zl_8, zl_9, zl_10, zl_11, zl_12, zl_13, zl_14, zl_15, zl_16, zl_17, zl_18, zl_19, zl_20, zl_21, zl_22, zl_23, zl_24, zl_25, zl_26, zl_27, zl_28, zl_29, zl_30, zl_31, zl_32, zl_33, zl_34, zl_35, zl_36, zl_37, zl_38, zl_39, zl_40, zl_41, zl_42, zl_43, zl_44, zl_45, zl_46, zl_47, zl_48, zl_49, zl_50, zl_51, zl_52, zl_53, zl_54, zl_55, zl_56, zl_57, zl_58, zl_59, zl_60, zl_61, zl_62, zl_63, zl_64, zl_88, zl_97, zl_99, zl_120, zl_122, zl_150, zl_152, zl_200, zl_255, zl_264, zl_280, zl_304, zl_464, zl_584, zl_600, zl_837, zl_999, zl_1000, zl_4088, zl_9999, zl_99999, zI_on, zI_lt, zI_le, zI_inj, zI_in, zI_ix, int_lt_t, int_lt_f, int_le_t, int_le_f, int_eq_t, int_eq_f, h.1 0 (by decide), h.2.1, Int.reduceToNat, zI_dv, e]
theorem m200 {a : Int} (h1 : -2147483648 ≤ a) (h2 : a ≤ 2147483647) : d_200 (zI a) = some (zI (sn a)) := by
  unfold d_200 sn
  rcases Int.lt_trichotomy a 0 with q | q | q <;> simp (disch := omega) only [wbs, obs, oms, ift, ifn, not_true_eq_false, not_false_eq_true, true_and, and_true, false_and, and_false, true_or, or_true, false_or, or_false, Bool.false_eq_true, reduceCtorEq, eq_self, decide_true, decide_false, zl_0, zl_1, zl_2, zl_3, zl_4, zl_5, zl_6, zl_7, zl_8, zl_9, zl_10, zl_11, zl_12, zl_13, zl_14, zl_15, zl_16, zl_17, zl_18, zl_19, zl_20, zl_21, zl_22, zl_23, zl_24, zl_25, zl_26, zl_27, zl_28, zl_29, zl_30, zl_31, zl_32, zl_33, zl_34, zl_35, zl_36, zl_37, zl_38, zl_39, zl_40, zl_41, zl_42, zl_43, zl_44, zl_45, zl_46, zl_47, zl_48, zl_49, zl_50, zl_51, zl_52, zl_53, zl_54, zl_55, zl_56, zl_57, zl_58, zl_59, zl_60, zl_61, zl_62, zl_63, zl_64, zl_88, zl_97, zl_99, zl_120, zl_122, zl_150, zl_152, zl_200, zl_255, zl_264, zl_280, zl_304, zl_464, zl_584, zl_600, zl_837, zl_999, zl_1000, zl_4088, zl_9999, zl_99999, zI_on, zI_add, zI_sub, zI_mul, zI_neg, zI_bi, zI_lt, zI_le, zI_inj, zI_in, zI_ix, int_lt_t, int_lt_f, int_le_t, int_le_f, int_eq_t, int_eq_f]
theorem m196 {p : Int} (h1 : 0 ≤ p) (h2 : p ≤ 12) : d_196 (zI p) = some (zI (sd p)) := by
  unfold d_196 sd
  by_cases q : p = 0 <;> by_cases q2 : p ≤ 6 <;> simp (disch := omega) only [wbs, obs, oms, ift, ifn, not_true_eq_false, not_false_eq_true, true_and, and_true, false_and, and_false, true_or, or_true, false_or, or_false, Bool.false_eq_true, reduceCtorEq, eq_self, decide_true, decide_false, zl_0, zl_1, zl_2, zl_3, zl_4, zl_5, zl_6, zl_7, zl_8, zl_9, zl_10, zl_11, zl_12, zl_13, zl_14, zl_15, zl_16, zl_17, zl_18, zl_19, zl_20, zl_21, zl_22, zl_23, zl_24, zl_25, zl_26, zl_27, zl_28, zl_29, zl_30, zl_31, zl_32, zl_33, zl_34, zl_35, zl_36, zl_37, zl_38, zl_39, zl_40, zl_41, zl_42, zl_43, zl_44, zl_45, zl_46, zl_47, zl_48, zl_49, zl_50, zl_51, zl_52, zl_53, zl_54, zl_55, zl_56, zl_57, zl_58, zl_59, zl_60, zl_61, zl_62, zl_63, zl_64, zl_88, zl_97, zl_99, zl_120, zl_122, zl_150, zl_152, zl_200, zl_255, zl_264, zl_280, zl_304, zl_464, zl_584, zl_600, zl_837, zl_999, zl_1000, zl_4088, zl_9999, zl_99999, zI_on, zI_add, zI_sub, zI_mul, zI_neg, zI_bi, zI_lt, zI_le, zI_inj, zI_in, zI_ix, int_lt_t, int_lt_f, int_le_t, int_le_f, int_eq_t, int_eq_f]
theorem m197 {p : Int} (h1 : 0 ≤ p) (h2 : p ≤ 12) : d_197 (zI p) = some (zI (kd p)) := by
  unfold d_197 kd
  by_cases q2 : p ≤ 6 <;> simp (disch := omega) only [wbs, obs, oms, ift, ifn, not_true_eq_false, not_false_eq_true, true_and, and_true, false_and, and_false, true_or, or_true, false_or, or_false, Bool.false_eq_true, reduceCtorEq, eq_self, decide_true, decide_false, zl_0, zl_1, zl_2, zl_3, zl_4, zl_5, zl_6, zl_7, zl_8, zl_9, zl_10, zl_11, zl_12, zl_13, zl_14, zl_15, zl_16, zl_17, zl_18, zl_19, zl_20, zl_21, zl_22, zl_23, zl_24, zl_25, zl_26, zl_27, zl_28, zl_29, zl_30, zl_31, zl_32, zl_33, zl_34, zl_35, zl_36, zl_37, zl_38, zl_39, zl_40, zl_41, zl_42, zl_43, zl_44, zl_45, zl_46, zl_47, zl_48, zl_49, zl_50, zl_51, zl_52, zl_53, zl_54, zl_55, zl_56, zl_57, zl_58, zl_59, zl_60, zl_61, zl_62, zl_63, zl_64, zl_88, zl_97, zl_99, zl_120, zl_122, zl_150, zl_152, zl_200, zl_255, zl_264, zl_280, zl_304, zl_464, zl_584, zl_600, zl_837, zl_999, zl_1000, zl_4088, zl_9999, zl_99999, zI_on, zI_add, zI_sub, zI_mul, zI_neg, zI_bi, zI_lt, zI_le, zI_inj, zI_in, zI_ix, int_lt_t, int_lt_f, int_le_t, int_le_f, int_eq_t, int_eq_f]
theorem m201_lp (h : MW m r W H) {t : Nat} (ht : t + 64 ≤ 584) (hb : BD W H (fun c => r (t + c))) {sx sy : Int} (hsx : sx = -1 ∨ sx = 0 ∨ sx = 1) (hsy : sy = -1 ∨ sy = 0 ∨ sy = 1) (hne : ¬ (sx = 0 ∧ sy = 0)) :
    ∀ (n : Nat) (x y X Y : Int), 0 ≤ x → x < W → 0 ≤ y → y < H → x + ((n : Int) + 1) * sx = X → 0 ≤ X → X < W → y + ((n : Int) + 1) * sy = Y → 0 ≤ Y → Y < H →
      d_201_44 249 (zI t) (zI (X + W * Y)) (zI (sx + W * sy)) m (zI ((x + W * y) + (sx + W * sy))) = some (ln (fun c => r (t + c)) (sx + W * sy) n (x + W * y)) := by
  have hw := h.2.2.2
  have hw' := hw
  obtain ⟨a, a2, a3, a4⟩ := hw'
  intro n
  induction n with
  | zero =>
    intro x y X Y h1 h2 h3 h4 h5 h6 h7 h8 h9 h10
    unfold d_201_44
    refine it_r ?_
    have e : x + W * y + (sx + W * sy) = X + W * Y := by
      rw [← h5, ← h8, Int.mul_add]
      simp only [Int.natCast_zero, Int.zero_add, Int.one_mul]
      omega
    simp only [s_201_44, e, if_true]
    rfl
  | succ n ih =>
    intro x y X Y h1 h2 h3 h4 h5 h6 h7 h8 h9 h10
    have e1 : 0 ≤ x + sx ∧ x + sx < W := by rcases hsx with rfl | rfl | rfl <;> constructor <;> omega
    have e2 : 0 ≤ y + sy ∧ y + sy < H := by rcases hsy with rfl | rfl | rfl <;> constructor <;> omega
    have e3 : (x + sx) + ((n : Int) + 1) * sx = x + (((n + 1 : Nat) : Int) + 1) * sx := by rcases hsx with rfl | rfl | rfl <;> omega
    have e4 : (y + sy) + ((n : Int) + 1) * sy = y + (((n + 1 : Nat) : Int) + 1) * sy := by rcases hsy with rfl | rfl | rfl <;> omega
    have i := ih (x + sx) (y + sy) X Y e1.1 e1.2 e2.1 e2.2 (by rw [e3]; exact h5) h6 h7 (by rw [e4]; exact h8) h9 h10
    have e6 : x + (W : Int) * y + (sx + (W : Int) * sy) = (x + sx) + (W : Int) * (y + sy) := by rw [Int.mul_add]; omega
    have ne : ¬ (x + sx = X ∧ y + sy = Y) := by
      rintro ⟨q1, q2⟩
      apply hne
      rcases hsx with rfl | rfl | rfl <;> rcases hsy with rfl | rfl | rfl <;> omega
    rw [e6]
    unfold ln
    rw [e6]
    obtain ⟨x', hx'⟩ := Int.eq_ofNat_of_zero_le e1.1
    obtain ⟨y', hy'⟩ := Int.eq_ofNat_of_zero_le e2.1
    obtain ⟨X', rfl⟩ := Int.eq_ofNat_of_zero_le h6
    obtain ⟨Y', rfl⟩ := Int.eq_ofNat_of_zero_le h9
    have c1 : x' < W := by omega
    have c2 : y' < H := by omega
    have c3 : X' < W := by omega
    have c4 : Y' < H := by omega
    have d1 := cell_64 hw c1 c2
    have d2 := cell_64 hw c3 c4
    have hB : 0 ≤ r (t + (x' + W * y')) ∧ r (t + (x' + W * y')) ≤ 12 := hb x' y' c1 c2
    have d3 : ¬ x' + W * y' = X' + W * Y' := by rw [cell_in c1 c3]; omega
    have g : ∀ u v : Nat, (u : Int) + (W : Int) * (v : Int) = ((u + W * v : Nat) : Int) := fun u v => by simp only [Int.natCast_add, Int.natCast_mul]
    rw [hx', hy', g, g] at i ⊢
    generalize x' + W * y' = C at *
    generalize X' + W * Y' = D at *
    have e9 : m 250 ((t : Int) + (C : Int)).toNat = zI (r (t + C)) := by
      rw [show ((t : Int) + (C : Int)).toNat = t + C by omega]; exact h.1 _ (by omega)
    unfold d_201_44 at i ⊢
    rw [Int.toNat_natCast]
    generalize hR : r (t + C) = R at *
    by_cases q : R = 0
    · rw [decide_eq_true q, Bool.true_and]
      refine it_l ?_ i
      simp (disch := omega) only [s_201_44, wbs, obs, oms, ift, ifn, not_true_eq_false, not_false_eq_true, true_and, and_true, false_and, and_false, true_or, or_true, false_or, or_false, Bool.false_eq_true, reduceCtorEq, eq_self, decide_true, decide_false, zl_0, zl_1, zl_2, zl_3, zl_4, zl_5, zl_6, zl_7, zl_8, zl_9, zl_10, zl_11, zl_12, zl_13, zl_14, zl_15, zl_16, zl_17, zl_18, zl_19, zl_20, zl_21, zl_22, zl_23, zl_24, zl_25, zl_26, zl_27, zl_28, zl_29, zl_30, zl_31, zl_32, zl_33, zl_34, zl_35, zl_36, zl_37, zl_38, zl_39, zl_40, zl_41, zl_42, zl_43, zl_44, zl_45, zl_46, zl_47, zl_48, zl_49, zl_50, zl_51, zl_52, zl_53, zl_54, zl_55, zl_56, zl_57, zl_58, zl_59, zl_60, zl_61, zl_62, zl_63, zl_64, zl_88, zl_97, zl_99, zl_120, zl_122, zl_150, zl_152, zl_200, zl_255, zl_264, zl_280, zl_304, zl_464, zl_584, zl_600, zl_837, zl_999, zl_1000, zl_4088, zl_9999, zl_99999, zI_on, zI_add, zI_sub, zI_mul, zI_neg, zI_bi, zI_lt, zI_le, zI_inj, zI_in, zI_ix, int_lt_t, int_lt_f, int_le_t, int_le_f, int_eq_t, int_eq_f, m_r1, m_r2, m_r3, m_r4, m_r5, m_r6, m_r7, m_r10, m_r11, m_r12, m_r13, m_r14, m_r15, m_r16, m_r17, m_r29, n_250, n_251, n_252, n_253, n_254, n_255, n_256, n_257, n_258, n_259, n_260, n_261, n_262, n_263, n_264, n_265, n_266, e9, q, hR]
    · rw [decide_eq_false q, Bool.false_and]
      refine it_r ?_
      simp (disch := omega) only [s_201_44, wbs, obs, oms, ift, ifn, not_true_eq_false, not_false_eq_true, true_and, and_true, false_and, and_false, true_or, or_true, false_or, or_false, Bool.false_eq_true, reduceCtorEq, eq_self, decide_true, decide_false, zl_0, zl_1, zl_2, zl_3, zl_4, zl_5, zl_6, zl_7, zl_8, zl_9, zl_10, zl_11, zl_12, zl_13, zl_14, zl_15, zl_16, zl_17, zl_18, zl_19, zl_20, zl_21, zl_22, zl_23, zl_24, zl_25, zl_26, zl_27, zl_28, zl_29, zl_30, zl_31, zl_32, zl_33, zl_34, zl_35, zl_36, zl_37, zl_38, zl_39, zl_40, zl_41, zl_42, zl_43, zl_44, zl_45, zl_46, zl_47, zl_48, zl_49, zl_50, zl_51, zl_52, zl_53, zl_54, zl_55, zl_56, zl_57, zl_58, zl_59, zl_60, zl_61, zl_62, zl_63, zl_64, zl_88, zl_97, zl_99, zl_120, zl_122, zl_150, zl_152, zl_200, zl_255, zl_264, zl_280, zl_304, zl_464, zl_584, zl_600, zl_837, zl_999, zl_1000, zl_4088, zl_9999, zl_99999, zI_on, zI_add, zI_sub, zI_mul, zI_neg, zI_bi, zI_lt, zI_le, zI_inj, zI_in, zI_ix, int_lt_t, int_lt_f, int_le_t, int_le_f, int_eq_t, int_eq_f, m_r1, m_r2, m_r3, m_r4, m_r5, m_r6, m_r7, m_r10, m_r11, m_r12, m_r13, m_r14, m_r15, m_r16, m_r17, m_r29, n_250, n_251, n_252, n_253, n_254, n_255, n_256, n_257, n_258, n_259, n_260, n_261, n_262, n_263, n_264, n_265, n_266, e9, q, hR]
end MB
