/-! What reaches, on the class's boards. -/
theorem ab_f (a : Int) : (0 ≤ ab a) ∧ (ab a = 0 ↔ a = 0) ∧ (ab a = a ∨ ab a = -a) := by
  unfold ab
  split <;> omega
theorem mx_f (a b : Int) : a ≤ mx a b ∧ b ≤ mx a b ∧ (mx a b = a ∨ mx a b = b) := by
  unfold mx
  split <;> omega
theorem zI_ab {a : Int} (h1 : -2147483648 < a) (h2 : a ≤ 2147483647) : jabs (zI a) = zI (ab a) := zI_abs h1 h2
theorem zI_mx {a b : Int} (h1 : -2147483648 ≤ a) (h2 : a ≤ 2147483647) (h3 : -2147483648 ≤ b) (h4 : b ≤ 2147483647) : jmax (zI a) (zI b) = zI (mx a b) := zI_max h1 h2 h3 h4
theorem sn_f (a : Int) : (sn a = -1 ∧ a < 0) ∨ (sn a = 0 ∧ a = 0) ∨ (sn a = 1 ∧ 0 < a) := by
  unfold sn
  split
  · omega
  · split <;> omega
theorem sgm {a : Int} (h1 : -8 < a) (h2 : a < 8) : d_188 (zI a) = some (zI (sn a)) := by
  have key : ∀ n : Nat, n < 15 → d_188 (zI ((n : Int) - 7)) = some (zI (sn ((n : Int) - 7))) := by decide +kernel
  have := key (a + 7).toNat (by omega)
  rwa [show (((a + 7).toNat : Nat) : Int) - 7 = a by omega] at this
section CR
variable {m : Mm} {f W H : Nat} {b : Nat → Int}
theorem FR.int (h : FR m f W H b) (hw : WH W H) {x y : Int} (h1 : 0 ≤ x) (h2 : x < W) (h3 : 0 ≤ y) (h4 : y < H) : m (f + 1) (x + 8 * y).toNat = zI (b (x + W * y).toNat - 1) := by
  obtain ⟨x', rfl⟩ := Int.eq_ofNat_of_zero_le h1
  obtain ⟨y', rfl⟩ := Int.eq_ofNat_of_zero_le h3
  have := h.on hw (x := x') (y := y') (by omega) (by omega)
  rw [show ((x' : Int) + 8 * (y' : Int)).toNat = x' + 8 * y' by omega, this]
  rw [show ((x' : Int) + (W : Int) * (y' : Int)) = ((x' + W * y' : Nat) : Int) by simp only [Int.natCast_add, Int.natCast_mul], Int.toNat_natCast]
theorem c23_lp (hf : fA f) (h : FR m f W H b) (hw : WH W H) (hb : BD W H b) {sx sy : Int} (hsx : sx = -1 ∨ sx = 0 ∨ sx = 1) (hsy : sy = -1 ∨ sy = 0 ∨ sy = 1) :
    ∀ (n : Nat) (x y N : Int), 0 ≤ x → x < W → 0 ≤ y → y < H → 0 ≤ x + ((n : Int) + 1) * sx → x + ((n : Int) + 1) * sx < W → 0 ≤ y + ((n : Int) + 1) * sy → y + ((n : Int) + 1) * sy < H → (n : Int) + 1 ≤ N → N ≤ 100 →
      d_23_6 f (zI (sx + 8 * sy)) (zI N) m (zI (x + 8 * y)) (zI (N - n)) = some (ln b (sx + W * sy) n (x + W * y)) := by
  have hw' := hw
  obtain ⟨a, a2, a3, a4⟩ := hw'
  intro n
  induction n with
  | zero =>
    intro x y N h1 h2 h3 h4 h5 h6 h7 h8 h9 h10
    unfold d_23_6
    refine it_r ?_
    simp (disch := omega) only [s_23_6, wbs, obs, oms, ift, ifn, not_true_eq_false, not_false_eq_true, true_and, and_true, false_and, and_false, true_or, or_true, false_or, or_false, Bool.false_eq_true, reduceCtorEq, eq_self, decide_true, decide_false, zl_0, zl_1, zl_2, zl_3, zl_4, zl_5, zl_6, zl_7, zl_8, zl_9, zl_10, zl_11, zl_12, zl_13, zl_14, zl_15, zl_16, zl_17, zl_18, zl_19, zl_20, zl_21, zl_22, zl_23, zl_24, zl_25, zl_26, zl_27, zl_28, zl_29, zl_30, zl_31, zl_32, zl_33, zl_34, zl_35, zl_36, zl_37, zl_38, zl_39, zl_40, zl_41, zl_42, zl_43, zl_44, zl_45, zl_46, zl_47, zl_48, zl_49, zl_50, zl_51, zl_52, zl_53, zl_54, zl_55, zl_56, zl_57, zl_58, zl_59, zl_60, zl_61, zl_62, zl_63, zl_64, zl_88, zl_97, zl_99, zl_120, zl_122, zl_150, zl_152, zl_200, zl_255, zl_264, zl_280, zl_304, zl_464, zl_584, zl_600, zl_837, zl_999, zl_1000, zl_4088, zl_9999, zl_99999, zI_on, zI_add, zI_sub, zI_mul, zI_neg, zI_bi, zI_lt, zI_le, zI_inj, zI_in, zI_ix, int_lt_t, int_lt_f, int_le_t, int_le_f, int_eq_t, int_eq_f]
    rfl
  | succ n ih =>
    intro x y N h1 h2 h3 h4 h5 h6 h7 h8 h9 h10
    have e1 : 0 ≤ x + sx ∧ x + sx < W := by rcases hsx with rfl | rfl | rfl <;> constructor <;> omega
    have e2 : 0 ≤ y + sy ∧ y + sy < H := by rcases hsy with rfl | rfl | rfl <;> constructor <;> omega
    have e3 : (x + sx) + ((n : Int) + 1) * sx = x + (((n + 1 : Nat) : Int) + 1) * sx := by rcases hsx with rfl | rfl | rfl <;> omega
    have e4 : (y + sy) + ((n : Int) + 1) * sy = y + (((n + 1 : Nat) : Int) + 1) * sy := by rcases hsy with rfl | rfl | rfl <;> omega
    have i := ih (x + sx) (y + sy) N e1.1 e1.2 e2.1 e2.2 (by rw [e3]; exact h5) (by rw [e3]; exact h6) (by rw [e4]; exact h7) (by rw [e4]; exact h8) (by omega) h10
    have e5 : x + 8 * y + (sx + 8 * sy) = (x + sx) + 8 * (y + sy) := by omega
    have e6 : x + (W : Int) * y + (sx + (W : Int) * sy) = (x + sx) + (W : Int) * (y + sy) := by rw [Int.mul_add]; omega
    have e7 := h.int hw e1.1 e1.2 e2.1 e2.2
    have e8 : 0 ≤ b ((x + sx) + (W : Int) * (y + sy)).toNat ∧ b ((x + sx) + (W : Int) * (y + sy)).toNat ≤ 12 := by
      obtain ⟨x', hx'⟩ := Int.eq_ofNat_of_zero_le e1.1
      obtain ⟨y', hy'⟩ := Int.eq_ofNat_of_zero_le e2.1
      rw [hx', hy', show ((x' : Int) + (W : Int) * (y' : Int)) = ((x' + W * y' : Nat) : Int) by simp only [Int.natCast_add, Int.natCast_mul], Int.toNat_natCast]
      exact hb x' y' (by omega) (by omega)
    unfold d_23_6 at i ⊢
    unfold ln
    rw [e6]
    generalize hB : b ((x + sx) + (W : Int) * (y + sy)).toNat = B at *
    have e9 : N - ((n + 1 : Nat) : Int) + 1 = N - n := by omega
    by_cases q : B = 0
    · rw [decide_eq_true q, Bool.true_and]
      refine it_l ?_ i
      simp (disch := omega) only [s_23_6, hf.1, hf.2, e5, wbs, obs, oms, ift, ifn, not_true_eq_false, not_false_eq_true, true_and, and_true, false_and, and_false, true_or, or_true, false_or, or_false, Bool.false_eq_true, reduceCtorEq, eq_self, decide_true, decide_false, zl_0, zl_1, zl_2, zl_3, zl_4, zl_5, zl_6, zl_7, zl_8, zl_9, zl_10, zl_11, zl_12, zl_13, zl_14, zl_15, zl_16, zl_17, zl_18, zl_19, zl_20, zl_21, zl_22, zl_23, zl_24, zl_25, zl_26, zl_27, zl_28, zl_29, zl_30, zl_31, zl_32, zl_33, zl_34, zl_35, zl_36, zl_37, zl_38, zl_39, zl_40, zl_41, zl_42, zl_43, zl_44, zl_45, zl_46, zl_47, zl_48, zl_49, zl_50, zl_51, zl_52, zl_53, zl_54, zl_55, zl_56, zl_57, zl_58, zl_59, zl_60, zl_61, zl_62, zl_63, zl_64, zl_88, zl_97, zl_99, zl_120, zl_122, zl_150, zl_152, zl_200, zl_255, zl_264, zl_280, zl_304, zl_464, zl_584, zl_600, zl_837, zl_999, zl_1000, zl_4088, zl_9999, zl_99999, zI_on, zI_add, zI_sub, zI_mul, zI_neg, zI_bi, zI_lt, zI_le, zI_inj, zI_in, zI_ix, int_lt_t, int_lt_f, int_le_t, int_le_f, int_eq_t, int_eq_f, e7, q, e9]
    · rw [decide_eq_false q, Bool.false_and]
      refine it_r ?_
      simp (disch := omega) only [s_23_6, hf.1, hf.2, e5, wbs, obs, oms, ift, ifn, not_true_eq_false, not_false_eq_true, true_and, and_true, false_and, and_false, true_or, or_true, false_or, or_false, Bool.false_eq_true, reduceCtorEq, eq_self, decide_true, decide_false, zl_0, zl_1, zl_2, zl_3, zl_4, zl_5, zl_6, zl_7, zl_8, zl_9, zl_10, zl_11, zl_12, zl_13, zl_14, zl_15, zl_16, zl_17, zl_18, zl_19, zl_20, zl_21, zl_22, zl_23, zl_24, zl_25, zl_26, zl_27, zl_28, zl_29, zl_30, zl_31, zl_32, zl_33, zl_34, zl_35, zl_36, zl_37, zl_38, zl_39, zl_40, zl_41, zl_42, zl_43, zl_44, zl_45, zl_46, zl_47, zl_48, zl_49, zl_50, zl_51, zl_52, zl_53, zl_54, zl_55, zl_56, zl_57, zl_58, zl_59, zl_60, zl_61, zl_62, zl_63, zl_64, zl_88, zl_97, zl_99, zl_120, zl_122, zl_150, zl_152, zl_200, zl_255, zl_264, zl_280, zl_304, zl_464, zl_584, zl_600, zl_837, zl_999, zl_1000, zl_4088, zl_9999, zl_99999, zI_on, zI_add, zI_sub, zI_mul, zI_neg, zI_bi, zI_lt, zI_le, zI_inj, zI_in, zI_ix, int_lt_t, int_lt_f, int_le_t, int_le_f, int_eq_t, int_eq_f, e7, q, e9]
/-- the way between two cells in a line -/
theorem line_f {x y X Y : Int} (h : (x = X ∧ ¬ y = Y) ∨ (¬ x = X ∧ y = Y) ∨ (ab (X - x) = ab (Y - y) ∧ ¬ x = X)) :
    1 ≤ mx (ab (X - x)) (ab (Y - y)) ∧ x + mx (ab (X - x)) (ab (Y - y)) * sn (X - x) = X ∧ y + mx (ab (X - x)) (ab (Y - y)) * sn (Y - y) = Y := by
  have a1 := ab_f (X - x)
  have a2 := ab_f (Y - y)
  have a3 := mx_f (ab (X - x)) (ab (Y - y))
  have a4 := sn_f (X - x)
  have a5 := sn_f (Y - y)
  generalize ab (X - x) = A at *
  generalize ab (Y - y) = B at *
  generalize mx A B = M at *
  rcases a4 with ⟨e, a4⟩ | ⟨e, a4⟩ | ⟨e, a4⟩ <;> rcases a5 with ⟨e', a5⟩ | ⟨e', a5⟩ | ⟨e', a5⟩ <;> rw [e, e'] <;> omega
theorem c23 (hf : fA f) (h : FR m f W H b) (hw : WH W H) (hb : BD W H b) {x y X Y : Nat} (hx : x < W) (hy : y < H) (hX : X < W) (hY : Y < H)
    (hl : (x = X ∧ ¬ y = Y) ∨ (¬ x = X ∧ y = Y) ∨ (ab ((X : Int) - x) = ab ((Y : Int) - y) ∧ ¬ x = X)) :
    d_23 f (zI ((x + 8 * y : Nat) : Int)) (zI (sn ((X : Int) - x) + 8 * sn ((Y : Int) - y))) (zI (mx (ab ((X : Int) - x)) (ab ((Y : Int) - y)))) m = some (opn W b x y X Y) := by
  have hw' := hw
  obtain ⟨a, a2, a3, a4⟩ := hw'
  obtain ⟨l1, l2, l3⟩ := line_f (x := x) (y := y) (X := X) (Y := Y) (by omega)
  have b1 := ab_f ((X : Int) - x)
  have b2 := ab_f ((Y : Int) - y)
  have b3 := mx_f (ab ((X : Int) - x)) (ab ((Y : Int) - y))
  have s1 := sn_f ((X : Int) - x)
  have s2 := sn_f ((Y : Int) - y)
  unfold opn
  generalize hM : mx (ab ((X : Int) - x)) (ab ((Y : Int) - y)) = M at *
  have e : ((M.toNat - 1 : Nat) : Int) + 1 = M := by omega
  have k := c23_lp hf h hw hb (sx := sn ((X : Int) - x)) (sy := sn ((Y : Int) - y)) (by omega) (by omega) (M.toNat - 1) x y M (by omega) (by omega) (by omega) (by omega) (by rw [e, l2]; omega) (by rw [e, l2]; omega) (by rw [e, l3]; omega) (by rw [e, l3]; omega) (by omega) (by omega)
  unfold d_23
  rw [zl_1, show (1 : Int) = M - ((M.toNat - 1 : Nat) : Int) by omega, show ((x + 8 * y : Nat) : Int) = (x : Int) + 8 * (y : Int) by omega, k]
  rw [show ((x + W * y : Nat) : Int) = (x : Int) + (W : Int) * (y : Int) by simp only [Int.natCast_add, Int.natCast_mul]]
theorem rc_self {p : Int} {x y : Nat} {tk : Bool} : rc W b p x y x y tk = false := by
  unfold rc
  rw [Int.sub_self, Int.sub_self]
  have e : ab 0 = 0 := rfl
  have e2 : mx 0 0 = 0 := rfl
  have e3 : ¬ (0 : Int) = (if sd p = 0 then 1 else -1) := by split <;> decide
  simp only [e, e2, e3]
  repeat' split
  all_goals simp
theorem p12 {P : Int → Prop} (h1 : P 1) (h2 : P 2) (h3 : P 3) (h4 : P 4) (h5 : P 5) (h6 : P 6) (h7 : P 7) (h8 : P 8) (h9 : P 9) (h10 : P 10) (h11 : P 11) (h12 : P 12) {p : Int} (k1 : 1 ≤ p) (k2 : p ≤ 12) : P p := by
  have : p = 1 ∨ p = 2 ∨ p = 3 ∨ p = 4 ∨ p = 5 ∨ p = 6 ∨ p = 7 ∨ p = 8 ∨ p = 9 ∨ p = 10 ∨ p = 11 ∨ p = 12 := by omega
  rcases this with rfl | rfl | rfl | rfl | rfl | rfl | rfl | rfl | rfl | rfl | rfl | rfl <;> assumption
end CR
