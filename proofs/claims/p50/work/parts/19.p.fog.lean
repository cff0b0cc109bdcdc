/-! Fogs: what is hidden. -/
def hd1 (F L E : Nat → Int) (t : Int) (k : Nat) : Bool := decide (0 ≤ t - F k ∧ t - F k < L k ∧ (t - F k) % E k = 0)
def hid (n : Nat) (F L E : Nat → Int) (t : Int) : Bool := decide (ff (hd1 F L E t) n < n)
def FB (n : Nat) (F L E : Nat → Int) : Prop := n ≤ 8 ∧ ∀ k, k < n → (0 ≤ F k ∧ F k ≤ 9999) ∧ (1 ≤ L k ∧ L k ≤ 999) ∧ (1 ≤ E k ∧ E k ≤ 9)
/-- how many of some ticks are seen -/
def see (n : Nat) (F L E : Nat → Int) (t : Int) (c : Nat) : Nat := ctn (fun i => !(hid n F L E (t + i))) c
/-- from a tick on, the first one with which so many clear ones begin, so many ticks on -/
def clf (n : Nat) (F L E : Nat → Int) (t : Int) (c : Nat) : Nat := ff (fun d => decide (c ≤ see n F L E (t + d) c)) 10999
theorem ctn_all {q : Nat → Bool} : ∀ {n : Nat}, n ≤ ctn q n ↔ ∀ i, i < n → q i = true := by
  intro n
  induction n with
  | zero => exact ⟨fun _ i hi => absurd hi (Nat.not_lt_zero _), fun _ => Nat.le_refl _⟩
  | succ n ih =>
    have k := ctn_n (q := q) (n := n)
    unfold ctn at *
    rw [fo_s]
    by_cases e : q n = true
    · rw [if_pos e]
      constructor
      · intro h i hi
        by_cases e2 : i = n
        · rw [e2]; exact e
        · exact ih.mp (by omega) i (by omega)
      · intro h
        have := ih.mpr (fun i hi => h i (by omega))
        omega
    · rw [if_neg e]
      constructor
      · intro h; omega
      · intro h; exact absurd (h n (by omega)) e
theorem see_all {n : Nat} {F L E : Nat → Int} {t : Int} {c : Nat} : c ≤ see n F L E t c ↔ ∀ i, i < c → hid n F L E (t + (i : Nat)) = false := by
  unfold see
  rw [ctn_all]
  constructor
  · intro h i hi
    have := h i hi
    simpa using this
  · intro h i hi
    rw [h i hi]; rfl
theorem hid_no {n : Nat} {F L E : Nat → Int} (hB : FB n F L E) {t : Int} (h : 10998 ≤ t) : hid n F L E t = false := by
  unfold hid
  rw [decide_eq_false]
  intro q
  have k := ff_at q
  have b := hB.2 _ q
  generalize ff (hd1 F L E t) n = j at *
  unfold hd1 at k
  have k := of_decide_eq_true k
  omega
theorem see_le {n : Nat} {F L E : Nat → Int} {t : Int} {c : Nat} : see n F L E t c ≤ c := ctn_n
theorem clf_lt {n : Nat} {F L E : Nat → Int} (hB : FB n F L E) {t : Int} (ht : 0 ≤ t) {c : Nat} : clf n F L E t c < 10999 := by
  unfold clf
  have h := ff_le (fun d => decide (c ≤ see n F L E (t + (d : Nat)) c)) 10999
  rcases Nat.lt_or_ge (ff (fun d => decide (c ≤ see n F L E (t + (d : Nat)) c)) 10999) 10999 with q | q
  · exact q
  · have k := ff_lt (p := fun d => decide (c ≤ see n F L E (t + (d : Nat)) c)) (n := 10999) (k := 10998) (by omega)
    have k := of_decide_eq_false k
    exact absurd (see_all.mpr (fun i _ => hid_no hB (by omega))) k
section FG
variable {m : Mm} {φ n : Nat} {F L E : Nat → Int}
theorem c44 (ho : oA φ) (h : FV m φ n F L E) (hB : FB n F L E) {t : Int} (t1 : -100000000 ≤ t) (t2 : t ≤ 100000000) : d_44 φ (zI t) m = some (hid n F L E t) := by
  obtain ⟨a1, a2, a3, a4, a5, a6⟩ := ho
  obtain ⟨h8, hB⟩ := hB
  obtain ⟨h1, h2⟩ := h
  have key := it_ff (F := fun s => s_44_2 φ (zI t) m s) (fun k => zI (k : Nat)) (hd1 F L E t) (fun _ => true) false n (fun k hk hp => ?_) (fun k hk hp => ?_) ?_
  · unfold d_44 d_44_2
    rw [zl_0]
    refine Eq.trans key ?_
    unfold hid
    by_cases q : ff (hd1 F L E t) n < n
    · rw [if_pos q, decide_eq_true q]
    · rw [if_neg q, decide_eq_false q]
  · obtain ⟨e1, e2, e3⟩ := h2 k (by omega)
    obtain ⟨b1, b2, b3⟩ := hB k hk
    unfold hd1 at hp
    have hp := of_decide_eq_false hp
    unfold s_44_2
    by_cases q1 : 0 ≤ t - F k
    · by_cases q2 : t - F k < L k
      · have q3 : ¬ (t - F k) % E k = 0 := fun q => hp ⟨q1, q2, q⟩
        have r1 := Int.emod_nonneg (t - F k) (show E k ≠ 0 by omega)
        have r2 := Int.emod_lt_of_pos (t - F k) (show 0 < E k by omega)
        have e4 := zI_rm (a := t - F k) (b := E k) q1 (by omega) (by omega) (by omega)
        simp (disch := omega) only [h1, a1, a2, a3, a4, a5, a6, wbs, obs, oms, ift, ifn, not_true_eq_false, not_false_eq_true, true_and, and_true, false_and, and_false, true_or, or_true, false_or, or_false, Bool.false_eq_true, reduceCtorEq, eq_self, decide_true, decide_false, zl_0, zl_1, zl_2, zl_3, zl_4, zl_5, zl_6, zl_7, zl_8, zl_9, zl_10, zl_11, zl_12, zl_13, zl_14, zl_15, zl_16, zl_17, zl_18, zl_19, zl_20, zl_21, zl_22, zl_23, zl_24, zl_25, zl_26, zl_27, zl_28, zl_29, zl_30, zl_31, zl_32, zl_33, zl_34, zl_35, zl_36, zl_37, zl_38, zl_39, zl_40, zl_41, zl_42, zl_43, zl_44, zl_45, zl_46, zl_47, zl_48, zl_49, zl_50, zl_51, zl_52, zl_53, zl_54, zl_55, zl_56, zl_57, zl_58, zl_59, zl_60, zl_61, zl_62, zl_63, zl_64, zl_88, zl_97, zl_99, zl_120, zl_122, zl_150, zl_152, zl_200, zl_255, zl_264, zl_280, zl_304, zl_464, zl_584, zl_600, zl_837, zl_999, zl_1000, zl_4088, zl_9999, zl_99999, zI_on, zI_add, zI_lt, zI_le, zI_inj, zI_in, zI_ix, int_lt_t, int_lt_f, int_le_t, int_le_f, int_eq_t, int_eq_f, Int.toNat_natCast, e1, e2, e3]
        rw [zI_sub, e4]
        simp (disch := omega) only [wbs, obs, oms, ift, ifn, not_true_eq_false, not_false_eq_true, true_and, and_true, false_and, and_false, true_or, or_true, false_or, or_false, Bool.false_eq_true, reduceCtorEq, eq_self, decide_true, decide_false, zl_0, zl_1, zl_2, zl_3, zl_4, zl_5, zl_6, zl_7, zl_8, zl_9, zl_10, zl_11, zl_12, zl_13, zl_14, zl_15, zl_16, zl_17, zl_18, zl_19, zl_20, zl_21, zl_22, zl_23, zl_24, zl_25, zl_26, zl_27, zl_28, zl_29, zl_30, zl_31, zl_32, zl_33, zl_34, zl_35, zl_36, zl_37, zl_38, zl_39, zl_40, zl_41, zl_42, zl_43, zl_44, zl_45, zl_46, zl_47, zl_48, zl_49, zl_50, zl_51, zl_52, zl_53, zl_54, zl_55, zl_56, zl_57, zl_58, zl_59, zl_60, zl_61, zl_62, zl_63, zl_64, zl_88, zl_97, zl_99, zl_120, zl_122, zl_150, zl_152, zl_200, zl_255, zl_264, zl_280, zl_304, zl_464, zl_584, zl_600, zl_837, zl_999, zl_1000, zl_4088, zl_9999, zl_99999, zI_on, zI_add, zI_sub, zI_mul, zI_neg, zI_bi, zI_lt, zI_le, zI_inj, zI_in, zI_ix, int_lt_t, int_lt_f, int_le_t, int_le_f, int_eq_t, int_eq_f]
        rfl
      · simp (disch := omega) only [h1, a1, a2, a3, a4, a5, a6, wbs, obs, oms, ift, ifn, not_true_eq_false, not_false_eq_true, true_and, and_true, false_and, and_false, true_or, or_true, false_or, or_false, Bool.false_eq_true, reduceCtorEq, eq_self, decide_true, decide_false, zl_0, zl_1, zl_2, zl_3, zl_4, zl_5, zl_6, zl_7, zl_8, zl_9, zl_10, zl_11, zl_12, zl_13, zl_14, zl_15, zl_16, zl_17, zl_18, zl_19, zl_20, zl_21, zl_22, zl_23, zl_24, zl_25, zl_26, zl_27, zl_28, zl_29, zl_30, zl_31, zl_32, zl_33, zl_34, zl_35, zl_36, zl_37, zl_38, zl_39, zl_40, zl_41, zl_42, zl_43, zl_44, zl_45, zl_46, zl_47, zl_48, zl_49, zl_50, zl_51, zl_52, zl_53, zl_54, zl_55, zl_56, zl_57, zl_58, zl_59, zl_60, zl_61, zl_62, zl_63, zl_64, zl_88, zl_97, zl_99, zl_120, zl_122, zl_150, zl_152, zl_200, zl_255, zl_264, zl_280, zl_304, zl_464, zl_584, zl_600, zl_837, zl_999, zl_1000, zl_4088, zl_9999, zl_99999, zI_on, zI_add, zI_sub, zI_mul, zI_neg, zI_bi, zI_lt, zI_le, zI_inj, zI_in, zI_ix, int_lt_t, int_lt_f, int_le_t, int_le_f, int_eq_t, int_eq_f, Int.toNat_natCast, e1, e2, e3]
        rfl
    · simp (disch := omega) only [h1, a1, a2, a3, a4, a5, a6, wbs, obs, oms, ift, ifn, not_true_eq_false, not_false_eq_true, true_and, and_true, false_and, and_false, true_or, or_true, false_or, or_false, Bool.false_eq_true, reduceCtorEq, eq_self, decide_true, decide_false, zl_0, zl_1, zl_2, zl_3, zl_4, zl_5, zl_6, zl_7, zl_8, zl_9, zl_10, zl_11, zl_12, zl_13, zl_14, zl_15, zl_16, zl_17, zl_18, zl_19, zl_20, zl_21, zl_22, zl_23, zl_24, zl_25, zl_26, zl_27, zl_28, zl_29, zl_30, zl_31, zl_32, zl_33, zl_34, zl_35, zl_36, zl_37, zl_38, zl_39, zl_40, zl_41, zl_42, zl_43, zl_44, zl_45, zl_46, zl_47, zl_48, zl_49, zl_50, zl_51, zl_52, zl_53, zl_54, zl_55, zl_56, zl_57, zl_58, zl_59, zl_60, zl_61, zl_62, zl_63, zl_64, zl_88, zl_97, zl_99, zl_120, zl_122, zl_150, zl_152, zl_200, zl_255, zl_264, zl_280, zl_304, zl_464, zl_584, zl_600, zl_837, zl_999, zl_1000, zl_4088, zl_9999, zl_99999, zI_on, zI_add, zI_sub, zI_mul, zI_neg, zI_bi, zI_lt, zI_le, zI_inj, zI_in, zI_ix, int_lt_t, int_lt_f, int_le_t, int_le_f, int_eq_t, int_eq_f, Int.toNat_natCast, e1, e2, e3]
      rfl
  · obtain ⟨e1, e2, e3⟩ := h2 k (by omega)
    obtain ⟨b1, b2, b3⟩ := hB k hk
    unfold hd1 at hp
    obtain ⟨q1, q2, q3⟩ := of_decide_eq_true hp
    have e4 := zI_rm (a := t - F k) (b := E k) q1 (by omega) (by omega) (by omega)
    unfold s_44_2
    simp (disch := omega) only [h1, a1, a2, a3, a4, a5, a6, wbs, obs, oms, ift, ifn, not_true_eq_false, not_false_eq_true, true_and, and_true, false_and, and_false, true_or, or_true, false_or, or_false, Bool.false_eq_true, reduceCtorEq, eq_self, decide_true, decide_false, zl_0, zl_1, zl_2, zl_3, zl_4, zl_5, zl_6, zl_7, zl_8, zl_9, zl_10, zl_11, zl_12, zl_13, zl_14, zl_15, zl_16, zl_17, zl_18, zl_19, zl_20, zl_21, zl_22, zl_23, zl_24, zl_25, zl_26, zl_27, zl_28, zl_29, zl_30, zl_31, zl_32, zl_33, zl_34, zl_35, zl_36, zl_37, zl_38, zl_39, zl_40, zl_41, zl_42, zl_43, zl_44, zl_45, zl_46, zl_47, zl_48, zl_49, zl_50, zl_51, zl_52, zl_53, zl_54, zl_55, zl_56, zl_57, zl_58, zl_59, zl_60, zl_61, zl_62, zl_63, zl_64, zl_88, zl_97, zl_99, zl_120, zl_122, zl_150, zl_152, zl_200, zl_255, zl_264, zl_280, zl_304, zl_464, zl_584, zl_600, zl_837, zl_999, zl_1000, zl_4088, zl_9999, zl_99999, zI_on, zI_add, zI_lt, zI_le, zI_inj, zI_in, zI_ix, int_lt_t, int_lt_f, int_le_t, int_le_f, int_eq_t, int_eq_f, Int.toNat_natCast, e1, e2, e3]
    rw [zI_sub, e4, q3]
    simp (disch := omega) only [wbs, obs, oms, ift, ifn, not_true_eq_false, not_false_eq_true, true_and, and_true, false_and, and_false, true_or, or_true, false_or, or_false, Bool.false_eq_true, reduceCtorEq, eq_self, decide_true, decide_false, zl_0, zl_1, zl_2, zl_3, zl_4, zl_5, zl_6, zl_7, zl_8, zl_9, zl_10, zl_11, zl_12, zl_13, zl_14, zl_15, zl_16, zl_17, zl_18, zl_19, zl_20, zl_21, zl_22, zl_23, zl_24, zl_25, zl_26, zl_27, zl_28, zl_29, zl_30, zl_31, zl_32, zl_33, zl_34, zl_35, zl_36, zl_37, zl_38, zl_39, zl_40, zl_41, zl_42, zl_43, zl_44, zl_45, zl_46, zl_47, zl_48, zl_49, zl_50, zl_51, zl_52, zl_53, zl_54, zl_55, zl_56, zl_57, zl_58, zl_59, zl_60, zl_61, zl_62, zl_63, zl_64, zl_88, zl_97, zl_99, zl_120, zl_122, zl_150, zl_152, zl_200, zl_255, zl_264, zl_280, zl_304, zl_464, zl_584, zl_600, zl_837, zl_999, zl_1000, zl_4088, zl_9999, zl_99999, zI_on, zI_add, zI_sub, zI_mul, zI_neg, zI_bi, zI_lt, zI_le, zI_inj, zI_in, zI_ix, int_lt_t, int_lt_f, int_le_t, int_le_f, int_eq_t, int_eq_f]
  · unfold s_44_2
    simp (disch := omega) only [h1, wbs, obs, oms, ift, ifn, not_true_eq_false, not_false_eq_true, true_and, and_true, false_and, and_false, true_or, or_true, false_or, or_false, Bool.false_eq_true, reduceCtorEq, eq_self, decide_true, decide_false, zl_0, zl_1, zl_2, zl_3, zl_4, zl_5, zl_6, zl_7, zl_8, zl_9, zl_10, zl_11, zl_12, zl_13, zl_14, zl_15, zl_16, zl_17, zl_18, zl_19, zl_20, zl_21, zl_22, zl_23, zl_24, zl_25, zl_26, zl_27, zl_28, zl_29, zl_30, zl_31, zl_32, zl_33, zl_34, zl_35, zl_36, zl_37, zl_38, zl_39, zl_40, zl_41, zl_42, zl_43, zl_44, zl_45, zl_46, zl_47, zl_48, zl_49, zl_50, zl_51, zl_52, zl_53, zl_54, zl_55, zl_56, zl_57, zl_58, zl_59, zl_60, zl_61, zl_62, zl_63, zl_64, zl_88, zl_97, zl_99, zl_120, zl_122, zl_150, zl_152, zl_200, zl_255, zl_264, zl_280, zl_304, zl_464, zl_584, zl_600, zl_837, zl_999, zl_1000, zl_4088, zl_9999, zl_99999, zI_on, zI_add, zI_sub, zI_mul, zI_neg, zI_bi, zI_lt, zI_le, zI_inj, zI_in, zI_ix, int_lt_t, int_lt_f, int_le_t, int_le_f, int_eq_t, int_eq_f]
theorem c45 (ho : oA φ) (h : FV m φ n F L E) (hB : FB n F L E) {t : Int} (t1 : -10000000 ≤ t) (t2 : t ≤ 10000000) {c : Nat} (hc : c ≤ 10000000) : d_45 φ (zI t) (zI (c : Nat)) m = some (zI (see n F L E t c : Nat)) := by
  unfold d_45 d_45_5 see
  refine it_ft (F := fun s => s_45_5 φ (zI t) (zI (c : Nat)) m s.1 s.2) (mk := fun (v : Nat) k => (zI (v : Nat), zI (k : Nat))) (out := fun v => zI (v : Nat)) (n := c) (s := 0) (f := fun i v => if (!(hid n F L E (t + (i : Nat)))) = true then v + 1 else v) (fun k hk v => ?_) (fun v => ?_)
  · have e := c44 ho h hB (t := t + (k : Nat)) (by omega) (by omega)
    dsimp only
    unfold s_45_5
    cases hH : hid n F L E (t + (k : Nat)) <;> rw [hH] at e
    · simp (disch := omega) only [wbs, obs, oms, ift, ifn, not_true_eq_false, not_false_eq_true, true_and, and_true, false_and, and_false, true_or, or_true, false_or, or_false, Bool.false_eq_true, reduceCtorEq, eq_self, decide_true, decide_false, zl_0, zl_1, zl_2, zl_3, zl_4, zl_5, zl_6, zl_7, zl_8, zl_9, zl_10, zl_11, zl_12, zl_13, zl_14, zl_15, zl_16, zl_17, zl_18, zl_19, zl_20, zl_21, zl_22, zl_23, zl_24, zl_25, zl_26, zl_27, zl_28, zl_29, zl_30, zl_31, zl_32, zl_33, zl_34, zl_35, zl_36, zl_37, zl_38, zl_39, zl_40, zl_41, zl_42, zl_43, zl_44, zl_45, zl_46, zl_47, zl_48, zl_49, zl_50, zl_51, zl_52, zl_53, zl_54, zl_55, zl_56, zl_57, zl_58, zl_59, zl_60, zl_61, zl_62, zl_63, zl_64, zl_88, zl_97, zl_99, zl_120, zl_122, zl_150, zl_152, zl_200, zl_255, zl_264, zl_280, zl_304, zl_464, zl_584, zl_600, zl_837, zl_999, zl_1000, zl_4088, zl_9999, zl_99999, zI_on, zI_add, zI_sub, zI_mul, zI_neg, zI_bi, zI_lt, zI_le, zI_inj, zI_in, zI_ix, int_lt_t, int_lt_f, int_le_t, int_le_f, int_eq_t, int_eq_f, e, Bool.not_false]
      rfl
    · simp (disch := omega) only [wbs, obs, oms, ift, ifn, not_true_eq_false, not_false_eq_true, true_and, and_true, false_and, and_false, true_or, or_true, false_or, or_false, Bool.false_eq_true, reduceCtorEq, eq_self, decide_true, decide_false, zl_0, zl_1, zl_2, zl_3, zl_4, zl_5, zl_6, zl_7, zl_8, zl_9, zl_10, zl_11, zl_12, zl_13, zl_14, zl_15, zl_16, zl_17, zl_18, zl_19, zl_20, zl_21, zl_22, zl_23, zl_24, zl_25, zl_26, zl_27, zl_28, zl_29, zl_30, zl_31, zl_32, zl_33, zl_34, zl_35, zl_36, zl_37, zl_38, zl_39, zl_40, zl_41, zl_42, zl_43, zl_44, zl_45, zl_46, zl_47, zl_48, zl_49, zl_50, zl_51, zl_52, zl_53, zl_54, zl_55, zl_56, zl_57, zl_58, zl_59, zl_60, zl_61, zl_62, zl_63, zl_64, zl_88, zl_97, zl_99, zl_120, zl_122, zl_150, zl_152, zl_200, zl_255, zl_264, zl_280, zl_304, zl_464, zl_584, zl_600, zl_837, zl_999, zl_1000, zl_4088, zl_9999, zl_99999, zI_on, zI_add, zI_sub, zI_mul, zI_neg, zI_bi, zI_lt, zI_le, zI_inj, zI_in, zI_ix, int_lt_t, int_lt_f, int_le_t, int_le_f, int_eq_t, int_eq_f, e, Bool.not_true]
      rfl
  · dsimp only
    unfold s_45_5
    simp (disch := omega) only [wbs, obs, oms, ift, ifn, not_true_eq_false, not_false_eq_true, true_and, and_true, false_and, and_false, true_or, or_true, false_or, or_false, Bool.false_eq_true, reduceCtorEq, eq_self, decide_true, decide_false, zl_0, zl_1, zl_2, zl_3, zl_4, zl_5, zl_6, zl_7, zl_8, zl_9, zl_10, zl_11, zl_12, zl_13, zl_14, zl_15, zl_16, zl_17, zl_18, zl_19, zl_20, zl_21, zl_22, zl_23, zl_24, zl_25, zl_26, zl_27, zl_28, zl_29, zl_30, zl_31, zl_32, zl_33, zl_34, zl_35, zl_36, zl_37, zl_38, zl_39, zl_40, zl_41, zl_42, zl_43, zl_44, zl_45, zl_46, zl_47, zl_48, zl_49, zl_50, zl_51, zl_52, zl_53, zl_54, zl_55, zl_56, zl_57, zl_58, zl_59, zl_60, zl_61, zl_62, zl_63, zl_64, zl_88, zl_97, zl_99, zl_120, zl_122, zl_150, zl_152, zl_200, zl_255, zl_264, zl_280, zl_304, zl_464, zl_584, zl_600, zl_837, zl_999, zl_1000, zl_4088, zl_9999, zl_99999, zI_on, zI_add, zI_sub, zI_mul, zI_neg, zI_bi, zI_lt, zI_le, zI_inj, zI_in, zI_ix, int_lt_t, int_lt_f, int_le_t, int_le_f, int_eq_t, int_eq_f]
theorem c40 (ho : oA φ) (h : FV m φ n F L E) (hB : FB n F L E) {v : Int} (v1 : 0 ≤ v) (v2 : v ≤ 9999) : d_40 φ (zI v) m = some (decide (ff (fun k => decide (F k = v)) n < n)) := by
  obtain ⟨a1, a2, a3, a4, a5, a6⟩ := ho
  obtain ⟨h8, hB⟩ := hB
  obtain ⟨h1, h2⟩ := h
  have key := it_ff (F := fun s => s_40_2 φ (zI v) m s) (fun k => zI (k : Nat)) (fun k => decide (F k = v)) (fun _ => true) false n (fun k hk hp => ?_) (fun k hk hp => ?_) ?_
  · unfold d_40 d_40_2
    rw [zl_0]
    refine Eq.trans key ?_
    by_cases q : ff (fun k => decide (F k = v)) n < n
    · rw [if_pos q, decide_eq_true q]
    · rw [if_neg q, decide_eq_false q]
  · have hp := of_decide_eq_false hp
    have e1 := (h2 k (by omega)).1
    have b := hB k hk
    unfold s_40_2
    simp (disch := omega) only [h1, a1, a4, wbs, obs, oms, ift, ifn, not_true_eq_false, not_false_eq_true, true_and, and_true, false_and, and_false, true_or, or_true, false_or, or_false, Bool.false_eq_true, reduceCtorEq, eq_self, decide_true, decide_false, zl_0, zl_1, zl_2, zl_3, zl_4, zl_5, zl_6, zl_7, zl_8, zl_9, zl_10, zl_11, zl_12, zl_13, zl_14, zl_15, zl_16, zl_17, zl_18, zl_19, zl_20, zl_21, zl_22, zl_23, zl_24, zl_25, zl_26, zl_27, zl_28, zl_29, zl_30, zl_31, zl_32, zl_33, zl_34, zl_35, zl_36, zl_37, zl_38, zl_39, zl_40, zl_41, zl_42, zl_43, zl_44, zl_45, zl_46, zl_47, zl_48, zl_49, zl_50, zl_51, zl_52, zl_53, zl_54, zl_55, zl_56, zl_57, zl_58, zl_59, zl_60, zl_61, zl_62, zl_63, zl_64, zl_88, zl_97, zl_99, zl_120, zl_122, zl_150, zl_152, zl_200, zl_255, zl_264, zl_280, zl_304, zl_464, zl_584, zl_600, zl_837, zl_999, zl_1000, zl_4088, zl_9999, zl_99999, zI_on, zI_add, zI_sub, zI_mul, zI_neg, zI_bi, zI_lt, zI_le, zI_inj, zI_in, zI_ix, int_lt_t, int_lt_f, int_le_t, int_le_f, int_eq_t, int_eq_f, Int.toNat_natCast, e1]
    rfl
  · have hp := of_decide_eq_true hp
    have e1 := (h2 k (by omega)).1
    have b := hB k hk
    unfold s_40_2
    simp (disch := omega) only [h1, a1, a4, wbs, obs, oms, ift, ifn, not_true_eq_false, not_false_eq_true, true_and, and_true, false_and, and_false, true_or, or_true, false_or, or_false, Bool.false_eq_true, reduceCtorEq, eq_self, decide_true, decide_false, zl_0, zl_1, zl_2, zl_3, zl_4, zl_5, zl_6, zl_7, zl_8, zl_9, zl_10, zl_11, zl_12, zl_13, zl_14, zl_15, zl_16, zl_17, zl_18, zl_19, zl_20, zl_21, zl_22, zl_23, zl_24, zl_25, zl_26, zl_27, zl_28, zl_29, zl_30, zl_31, zl_32, zl_33, zl_34, zl_35, zl_36, zl_37, zl_38, zl_39, zl_40, zl_41, zl_42, zl_43, zl_44, zl_45, zl_46, zl_47, zl_48, zl_49, zl_50, zl_51, zl_52, zl_53, zl_54, zl_55, zl_56, zl_57, zl_58, zl_59, zl_60, zl_61, zl_62, zl_63, zl_64, zl_88, zl_97, zl_99, zl_120, zl_122, zl_150, zl_152, zl_200, zl_255, zl_264, zl_280, zl_304, zl_464, zl_584, zl_600, zl_837, zl_999, zl_1000, zl_4088, zl_9999, zl_99999, zI_on, zI_add, zI_sub, zI_mul, zI_neg, zI_bi, zI_lt, zI_le, zI_inj, zI_in, zI_ix, int_lt_t, int_lt_f, int_le_t, int_le_f, int_eq_t, int_eq_f, Int.toNat_natCast, e1]
  · unfold s_40_2
    simp (disch := omega) only [h1, wbs, obs, oms, ift, ifn, not_true_eq_false, not_false_eq_true, true_and, and_true, false_and, and_false, true_or, or_true, false_or, or_false, Bool.false_eq_true, reduceCtorEq, eq_self, decide_true, decide_false, zl_0, zl_1, zl_2, zl_3, zl_4, zl_5, zl_6, zl_7, zl_8, zl_9, zl_10, zl_11, zl_12, zl_13, zl_14, zl_15, zl_16, zl_17, zl_18, zl_19, zl_20, zl_21, zl_22, zl_23, zl_24, zl_25, zl_26, zl_27, zl_28, zl_29, zl_30, zl_31, zl_32, zl_33, zl_34, zl_35, zl_36, zl_37, zl_38, zl_39, zl_40, zl_41, zl_42, zl_43, zl_44, zl_45, zl_46, zl_47, zl_48, zl_49, zl_50, zl_51, zl_52, zl_53, zl_54, zl_55, zl_56, zl_57, zl_58, zl_59, zl_60, zl_61, zl_62, zl_63, zl_64, zl_88, zl_97, zl_99, zl_120, zl_122, zl_150, zl_152, zl_200, zl_255, zl_264, zl_280, zl_304, zl_464, zl_584, zl_600, zl_837, zl_999, zl_1000, zl_4088, zl_9999, zl_99999, zI_on, zI_add, zI_sub, zI_mul, zI_neg, zI_bi, zI_lt, zI_le, zI_inj, zI_in, zI_ix, int_lt_t, int_lt_f, int_le_t, int_le_f, int_eq_t, int_eq_f]
end FG
section FH
variable {m : Mm} {r : Nat → Int} {W H n : Nat}
end FH
