/-! Messages, as the class works them out. -/
def mg (tn x y X Y : Nat) : Nat → Nat := fun k => if k = 0 then tn else if k = 1 then x + 1 else if k = 2 then y + 1 else if k = 3 then X + 1 else if k = 4 then Y + 1 else 1 + (tn + (x + 1) + (y + 1) + (X + 1) + (Y + 1)) % 7
def gs (G : Nat → Nat) (p : Nat) : Nat → Nat
  | 0 => 0
  | k + 1 => gs G p k + (G k + p)
def ck (l : Nat → Nat) : Nat := 1 + (l 0 + l 1 + l 2 + l 3 + l 4) % 7
theorem s_r0 : sh_r 234 0 = 235 := by decide +kernel
theorem s_r1 : sh_r 234 1 = 236 := by decide +kernel
theorem s_n5 : sh_n 235 = 6 := by decide +kernel
theorem s_n6 : sh_n 236 = 6 := by decide +kernel
theorem in_k {k n : Nat} (h : k < n) (h2 : n ≤ 2147483647) : ev_in (zI (k : Nat)) n = true := zI_in_t (by omega) (by omega) (by omega)
section MS
variable {m : Mm}
theorem c87 {a : Nat} (ha : sh_n a = 6) {l : Nat → Nat} (hl : ∀ k, k < 5 → m a k = zI (l k : Nat)) (hb : ∀ k, k < 5 → l k ≤ 1000) : d_87 a m = some (zI (ck l : Nat)) := by
  have b0 := hb 0 (by decide)
  have b1 := hb 1 (by decide)
  have b2 := hb 2 (by decide)
  have b3 := hb 3 (by decide)
  have b4 := hb 4 (by decide)
  have key := it_row (f := fun s => s_87_4 a m s.1 s.2) (fun k => (zI (fo (fun i v => v + l i) k 0 : Nat), zI (k : Nat))) (zI (ck l : Nat)) 5 (fun k hk => ?_) ?_
  · unfold d_87 d_87_4
    exact key
  · dsimp only
    unfold s_87_4
    rw [ha]
    simp (disch := omega) only [wbs, obs, oms, ift, ifn, not_true_eq_false, not_false_eq_true, true_and, and_true, false_and, and_false, true_or, or_true, false_or, or_false, Bool.false_eq_true, reduceCtorEq, eq_self, decide_true, decide_false, zl_0, zl_1, zl_2, zl_3, zl_4, zl_5, zl_6, zl_7, zl_8, zl_9, zl_10, zl_11, zl_12, zl_13, zl_14, zl_15, zl_16, zl_17, zl_18, zl_19, zl_20, zl_21, zl_22, zl_23, zl_24, zl_25, zl_26, zl_27, zl_28, zl_29, zl_30, zl_31, zl_32, zl_33, zl_34, zl_35, zl_36, zl_37, zl_38, zl_39, zl_40, zl_41, zl_42, zl_43, zl_44, zl_45, zl_46, zl_47, zl_48, zl_49, zl_50, zl_51, zl_52, zl_53, zl_54, zl_55, zl_56, zl_57, zl_58, zl_59, zl_60, zl_61, zl_62, zl_63, zl_64, zl_88, zl_97, zl_99, zl_120, zl_122, zl_150, zl_152, zl_200, zl_255, zl_264, zl_280, zl_304, zl_464, zl_584, zl_600, zl_837, zl_999, zl_1000, zl_4088, zl_9999, zl_99999, zI_on, zI_add, zI_sub, zI_mul, zI_neg, zI_bi, zI_lt, zI_le, zI_inj, zI_in, zI_ix, int_lt_t, int_lt_f, int_le_t, int_le_f, int_eq_t, int_eq_f, Int.toNat_natCast, hl k hk]
    rw [fo_s, Int.natCast_add]
    rfl
  · dsimp only
    unfold s_87_4 d_87_27
    rw [ha]
    have e : fo (fun i v => v + l i) 5 0 = l 0 + l 1 + l 2 + l 3 + l 4 := by
      simp only [fo, Nat.zero_add]
    simp (disch := omega) only [wbs, obs, oms, ift, ifn, not_true_eq_false, not_false_eq_true, true_and, and_true, false_and, and_false, true_or, or_true, false_or, or_false, Bool.false_eq_true, reduceCtorEq, eq_self, decide_true, decide_false, zl_0, zl_1, zl_2, zl_3, zl_4, zl_5, zl_6, zl_7, zl_8, zl_9, zl_10, zl_11, zl_12, zl_13, zl_14, zl_15, zl_16, zl_17, zl_18, zl_19, zl_20, zl_21, zl_22, zl_23, zl_24, zl_25, zl_26, zl_27, zl_28, zl_29, zl_30, zl_31, zl_32, zl_33, zl_34, zl_35, zl_36, zl_37, zl_38, zl_39, zl_40, zl_41, zl_42, zl_43, zl_44, zl_45, zl_46, zl_47, zl_48, zl_49, zl_50, zl_51, zl_52, zl_53, zl_54, zl_55, zl_56, zl_57, zl_58, zl_59, zl_60, zl_61, zl_62, zl_63, zl_64, zl_88, zl_97, zl_99, zl_120, zl_122, zl_150, zl_152, zl_200, zl_255, zl_264, zl_280, zl_304, zl_464, zl_584, zl_600, zl_837, zl_999, zl_1000, zl_4088, zl_9999, zl_99999, zI_on, zI_lt, zI_le, zI_inj, zI_in, zI_ix, int_lt_t, int_lt_f, int_le_t, int_le_f, int_eq_t, int_eq_f, e]
    rw [zI_rm (by omega) (by omega) (by omega) (by omega), zI_add]
    unfold ck
    congr 4
theorem c86 {tn x y X Y : Nat} (ht : tn ≤ 2) (hx : x < 8) (hy : y < 8) (hX : X < 8) (hY : Y < 8) :
    An (d_86 234 (zI (tn : Nat)) (zI ((x + 8 * y : Nat) : Int)) (zI ((X + 8 * Y : Nat) : Int)) m) (fun m' => (∀ k, k < 6 → m' 235 k = zI (mg tn x y X Y k : Nat)) ∧ ∀ a, a ≠ 235 → m' a = m a) := by
  unfold d_86
  rw [s_r0, s_n5, c13 hx, c14 hx hy, c13 hX, c14 hX hY]
  have z0 : (0 : Int32) = zI ((0 : Nat) : Int) := rfl
  have z1 : (1 : Int32) = zI ((1 : Nat) : Int) := rfl
  have z2 : (2 : Int32) = zI ((2 : Nat) : Int) := rfl
  have z3 : (3 : Int32) = zI ((3 : Nat) : Int) := rfl
  have z4 : (4 : Int32) = zI ((4 : Nat) : Int) := rfl
  have z5 : (5 : Int32) = zI ((5 : Nat) : Int) := rfl
  have a1 : zI (x : Nat) + 1 = zI ((x + 1 : Nat) : Int) := by rw [zl_1, zI_add]; rfl
  have a2 : zI (y : Nat) + 1 = zI ((y + 1 : Nat) : Int) := by rw [zl_1, zI_add]; rfl
  have a3 : zI (X : Nat) + 1 = zI ((X + 1 : Nat) : Int) := by rw [zl_1, zI_add]; rfl
  have a4 : zI (Y : Nat) + 1 = zI ((Y + 1 : Nat) : Int) := by rw [zl_1, zI_add]; rfl
  simp only [obs, wbs, a1, a2, a3, a4, z0, z2, z3, z4, z5]
  rw [z1]
  rw [if_pos (in_k (by decide) (by decide)), if_pos (in_k (by decide) (by decide)), if_pos (in_k (by decide) (by decide)), if_pos (in_k (by decide) (by decide)), if_pos (in_k (by decide) (by decide))]
  rw [z_ix (by decide), z_ix (by decide), z_ix (by decide), z_ix (by decide), z_ix (by decide), z_ix (by decide)]
  generalize hm : wr (wr (wr (wr (wr m 235 0 (zI (tn : Nat))) 235 1 (zI ((x + 1 : Nat) : Int))) 235 2 (zI ((y + 1 : Nat) : Int))) 235 3 (zI ((X + 1 : Nat) : Int))) 235 4 (zI ((Y + 1 : Nat) : Int)) = m9
  have g : ∀ k, k < 5 → m9 235 k = zI (mg tn x y X Y k : Nat) := by
    intro k hk
    subst hm
    have : k = 0 ∨ k = 1 ∨ k = 2 ∨ k = 3 ∨ k = 4 := by omega
    rcases this with rfl | rfl | rfl | rfl | rfl <;> simp only [wr_at, Nat.reduceEqDiff, if_true, if_false] <;> rfl
  have e := c87 (m := m9) (a := 235) s_n5 (l := mg tn x y X Y) g (fun k hk => by
    unfold mg
    repeat' split
    all_goals omega)
  rw [e]
  simp only [obs]
  rw [if_pos (in_k (by decide) (by decide))]
  refine An.so ⟨fun k hk => ?_, fun a ha => ?_⟩
  · rw [wr_at]
    by_cases q : k = 5
    · rw [if_pos q, q]; rfl
    · rw [if_neg q]; exact g k (by omega)
  · subst hm
    rw [wr_ne ha, wr_ne ha, wr_ne ha, wr_ne ha, wr_ne ha, wr_ne ha]
theorem gs_le {G : Nat → Nat} {p : Nat} (hG : ∀ k, k < 6 → G k ≤ 9) (hp : p ≤ 5) : ∀ k, k ≤ 6 → gs G p k ≤ 14 * k := by
  intro k
  induction k with
  | zero => intro _; exact Nat.le_refl _
  | succ k ih =>
    intro hk
    have := ih (by omega)
    have := hG k (by omega)
    unfold gs
    omega
theorem c88 {φ n : Nat} {F L E : Nat → Int} (ho : oA φ) (hφ : φ + 3 < 234) (h : FV m φ n F L E) (hB : FB n F L E) {G : Nat → Nat} (hg : ∀ k, k < 6 → m 235 k = zI (G k : Nat)) (hG : ∀ k, k < 6 → G k ≤ 9) {t : Int} (t1 : 0 ≤ t) (t2 : t ≤ 9000000) {p : Nat} (hp : p ≤ 5) :
    An (d_88 234 φ (zI t) (zI (p : Nat)) m) (fun m' => (∀ k, k < 6 → m' 236 k = zI (see n F L E (t + (gs G p k : Nat)) (G k) : Nat)) ∧ m' 234 2 = zI (gs G p 6 : Nat) ∧ (∀ j, j ≠ 2 → m' 234 j = m 234 j) ∧ ∀ a, a ≠ 234 → a ≠ 236 → m' a = m a) := by
  unfold d_88 d_88_6
  refine it_inv (fun k st => st.1 = zI (t + (gs G p k : Nat)) ∧ st.2.1 = zI (k : Nat) ∧ (∀ j, j < k → st.2.2 236 j = zI (see n F L E (t + (gs G p j : Nat)) (G j) : Nat)) ∧ ∀ a, a ≠ 236 → st.2.2 a = m a) _ 6 ⟨by show zI t = zI (t + ((0 : Nat) : Int)); rw [show t + ((0 : Nat) : Int) = t by omega], rfl, fun j hj => absurd hj (Nat.not_lt_zero _), fun _ _ => rfl⟩ (fun k hk st hst => ?_) (fun st hst => ?_)
  · obtain ⟨x4, x5, m'⟩ := st
    obtain ⟨e1, e2, e3, e4⟩ := hst
    dsimp only at e1 e2 e3 e4
    subst e1
    subst e2
    have gl := gs_le hG hp k (by omega)
    have gk := hG k hk
    have h' : FV m' φ n F L E := h.mm (fun a q1 q2 => e4 a (by omega))
    have e45 := c45 ho h' hB (t := t + (gs G p k : Nat)) (by omega) (by omega) (c := G k) (by omega)
    have g' : m' 235 k = zI (G k : Nat) := by rw [e4 235 (by decide)]; exact hg k hk
    dsimp only
    unfold s_88_6
    rw [s_r0, s_r1, s_n5, s_n6, if_neg (by rw [zl_6, zI_le (by omega) (by omega) (by omega) (by omega)]; omega), if_pos (in_k hk (by decide)), z_ix (by omega), g', e45]
    simp only [obs, wbs]
    rw [if_pos (in_k hk (by decide)), if_pos (in_k hk (by decide)), wr_ne (by decide), g']
    refine An.so ⟨?_, ?_, fun j hj => ?_, fun a ha => ?_⟩
    · dsimp only
      rw [zI_add, zI_add]
      congr 1
      show _ = t + ((gs G p k + (G k + p) : Nat) : Int)
      omega
    · dsimp only
      rw [zl_1, zI_add]; rfl
    · dsimp only
      rw [wr_at]
      by_cases q : j = k
      · rw [if_pos q, q]
      · rw [if_neg q]; exact e3 j (by omega)
    · dsimp only
      rw [wr_ne ha]; exact e4 a ha
  · obtain ⟨x4, x5, m'⟩ := st
    obtain ⟨e1, e2, e3, e4⟩ := hst
    dsimp only at e1 e2 e3 e4
    subst e1
    subst e2
    dsimp only
    unfold s_88_6 d_88_53
    rw [if_pos (by rw [zl_6, zI_le (by omega) (by omega) (by omega) (by omega)]; omega)]
    simp only [wbs, oms]
    refine An.so ⟨fun k hk => ?_, ?_, fun j hj => ?_, fun a h1 h2 => ?_⟩
    · rw [wr_ne (by decide)]; exact e3 k hk
    · rw [wr_eq, zI_sub]; congr 1; omega
    · rw [wr_nk hj, e4 234 (by decide)]
    · rw [wr_ne h1]; exact e4 a h2
end MS
