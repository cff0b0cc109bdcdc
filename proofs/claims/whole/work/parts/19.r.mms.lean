/-! Messages, as the reference works them out. -/
section MM
variable {m : Mm} {r : Nat → Int} {W H : Nat}
theorem m242 {a : Nat} (ha : sh_n a = 6) {l : Nat → Nat} (hl : ∀ k, k < 5 → m a k = zI (l k : Nat)) (hb : ∀ k, k < 5 → l k ≤ 1000) : d_242 a m = some (zI (ck l : Nat)) := by
  have b0 := hb 0 (by decide)
  have b1 := hb 1 (by decide)
  have b2 := hb 2 (by decide)
  have b3 := hb 3 (by decide)
  have b4 := hb 4 (by decide)
  unfold d_242
  have z0 : (0 : Int32) = zI ((0 : Nat) : Int) := rfl
  have z1 : (1 : Int32) = zI ((1 : Nat) : Int) := rfl
  have z2 : (2 : Int32) = zI ((2 : Nat) : Int) := rfl
  have z3 : (3 : Int32) = zI ((3 : Nat) : Int) := rfl
  have z4 : (4 : Int32) = zI ((4 : Nat) : Int) := rfl
  rw [ha, z0, z1, z2, z3, z4, if_pos (in_k (by decide) (by decide)), if_pos (in_k (by decide) (by decide)), if_pos (in_k (by decide) (by decide)), if_pos (in_k (by decide) (by decide)), if_pos (in_k (by decide) (by decide))]
  rw [z_ix (by decide), z_ix (by decide), z_ix (by decide), z_ix (by decide), z_ix (by decide), hl 0 (by decide), hl 1 (by decide), hl 2 (by decide), hl 3 (by decide), hl 4 (by decide)]
  rw [zI_add, zI_add, zI_add, zI_add, zl_7, zI_rm (by omega) (by omega) (by omega) (by omega), zI_add]
  unfold ck
  congr 2
theorem m243 (h : MW m r W H) {s : Nat} (hs : s ≤ 1) (h3 : r 3 = s) {C : Nat} (hC : r (9 + s) = C) (hC2 : C ≤ 1000000) {x y X Y : Nat} (hx : x < W) (hy : y < H) (hX : X < W) (hY : Y < H) :
    An (d_243 249 (zI ((x + W * y : Nat) : Int)) (zI ((X + W * Y : Nat) : Int)) m) (fun m' => (∀ k, k < 6 → m' 262 k = zI (mg (1 + C % 2) x y X Y k : Nat)) ∧ ∀ a, a ≠ 262 → m' a = m a) := by
  have hw := h.2.2.2
  obtain ⟨w1, w2, w3, w4⟩ := hw
  have e3 : m 250 3 = zI (s : Nat) := by rw [h.1 3 (by omega), h3]
  have eC : m 250 (9 + s) = zI (C : Nat) := by rw [h.1 _ (by omega), hC]
  have z0 : (0 : Int32) = zI ((0 : Nat) : Int) := rfl
  have z1 : (1 : Int32) = zI ((1 : Nat) : Int) := rfl
  have z2 : (2 : Int32) = zI ((2 : Nat) : Int) := rfl
  have z3 : (3 : Int32) = zI ((3 : Nat) : Int) := rfl
  have z4 : (4 : Int32) = zI ((4 : Nat) : Int) := rfl
  have z5 : (5 : Int32) = zI ((5 : Nat) : Int) := rfl
  have z9 : (9 : Int32) = zI ((9 : Nat) : Int) := rfl
  have a1 : zI (x : Nat) + zI ((1 : Nat) : Int) = zI ((x + 1 : Nat) : Int) := z_ad _ _
  have a2 : zI (y : Nat) + zI ((1 : Nat) : Int) = zI ((y + 1 : Nat) : Int) := z_ad _ _
  have a3 : zI (X : Nat) + zI ((1 : Nat) : Int) = zI ((X + 1 : Nat) : Int) := z_ad _ _
  have a4 : zI (Y : Nat) + zI ((1 : Nat) : Int) = zI ((Y + 1 : Nat) : Int) := z_ad _ _
  have fr : ∀ m' : Mm, m' 250 = m 250 → MW m' r W H := fun m' e => ⟨h.1.mm e, h.2⟩
  unfold d_243
  rw [m_r1, m_r15, n_250, n_262, z0, z1, z2, z3, z4, z5, z9]
  simp only [z_ix (show 0 ≤ 2147483647 by decide), z_ix (show 1 ≤ 2147483647 by decide), z_ix (show 2 ≤ 2147483647 by decide), z_ix (show 3 ≤ 2147483647 by decide), z_ix (show 4 ≤ 2147483647 by decide), z_ix (show 5 ≤ 2147483647 by decide), e3, z_ad, z_ix (show 9 + s ≤ 2147483647 by omega), eC]
  rw [if_pos (in_k (by decide) (by decide)), if_pos (in_k (by omega) (by decide))]
  rw [zI_rm (by omega) (by omega) (by omega) (by omega)]
  simp only [wbs]
  rw [if_pos (in_k (by decide) (by decide))]
  rw [m198 (fr _ (by rw [wr_ne (by decide)])) hx hy]
  simp only [obs]
  rw [if_pos (in_k (by decide) (by decide)), m199 (fr _ (by rw [wr_ne (by decide), wr_ne (by decide)])) hx hy]
  simp only [obs]
  rw [if_pos (in_k (by decide) (by decide)), m198 (fr _ (by rw [wr_ne (by decide), wr_ne (by decide), wr_ne (by decide)])) hX hY]
  simp only [obs]
  rw [if_pos (in_k (by decide) (by decide)), m199 (fr _ (by rw [wr_ne (by decide), wr_ne (by decide), wr_ne (by decide), wr_ne (by decide)])) hX hY]
  simp only [obs]
  rw [if_pos (in_k (by decide) (by decide)), a1, a2, a3, a4]
  rw [show zI ((1 : Nat) : Int) + zI ((C : Int) % ((2 : Nat) : Int)) = zI ((1 + C % 2 : Nat) : Int) by rw [zI_add]; congr 1]
  generalize hm : wr (wr (wr (wr (wr m 262 0 (zI ((1 + C % 2 : Nat) : Int))) 262 1 (zI ((x + 1 : Nat) : Int))) 262 2 (zI ((y + 1 : Nat) : Int))) 262 3 (zI ((X + 1 : Nat) : Int))) 262 4 (zI ((Y + 1 : Nat) : Int)) = m9
  have g : ∀ k, k < 5 → m9 262 k = zI (mg (1 + C % 2) x y X Y k : Nat) := by
    intro k hk
    subst hm
    have : k = 0 ∨ k = 1 ∨ k = 2 ∨ k = 3 ∨ k = 4 := by omega
    rcases this with rfl | rfl | rfl | rfl | rfl <;> simp only [wr_at, Nat.reduceEqDiff, if_true, if_false] <;> rfl
  have e := m242 (m := m9) (a := 262) n_262 (l := mg (1 + C % 2) x y X Y) g (fun k hk => by
    unfold mg
    repeat' split
    all_goals omega)
  rw [e]
  simp only [obs]
  rw [if_pos (in_k (by decide) (by decide))]
  refine An.so ⟨fun k hk => ?_, fun a ha => ?_⟩
  · rw [wr_at]
    by_cases q : k = 5
    · rw [if_pos q, q]; rfl
    · rw [if_neg q]; exact g k (by omega)
  · subst hm
    rw [wr_ne ha, wr_ne ha, wr_ne ha, wr_ne ha, wr_ne ha, wr_ne ha]
theorem m244 {G : Nat → Nat} (hg : ∀ k, k < 6 → m 262 k = zI (G k : Nat)) : d_244 249 m = some (zI (fo (fun i v => v + G i) 6 0 : Nat)) := by
  have key := it_row (f := fun s => s_244_4 249 m s.1 s.2) (fun k => (zI (fo (fun i v => v + G i) k 0 : Nat), zI (k : Nat))) (zI (fo (fun i v => v + G i) 6 0 : Nat)) 6 (fun k hk => ?_) ?_
  · unfold d_244 d_244_4
    exact key
  · dsimp only
    unfold s_244_4
    simp (disch := omega) only [wbs, obs, oms, ift, ifn, not_true_eq_false, not_false_eq_true, true_and, and_true, false_and, and_false, true_or, or_true, false_or, or_false, Bool.false_eq_true, reduceCtorEq, eq_self, decide_true, decide_false, zl_0, zl_1, zl_2, zl_3, zl_4, zl_5, zl_6, zl_7, zl_8, zl_9, zl_10, zl_11, zl_12, zl_13, zl_14, zl_15, zl_16, zl_17, zl_18, zl_19, zl_20, zl_21, zl_22, zl_23, zl_24, zl_25, zl_26, zl_27, zl_28, zl_29, zl_30, zl_31, zl_32, zl_33, zl_34, zl_35, zl_36, zl_37, zl_38, zl_39, zl_40, zl_41, zl_42, zl_43, zl_44, zl_45, zl_46, zl_47, zl_48, zl_49, zl_50, zl_51, zl_52, zl_53, zl_54, zl_55, zl_56, zl_57, zl_58, zl_59, zl_60, zl_61, zl_62, zl_63, zl_64, zl_88, zl_97, zl_99, zl_120, zl_122, zl_150, zl_152, zl_200, zl_255, zl_264, zl_280, zl_304, zl_464, zl_584, zl_600, zl_837, zl_999, zl_1000, zl_4088, zl_9999, zl_99999, zI_on, zI_add, zI_sub, zI_mul, zI_neg, zI_bi, zI_lt, zI_le, zI_inj, zI_in, zI_ix, int_lt_t, int_lt_f, int_le_t, int_le_f, int_eq_t, int_eq_f, m_r15, n_262, Int.toNat_natCast, hg k hk]
    rw [fo_s, Int.natCast_add]
    rfl
  · dsimp only
    unfold s_244_4
    simp (disch := omega) only [wbs, obs, oms, ift, ifn, not_true_eq_false, not_false_eq_true, true_and, and_true, false_and, and_false, true_or, or_true, false_or, or_false, Bool.false_eq_true, reduceCtorEq, eq_self, decide_true, decide_false, zl_0, zl_1, zl_2, zl_3, zl_4, zl_5, zl_6, zl_7, zl_8, zl_9, zl_10, zl_11, zl_12, zl_13, zl_14, zl_15, zl_16, zl_17, zl_18, zl_19, zl_20, zl_21, zl_22, zl_23, zl_24, zl_25, zl_26, zl_27, zl_28, zl_29, zl_30, zl_31, zl_32, zl_33, zl_34, zl_35, zl_36, zl_37, zl_38, zl_39, zl_40, zl_41, zl_42, zl_43, zl_44, zl_45, zl_46, zl_47, zl_48, zl_49, zl_50, zl_51, zl_52, zl_53, zl_54, zl_55, zl_56, zl_57, zl_58, zl_59, zl_60, zl_61, zl_62, zl_63, zl_64, zl_88, zl_97, zl_99, zl_120, zl_122, zl_150, zl_152, zl_200, zl_255, zl_264, zl_280, zl_304, zl_464, zl_584, zl_600, zl_837, zl_999, zl_1000, zl_4088, zl_9999, zl_99999, zI_on, zI_add, zI_sub, zI_mul, zI_neg, zI_bi, zI_lt, zI_le, zI_inj, zI_in, zI_ix, int_lt_t, int_lt_f, int_le_t, int_le_f, int_eq_t, int_eq_f]
theorem m246 (h : MR m r) {n : Nat} (h8 : r 8 = n) (hB : FB n (fun k => r (280 + 3 * k)) (fun k => r (281 + 3 * k)) (fun k => r (282 + 3 * k))) {G : Nat → Nat} (hg : ∀ k, k < 6 → m 262 k = zI (G k : Nat)) (hG : ∀ k, k < 6 → G k ≤ 9) {t : Int} (t1 : 0 ≤ t) (t2 : t ≤ 9000000) {p : Nat} (hp : p ≤ 5) (h5 : r 5 = p) :
    An (d_246 249 (zI t) m) (fun q => q.1 = zI (fo (fun i v => v + see n (fun k => r (280 + 3 * k)) (fun k => r (281 + 3 * k)) (fun k => r (282 + 3 * k)) (t + (gs G p i : Nat)) (G i)) 6 0 : Nat) ∧ (∀ k, k < 6 → q.2 263 k = zI (see n (fun k => r (280 + 3 * k)) (fun k => r (281 + 3 * k)) (fun k => r (282 + 3 * k)) (t + (gs G p k : Nat)) (G k) : Nat)) ∧ ∀ a, a ≠ 263 → q.2 a = m a) := by
  have e5 : m 250 5 = zI (p : Nat) := by rw [h 5 (by omega), h5]
  unfold d_246 d_246_7
  refine it_inv (fun k st => st.1 = zI (t + (gs G p k : Nat)) ∧ st.2.1 = zI (fo (fun i v => v + see n (fun k => r (280 + 3 * k)) (fun k => r (281 + 3 * k)) (fun k => r (282 + 3 * k)) (t + (gs G p i : Nat)) (G i)) k 0 : Nat) ∧ st.2.2.1 = zI (k : Nat) ∧ (∀ j, j < k → st.2.2.2 263 j = zI (see n (fun k => r (280 + 3 * k)) (fun k => r (281 + 3 * k)) (fun k => r (282 + 3 * k)) (t + (gs G p j : Nat)) (G j) : Nat)) ∧ ∀ a, a ≠ 263 → st.2.2.2 a = m a) _ 6 ⟨by show zI t = zI (t + ((0 : Nat) : Int)); rw [show t + ((0 : Nat) : Int) = t by omega], rfl, rfl, fun j hj => absurd hj (Nat.not_lt_zero _), fun _ _ => rfl⟩ (fun k hk st hst => ?_) (fun st hst => ?_)
  · obtain ⟨x4, xn, x5, m'⟩ := st
    obtain ⟨e1, e0, e2, e3, e4⟩ := hst
    dsimp only at e1 e0 e2 e3 e4
    subst e1
    subst e2
    subst e0
    have gl := gs_le hG hp k (by omega)
    have gk := hG k hk
    have h' : MR m' r := h.mm (e4 250 (by decide))
    have e234 := m234 h' h8 hB (t := t + (gs G p k : Nat)) (by omega) (by omega) (c := G k) (by omega)
    have g' : m' 262 k = zI (G k : Nat) := by rw [e4 262 (by decide)]; exact hg k hk
    have e5' : m' 250 5 = zI (p : Nat) := by rw [e4 250 (by decide)]; exact e5
    dsimp only
    unfold s_246_7
    rw [m_r1, m_r15, m_r16, n_250, n_262, n_263, if_neg (by rw [zl_6, zI_le (by omega) (by omega) (by omega) (by omega)]; omega), if_pos (in_k hk (by decide)), z_ix (by omega), g', e234]
    simp only [obs, wbs]
    rw [if_pos (in_k hk (by decide)), if_pos (in_k hk (by decide)), if_pos (by decide), if_pos (in_k hk (by decide)), wr_ne (by decide), g', wr_ne (by decide), show ix (5 : Int32) = 5 from by decide, e5', wr_eq]
    refine An.so ⟨?_, ?_, ?_, fun j hj => ?_, fun a ha => ?_⟩
    · dsimp only
      rw [zI_add, zI_add]
      congr 1
      show _ = t + ((gs G p k + (G k + p) : Nat) : Int)
      omega
    · dsimp only
      rw [z_ad, fo_s]
    · dsimp only
      rw [zl_1, zI_add]; rfl
    · dsimp only
      rw [wr_at]
      by_cases q : j = k
      · rw [if_pos q, q]
      · rw [if_neg q]; exact e3 j (by omega)
    · dsimp only
      rw [wr_ne ha]; exact e4 a ha
  · obtain ⟨x4, xn, x5, m'⟩ := st
    obtain ⟨e1, e0, e2, e3, e4⟩ := hst
    dsimp only at e1 e0 e2 e3 e4
    subst e2
    dsimp only
    unfold s_246_7
    rw [if_pos (by rw [zl_6, zI_le (by omega) (by omega) (by omega) (by omega)]; omega)]
    exact An.so ⟨e0, e3, e4⟩
end MM
