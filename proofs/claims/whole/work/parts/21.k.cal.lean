/-! Shares: any whole number made a float is a number, and none but zero is made zero. -/
theorem fx_rnd_g {f : FP.Core.Fmt} {s : Bool} {i : Nat} (h0 : 0 < i) (hp1 : 1 ≤ f.p) (hq : f.qmin ≤ 1 - (f.p : Int)) (hx : 0 ≤ f.qmax) (hy : (i.log2 : Int) + 2 - (f.p : Int) ≤ f.qmax) :
    ∃ c q, FP.Core.roundRatio f s i 1 0 = .fin s c q ∧ f.tails ≤ c ∧ c < 2 ^ f.p ∧ f.qmin ≤ q ∧ q ≤ f.qmax := by
  have l1 : 2 ^ i.log2 ≤ i := Nat.log2_self_le (by omega)
  have l2 : i < 2 ^ (i.log2 + 1) := Nat.lt_log2_self
  have le : FP.Core.leading i 1 = (i.log2 : Int) := by
    unfold FP.Core.leading
    have : Nat.log2 1 = 0 := by decide
    simp only [this]
    rw [if_pos (by simp; exact l1)]
    simp
  have qe : FP.Core.quantum f i 1 0 = (i.log2 : Int) - ((f.p : Int) - 1) := by
    unfold FP.Core.quantum
    rw [le]
    by_cases h : f.qmin ≤ (i.log2 : Int) - ((f.p : Int) - 1) <;> omega
  have tp : 2 ^ f.p = 2 * f.tails := by
    unfold FP.Core.Fmt.tails
    rw [← Nat.pow_succ']; congr 1; omega
  have t0 : 0 < f.tails := Nat.two_pow_pos _
  unfold FP.Core.roundRatio FP.Core.roundAt FP.Core.unitsNum FP.Core.unitsDen
  rw [if_neg (show ¬ i = 0 by omega), qe]
  by_cases hp : i.log2 < f.p
  · have e1 : ((0 : Int) - ((i.log2 : Int) - ((f.p : Int) - 1))).toNat = f.p - 1 - i.log2 := by omega
    have e2 : ((i.log2 : Int) - ((f.p : Int) - 1) - 0).toNat = 0 := by omega
    have c1 : i * 2 ^ (f.p - 1 - i.log2) < 2 ^ f.p := by
      have : 2 ^ f.p = 2 ^ (i.log2 + 1) * 2 ^ (f.p - 1 - i.log2) := by rw [← Nat.pow_add]; congr 1; omega
      rw [this]
      exact Nat.mul_lt_mul_of_pos_right l2 (Nat.two_pow_pos _)
    have c2 : f.tails ≤ i * 2 ^ (f.p - 1 - i.log2) := by
      unfold FP.Core.Fmt.tails
      have : 2 ^ (f.p - 1) = 2 ^ i.log2 * 2 ^ (f.p - 1 - i.log2) := by rw [← Nat.pow_add]; congr 1; omega
      rw [this]
      exact Nat.mul_le_mul_right _ l1
    rw [e1, e2]
    refine ⟨_, (i.log2 : Int) - ((f.p : Int) - 1), ?_, c2, c1, by omega, by omega⟩
    unfold FP.Core.nearest
    simp only [Nat.pow_zero, Nat.mul_one, Nat.mod_one, Nat.mul_zero, Nat.zero_lt_one, if_true, Nat.div_one]
    unfold FP.Core.settle FP.Core.bound
    rw [if_pos c1, if_pos (by omega)]
  · have e1 : ((0 : Int) - ((i.log2 : Int) - ((f.p : Int) - 1))).toNat = 0 := by omega
    have e2 : ((i.log2 : Int) - ((f.p : Int) - 1) - 0).toNat = i.log2 - (f.p - 1) := by omega
    rw [e1, e2]
    have dp : 0 < 2 ^ (i.log2 - (f.p - 1)) := Nat.two_pow_pos _
    have d1 : f.tails ≤ i / 2 ^ (i.log2 - (f.p - 1)) := by
      rw [Nat.le_div_iff_mul_le dp]
      unfold FP.Core.Fmt.tails
      rw [← Nat.pow_add, show f.p - 1 + (i.log2 - (f.p - 1)) = i.log2 by omega]
      exact l1
    have d2 : i / 2 ^ (i.log2 - (f.p - 1)) < 2 ^ f.p := by
      rw [Nat.div_lt_iff_lt_mul dp, ← Nat.pow_add, show f.p + (i.log2 - (f.p - 1)) = i.log2 + 1 by omega]
      exact l2
    have n1 : i / 2 ^ (i.log2 - (f.p - 1)) ≤ FP.Core.nearest (i * 2 ^ 0) (1 * 2 ^ (i.log2 - (f.p - 1))) ∧ FP.Core.nearest (i * 2 ^ 0) (1 * 2 ^ (i.log2 - (f.p - 1))) ≤ i / 2 ^ (i.log2 - (f.p - 1)) + 1 := by
      unfold FP.Core.nearest
      simp only [Nat.pow_zero, Nat.mul_one, Nat.one_mul]
      generalize i / 2 ^ (i.log2 - (f.p - 1)) = D
      split
      · omega
      · split <;> omega
    generalize FP.Core.nearest (i * 2 ^ 0) (1 * 2 ^ (i.log2 - (f.p - 1))) = c at n1
    unfold FP.Core.settle FP.Core.bound
    by_cases h : c < 2 ^ f.p
    · rw [if_pos h, if_pos (by omega)]
      exact ⟨c, _, rfl, by omega, h, by omega, by omega⟩
    · rw [if_neg h, if_pos (by omega)]
      exact ⟨_, _, rfl, Nat.le_refl _, by omega, by omega, by omega⟩
theorem fx_dec_g {f : FP.Core.Fmt} {i : Int} (hp1 : 1 ≤ f.p) (hq : f.qmin ≤ 1 - (f.p : Int)) (hx : 0 ≤ f.qmax) (hy : (i.natAbs.log2 : Int) + 2 - (f.p : Int) ≤ f.qmax) (h0 : 0 < f.tails) (ht : 2 ^ f.p = 2 * f.tails) (hm : (f.qmax - f.qmin).toNat + 2 < f.exps) :
    ∃ s c q, FP.Core.decode f (FP.Core.fromInt f i) = .fin s c q ∧ (c = 0 ↔ i = 0) := by
  unfold FP.Core.fromInt FP.Core.ofInt FP.Core.round
  by_cases hi : i.natAbs = 0
  · simp only [hi]
    unfold FP.Core.roundRatio FP.Core.encode
    simp only [if_pos h0, if_true]
    unfold FP.Core.decode
    rw [fx_as_T h0, fx_as_E h0 (by omega), if_neg (by omega), if_pos rfl]
    exact ⟨_, 0, _, rfl, by omega⟩
  · obtain ⟨c, q, e, c1, c2, q1, q2⟩ := fx_rnd_g (f := f) (s := decide (i < 0)) (i := i.natAbs) (by omega) hp1 hq hx hy
    simp only [e]
    unfold FP.Core.encode
    simp only [if_neg (show ¬ c < f.tails by omega)]
    unfold FP.Core.decode
    rw [fx_as_T (by omega), fx_as_E (by omega) (by omega), if_neg (by omega), if_neg (by omega)]
    exact ⟨_, _, _, rfl, by omega⟩
theorem fx_fdiv_g {a b : Int32} (hb : b.toInt ≠ 0) : fx_NN FP.Core.b32 (FP.Core.fdiv (FP.Core.i2f a) (FP.Core.i2f b)).toNat := by
  have lg : ∀ c : Int32, ((c.toInt.natAbs.log2 : Nat) : Int) + 2 - (FP.Core.b32.p : Int) ≤ FP.Core.b32.qmax := fun c => by
    have h1 := c.toInt_lt
    have h2 := c.le_toInt
    have hx : FP.Core.b32.qmax = 104 := by decide
    have hp : FP.Core.b32.p = 24 := rfl
    have : c.toInt.natAbs.log2 < 33 := by
      by_cases h : c.toInt.natAbs = 0
      · rw [h]; decide
      · exact (Nat.log2_lt h).2 (by omega)
    rw [hx, hp]
    omega
  obtain ⟨s, c, q, e, z⟩ := fx_dec_g (f := FP.Core.b32) (i := a.toInt) (by decide) (by decide) (by decide) (lg a) (by decide) fx_b32t (by decide)
  obtain ⟨t, d, u, e2, z2⟩ := fx_dec_g (f := FP.Core.b32) (i := b.toInt) (by decide) (by decide) (by decide) (lg b) (by decide) fx_b32t (by decide)
  have hf : ∀ c : Int32, FP.Core.fromInt FP.Core.b32 c.toInt < 2 ^ 32 := fun c => by
    have : fx_NN FP.Core.b32 (FP.Core.fromInt FP.Core.b32 c.toInt) := by
      unfold FP.Core.fromInt FP.Core.ofInt FP.Core.round
      exact fx_nn_ratio fx_b32t (by decide) (by decide)
    exact (fx_nn_b32 this).1
  unfold FP.Core.fdiv FP.Core.i2f
  rw [UInt32.toNat_ofNat_of_lt' (hf a), UInt32.toNat_ofNat_of_lt' (hf b)]
  have : fx_NN FP.Core.b32 (FP.Core.div FP.Core.b32 (FP.Core.fromInt FP.Core.b32 a.toInt) (FP.Core.fromInt FP.Core.b32 b.toInt)) := by
    unfold FP.Core.div
    rw [e, e2]
    unfold FP.Core.quotient
    simp only [if_neg (show ¬ d = 0 by omega)]
    exact fx_nn_ratio fx_b32t (by decide) (by decide)
  rw [UInt32.toNat_ofNat_of_lt' (fx_nn_b32 this).1]
  exact this
theorem fx_f2d_g {x : UInt32} (h : fx_NN FP.Core.b32 x.toNat) : FP.f2d x &&& 0x7fffffffffffffff ≤ 0x7ff0000000000000 := by
  unfold FP.f2d
  have : FP.Core.fIsNaN x = false := by
    unfold FP.Core.fIsNaN FP.Core.isNaN
    exact decide_eq_false (fx_nn_dec h (by decide) (by decide))
  rw [this, if_neg (by decide)]
  exact fx_and63 _ (fx_nn_b64 (fx_f2d_nn h)).2
section CL
variable {m : Mm} {r : Nat → Int} {W H n : Nat}
theorem sm_add {g h : Nat → Int} : ∀ {N : Nat}, sm (fun k => g k + h k) N = sm g N + sm h N
  | 0 => rfl
  | N + 1 => by
    unfold sm
    rw [sm_add (N := N)]
    omega
noncomputable def share_ (x y : Int32) : UInt32 := if x = 0 then FP.fconst0 else FP.fdiv (FP.i2f (x - y)) (FP.i2f x)
theorem P_31 (hn : n ≤ 512) (hI : Inv n m) : An (d_153 20 m) (fun v => (FP.f2d v) &&& 0x7fffffffffffffff ≤ 0x7ff0000000000000 ∧ An (d_273 249 m) (fun r => v = r.1 ∧ Inv (n + 1) r.2)) := by
  obtain ⟨r, W, H, hG⟩ := hI.2.2.1
  have h13 := hG.2.1.2.2.2.2.2.2.2.1
  have hL := hG.2.2.2.2.2.1
  have hl : lA 38 := (gA_F gA_23).2.2.2.2.2.2.2.2.1
  have hm : ∀ k : Nat, k < 584 → wr m 249 0 (zI 0) 250 k = zI (r k) := fun k hk => by rw [wr_ne (by decide)]; exact hG.1 k hk
  have c2 := c73 hl hL h13.1 h13.2 (j := 2) (by decide) (by decide)
  have c5 := c73 hl hL h13.1 h13.2 (j := 5) (by decide) (by decide)
  have c3 := c73 hl hL h13.1 h13.2 (j := 3) (by decide) (by decide)
  have c6 := c73 hl hL h13.1 h13.2 (j := 6) (by decide) (by decide)
  have nn : ∀ x y : Int32, x ≠ 0 → fx_NN FP.Core.b32 (FP.fdiv (FP.i2f (x - y)) (FP.i2f x)).toNat := fun x y h => fx_fdiv_g (fun q => h (Int32.toInt_inj.1 (q.trans (by decide))))
  have nn2 : ∀ x y : Int32, x ≠ 0 → (FP.fdiv (FP.i2f (x - y)) (FP.i2f x)) &&& 0x7fffffff ≤ 0x7f800000 := fun x y h => fx_and31 _ (fx_nn_b32 (nn x y h)).2
  generalize hX : zI (sm (fun k => r (304 + 8 * k + 2) + r (304 + 8 * k + 5)) (r 13).toNat) = X
  generalize hY : zI (sm (fun k => r (304 + 8 * k + 3) + r (304 + 8 * k + 6)) (r 13).toNat) = Y
  have eC : d_153 20 m = some (share_ X Y) := by
    unfold d_153 share_
    rw [log_s, zl_2, zl_5, zl_3, zl_6, show zI 2 = zI ((2 : Nat) : Int) from rfl, c2, show zI 5 = zI ((5 : Nat) : Int) from rfl, c5, show zI 3 = zI ((3 : Nat) : Int) from rfl, c3, show zI 6 = zI ((6 : Nat) : Int) from rfl, c6]
    simp only [obs, wbs, zI_add, zI_sub]
    rw [← sm_add, hX]
    have : zI (sm (fun k => r (304 + 8 * k + 2) + r (304 + 8 * k + 5)) (r 13).toNat - sm (fun k => r (304 + 8 * k + 3)) (r 13).toNat - sm (fun k => r (304 + 8 * k + 6)) (r 13).toNat) = X - Y := by
      rw [← hX, ← hY, zI_sub, sm_add (g := fun k => r (304 + 8 * k + 3))]
      congr 1
      omega
    rw [this]
    by_cases q : X = 0
    · rw [if_neg (fun h => h q), if_pos q]
    · rw [if_pos q, if_neg q, if_pos (nn2 X Y q)]
  have eM : d_273 249 m = some (share_ X Y, wr m 249 0 0) := by
    unfold d_273
    rw [wbs, zl_0]
    unfold d_273_11
    refine it_row (fun k => (zI (sm (fun k => r (304 + 8 * k + 2) + r (304 + 8 * k + 5)) k), zI (sm (fun k => r (304 + 8 * k + 3) + r (304 + 8 * k + 6)) k), zI ((k : Nat) : Int))) _ (r 13).toNat (fun k hk => ?_) ?_
    · show s_273_11 249 (wr m 249 0 (zI 0)) (zI (sm (fun k => r (304 + 8 * k + 2) + r (304 + 8 * k + 5)) k)) (zI (sm (fun k => r (304 + 8 * k + 3) + r (304 + 8 * k + 6)) k)) (zI ((k : Nat) : Int)) = _
      unfold s_273_11
      rw [m_r1, n_250, if_pos (by decide), show ix (13 : Int32) = 13 from by decide, hm 13 (by decide), if_neg (by rw [zI_le (by omega) (by omega) (by omega) (by omega)]; omega)]
      simp only [wbs, zl_0, zl_1, zl_2, zl_3, zl_4, zl_5, zl_6, zl_7, zl_8, zl_9, zl_10, zl_11, zl_12, zl_13, zl_14, zl_15, zl_16, zl_17, zl_18, zl_19, zl_20, zl_21, zl_22, zl_23, zl_24, zl_25, zl_26, zl_27, zl_28, zl_29, zl_30, zl_31, zl_32, zl_33, zl_34, zl_35, zl_36, zl_37, zl_38, zl_39, zl_40, zl_41, zl_42, zl_43, zl_44, zl_45, zl_46, zl_47, zl_48, zl_49, zl_50, zl_51, zl_52, zl_53, zl_54, zl_55, zl_56, zl_57, zl_58, zl_59, zl_60, zl_61, zl_62, zl_63, zl_64, zl_88, zl_97, zl_99, zl_120, zl_122, zl_150, zl_152, zl_200, zl_255, zl_264, zl_280, zl_304, zl_464, zl_584, zl_600, zl_837, zl_999, zl_1000, zl_4088, zl_9999, zl_99999, zI_mul, zI_add]
      rw [show (304 : Int) + 8 * (k : Nat) + 2 = ((304 + 8 * k + 2 : Nat) : Int) by omega, show (304 : Int) + 8 * (k : Nat) + 5 = ((304 + 8 * k + 5 : Nat) : Int) by omega, show (304 : Int) + 8 * (k : Nat) + 3 = ((304 + 8 * k + 3 : Nat) : Int) by omega, show (304 : Int) + 8 * (k : Nat) + 6 = ((304 + 8 * k + 6 : Nat) : Int) by omega, if_pos (in_k (by omega) (by decide)), if_pos (in_k (by omega) (by decide)), if_pos (in_k (by omega) (by decide)), if_pos (in_k (by omega) (by decide)), z_ix (by omega), z_ix (by omega), z_ix (by omega), z_ix (by omega), hm _ (by omega), hm _ (by omega), hm _ (by omega), hm _ (by omega)]
      simp only [zI_add, Int.add_assoc]
      rfl
    · show s_273_11 249 (wr m 249 0 (zI 0)) (zI (sm (fun k => r (304 + 8 * k + 2) + r (304 + 8 * k + 5)) (r 13).toNat)) (zI (sm (fun k => r (304 + 8 * k + 3) + r (304 + 8 * k + 6)) (r 13).toNat)) (zI (((r 13).toNat : Nat) : Int)) = _
      unfold s_273_11 d_273_83
      rw [m_r1, n_250, if_pos (by decide), show ix (13 : Int32) = 13 from by decide, hm 13 (by decide), if_pos (by rw [zI_le (by omega) (by omega) (by omega) (by omega)]; omega), hX, hY]
      unfold share_
      by_cases q : X = 0
      · rw [if_neg (fun h => h q), if_pos q]
        rfl
      · rw [if_pos q, if_neg q, if_pos (nn2 X Y q)]
        rfl
  rw [eC]
  refine An.so ⟨?_, ?_⟩
  · unfold share_
    by_cases q : X = 0
    · rw [if_pos q]
      decide +kernel
    · rw [if_neg q]
      exact fx_f2d_g (nn X Y q)
  · rw [eM]
    exact An.so ⟨rfl, hI.q Qe.told⟩
end CL
