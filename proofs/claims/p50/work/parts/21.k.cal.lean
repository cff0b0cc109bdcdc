/-! Shares: any whole number made a float is a number, and none but zero is made zero. -/
theorem fx_rnd_g {f : FP.Core.Fmt} {s : Bool} {i : Nat} (h0 : 0 < i) (hp1 : 1 ≤ f.p) (hq : f.qmin ≤ 1 - (f.p : Int)) (hx : 0 ≤ f.qmax) (hy : (i.log2 : Int) + 2 - (f.p : Int) ≤ f.qmax) :
    ∃ c q, FP.Core.roundRatio f s i 1 0 = .fin s c q ∧ f.tails ≤ c ∧ c < 2 ^ f.p ∧ f.qmin ≤ q ∧ q ≤ f.qmax := by
  have l1 : 2 ^ i.log2 ≤ i := Nat.log2_self_le (by omega)
  have l2 : i < 2 ^ (i.log2 + 1) := Nat.lt_log2_self
  have le : FP.Core.leading i 1 = (i.log2 : Int) := by
    unfold FP.Core.leading
    have : Nat.log2 1 = 0 := by decide
    simp only [this]
    rw [if_pos (by simp; exact l1)]
    simp
  have qe : FP.Core.quantum f i 1 0 = (i.log2 : Int) - ((f.p : Int) - 1) := by
    unfold FP.Core.quantum
    rw [le]
    by_cases h : f.qmin ≤ (i.log2 : Int) - ((f.p : Int) - 1) <;> omega
  have tp : 2 ^ f.p = 2 * f.tails := by
    unfold FP.Core.Fmt.tails
    rw [← Nat.pow_succ']; congr 1; omega
  have t0 : 0 < f.tails := Nat.two_pow_pos _
  unfold FP.Core.roundRatio FP.Core.roundAt FP.Core.unitsNum FP.Core.unitsDen
  rw [if_neg (show ¬ i = 0 by omega), qe]
  by_cases hp : i.log2 < f.p
  · have e1 : ((0 : Int) - ((i.log2 : Int) - ((f.p : Int) - 1))).toNat = f.p - 1 - i.log2 := by omega
    have e2 : ((i.log2 : Int) - ((f.p : Int) - 1) - 0).toNat = 0 := by omega
    have c1 : i * 2 ^ (f.p - 1 - i.log2) < 2 ^ f.p := by
      have : 2 ^ f.p = 2 ^ (i.log2 + 1) * 2 ^ (f.p - 1 - i.log2) := by rw [← Nat.pow_add]; congr 1; omega
      rw [this]
      exact Nat.mul_lt_mul_of_pos_right l2 (Nat.two_pow_pos _)
    have c2 : f.tails ≤ i * 2 ^ (f.p - 1 - i.log2) := by
      unfold FP.Core.Fmt.tails
      have : 2 ^ (f.p - 1) = 2 ^ i.log2 * 2 ^ (f.p - 1 - i.log2) := by rw [← Nat.pow_add]; congr 1; omega
      rw [this]
      exact Nat.mul_le_mul_right _ l1
    rw [e1, e2]
    refine ⟨_, (i.log2 : Int) - ((f.p : Int) - 1), ?_, c2, c1, by omega, by omega⟩
    unfold FP.Core.nearest
    simp only [Nat.pow_zero, Nat.mul_one, Nat.mod_one, Nat.mul_zero, Nat.zero_lt_one, if_true, Nat.div_one]
    unfold FP.Core.settle FP.Core.bound
    rw [if_pos c1, if_pos (by omega)]
  · have e1 : ((0 : Int) - ((i.log2 : Int) - ((f.p : Int) - 1))).toNat = 0 := by omega
    have e2 : ((i.log2 : Int) - ((f.p : Int) - 1) - 0).toNat = i.log2 - (f.p - 1) := by omega
    rw [e1, e2]
    have dp : 0 < 2 ^ (i.log2 - (f.p - 1)) := Nat.two_pow_pos _
    have d1 : f.tails ≤ i / 2 ^ (i.log2 - (f.p - 1)) := by
      rw [Nat.le_div_iff_mul_le dp]
      unfold FP.Core.Fmt.tails
      rw [← Nat.pow_add, show f.p - 1 + (i.log2 - (f.p - 1)) = i.log2 by omega]
      exact l1
    have d2 : i / 2 ^ (i.log2 - (f.p - 1)) < 2 ^ f.p := by
      rw [Nat.div_lt_iff_lt_mul dp, ← Nat.pow_add, show f.p + (i.log2 - (f.p - 1)) = i.log2 + 1 by omega]
      exact l2
    have n1 : i / 2 ^ (i.log2 - (f.p - 1)) ≤ FP.Core.nearest (i * 2 ^ 0) (1 * 2 ^ (i.log2 - (f.p - 1))) ∧ FP.Core.nearest (i * 2 ^ 0) (1 * 2 ^ (i.log2 - (f.p - 1))) ≤ i / 2 ^ (i.log2 - (f.p - 1)) + 1 := by
      unfold FP.Core.nearest
      simp only [Nat.pow_zero, Nat.mul_one, Nat.one_mul]
      generalize i / 2 ^ (i.log2 - (f.p - 1)) = D
      split
      · omega
      · split <;> omega
    generalize FP.Core.nearest (i * 2 ^ 0) (1 * 2 ^ (i.log2 - (f.p - 1))) = c at n1
    unfold FP.Core.settle FP.Core.bound
    by_cases h : c < 2 ^ f.p
    · rw [if_pos h, if_pos (by omega)]
      exact ⟨c, _, rfl, by omega, h, by omega, by omega⟩
    · rw [if_neg h, if_pos (by omega)]
      exact ⟨_, _, rfl, Nat.le_refl _, by omega, by omega, by omega⟩
theorem fx_dec_g {f : FP.Core.Fmt} {i : Int} (hp1 : 1 ≤ f.p) (hq : f.qmin ≤ 1 - (f.p : Int)) (hx : 0 ≤ f.qmax) (hy : (i.natAbs.log2 : Int) + 2 - (f.p : Int) ≤ f.qmax) (h0 : 0 < f.tails) (ht : 2 ^ f.p = 2 * f.tails) (hm : (f.qmax - f.qmin).toNat + 2 < f.exps) :
    ∃ s c q, FP.Core.decode f (FP.Core.fromInt f i) = .fin s c q ∧ (c = 0 ↔ i = 0) := by
  unfold FP.Core.fromInt FP.Core.ofInt FP.Core.round
  by_cases hi : i.natAbs = 0
  · simp only [hi]
    unfold FP.Core.roundRatio FP.Core.encode
    simp only [if_pos h0, if_true]
    unfold FP.Core.decode
    rw [fx_as_T h0, fx_as_E h0 (by omega), if_neg (by omega), if_pos rfl]
    exact ⟨_, 0, _, rfl, by omega⟩
  · obtain ⟨c, q, e, c1, c2, q1, q2⟩ := fx_rnd_g (f := f) (s := decide (i < 0)) (i := i.natAbs) (by omega) hp1 hq hx hy
    simp only [e]
    unfold FP.Core.encode
    simp only [if_neg (show ¬ c < f.tails by omega)]
    unfold FP.Core.decode
    rw [fx_as_T (by omega), fx_as_E (by omega) (by omega), if_neg (by omega), if_neg (by omega)]
    exact ⟨_, _, _, rfl, by omega⟩
theorem fx_fdiv_g {a b : Int32} (hb : b.toInt ≠ 0) : fx_NN FP.Core.b32 (FP.Core.fdiv (FP.Core.i2f a) (FP.Core.i2f b)).toNat := by
  have lg : ∀ c : Int32, ((c.toInt.natAbs.log2 : Nat) : Int) + 2 - (FP.Core.b32.p : Int) ≤ FP.Core.b32.qmax := fun c => by
    have h1 := c.toInt_lt
    have h2 := c.le_toInt
    have hx : FP.Core.b32.qmax = 104 := by decide
    have hp : FP.Core.b32.p = 24 := rfl
    have : c.toInt.natAbs.log2 < 33 := by
      by_cases h : c.toInt.natAbs = 0
      · rw [h]; decide
      · exact (Nat.log2_lt h).2 (by omega)
    rw [hx, hp]
    omega
  obtain ⟨s, c, q, e, z⟩ := fx_dec_g (f := FP.Core.b32) (i := a.toInt) (by decide) (by decide) (by decide) (lg a) (by decide) fx_b32t (by decide)
  obtain ⟨t, d, u, e2, z2⟩ := fx_dec_g (f := FP.Core.b32) (i := b.toInt) (by decide) (by decide) (by decide) (lg b) (by decide) fx_b32t (by decide)
  have hf : ∀ c : Int32, FP.Core.fromInt FP.Core.b32 c.toInt < 2 ^ 32 := fun c => by
    have : fx_NN FP.Core.b32 (FP.Core.fromInt FP.Core.b32 c.toInt) := by
      unfold FP.Core.fromInt FP.Core.ofInt FP.Core.round
      exact fx_nn_ratio fx_b32t (by decide) (by decide)
    exact (fx_nn_b32 this).1
  unfold FP.Core.fdiv FP.Core.i2f
  rw [UInt32.toNat_ofNat_of_lt' (hf a), UInt32.toNat_ofNat_of_lt' (hf b)]
  have : fx_NN FP.Core.b32 (FP.Core.div FP.Core.b32 (FP.Core.fromInt FP.Core.b32 a.toInt) (FP.Core.fromInt FP.Core.b32 b.toInt)) := by
    unfold FP.Core.div
    rw [e, e2]
    unfold FP.Core.quotient
    simp only [if_neg (show ¬ d = 0 by omega)]
    exact fx_nn_ratio fx_b32t (by decide) (by decide)
  rw [UInt32.toNat_ofNat_of_lt' (fx_nn_b32 this).1]
  exact this
theorem fx_f2d_g {x : UInt32} (h : fx_NN FP.Core.b32 x.toNat) : FP.f2d x &&& 0x7fffffffffffffff ≤ 0x7ff0000000000000 := by
  unfold FP.f2d
  have : FP.Core.fIsNaN x = false := by
    unfold FP.Core.fIsNaN FP.Core.isNaN
    exact decide_eq_false (fx_nn_dec h (by decide) (by decide))
  rw [this, if_neg (by decide)]
  exact fx_and63 _ (fx_nn_b64 (fx_f2d_nn h)).2
section CL
variable {m : Mm} {r : Nat → Int} {W H n : Nat}
theorem sm_add {g h : Nat → Int} : ∀ {N : Nat}, sm (fun k => g k + h k) N = sm g N + sm h N
  | 0 => rfl
  | N + 1 => by
    unfold sm
    rw [sm_add (N := N)]
    omega
noncomputable def share_ (x y : Int32) : UInt32 := if x = 0 then FP.fconst0 else FP.fdiv (FP.i2f (x - y)) (FP.i2f x)
end CL
