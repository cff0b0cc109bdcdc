/-! Quotients of whole numbers are no NaN. -/

theorem fx_as_T {f : FP.Core.Fmt} {s : Bool} {e t : Nat} (ht : t < f.tails) : FP.Core.fieldT f (FP.Core.assemble f s e t) = t := by
  unfold FP.Core.fieldT FP.Core.assemble
  rw [Nat.mul_comm, Nat.mul_add_mod, Nat.mod_eq_of_lt ht]
theorem fx_as_E {f : FP.Core.Fmt} {s : Bool} {e t : Nat} (ht : t < f.tails) (he : e < f.exps) : FP.Core.fieldE f (FP.Core.assemble f s e t) = e := by
  unfold FP.Core.fieldE FP.Core.assemble
  rw [Nat.mul_comm, Nat.mul_add_div (by omega), Nat.div_eq_of_lt ht, Nat.add_zero, Nat.mul_comm, Nat.mul_add_mod, Nat.mod_eq_of_lt he]

/-- a whole number of at most p digits is kept -/
theorem fx_rnd_i {f : FP.Core.Fmt} {i : Nat} (h0 : 0 < i) (h : i < 2 ^ f.p) (hq : f.qmin ≤ 1 - (f.p : Int)) (hx : 0 ≤ f.qmax) :
    ∃ c q, FP.Core.round f (FP.Core.ofInt (i : Int)) = .fin false c q ∧ f.tails ≤ c ∧ c < 2 ^ f.p ∧ f.qmin ≤ q ∧ q ≤ 0 := by
  have hp : i.log2 < f.p := (Nat.log2_lt (by omega)).2 h
  have l1 : 2 ^ i.log2 ≤ i := Nat.log2_self_le (by omega)
  have l2 : i < 2 ^ (i.log2 + 1) := Nat.lt_log2_self
  have le : FP.Core.leading i 1 = (i.log2 : Int) := by
    unfold FP.Core.leading
    have : Nat.log2 1 = 0 := by decide
    simp only [this]
    rw [if_pos (by simp; exact l1)]
    simp
  have qe : FP.Core.quantum f i 1 0 = (i.log2 : Int) - ((f.p : Int) - 1) := by
    unfold FP.Core.quantum
    rw [le]
    omega
  refine ⟨i * 2 ^ (f.p - 1 - i.log2), (i.log2 : Int) - ((f.p : Int) - 1), ?_, ?_, ?_, by omega, by omega⟩
  · unfold FP.Core.round FP.Core.ofInt FP.Core.roundRatio
    have : decide ((i : Int) < 0) = false := decide_eq_false (by omega)
    simp only [this, Int.natAbs_natCast, if_neg (show ¬ i = 0 by omega), qe]
    unfold FP.Core.roundAt FP.Core.unitsNum FP.Core.unitsDen FP.Core.nearest
    have e1 : ((0 : Int) - ((i.log2 : Int) - ((f.p : Int) - 1))).toNat = f.p - 1 - i.log2 := by omega
    have e2 : ((i.log2 : Int) - ((f.p : Int) - 1) - 0).toNat = 0 := by omega
    rw [e1, e2]
    have c1 : i * 2 ^ (f.p - 1 - i.log2) < 2 ^ f.p := by
      have : 2 ^ f.p = 2 ^ (i.log2 + 1) * 2 ^ (f.p - 1 - i.log2) := by rw [← Nat.pow_add]; congr 1; omega
      rw [this]
      exact Nat.mul_lt_mul_of_pos_right l2 (Nat.two_pow_pos _)
    simp only [Nat.pow_zero, Nat.mul_one, Nat.mod_one, Nat.mul_zero, Nat.zero_lt_one, if_true, Nat.div_one]
    unfold FP.Core.settle FP.Core.bound
    rw [if_pos c1, if_pos (by omega)]
  · unfold FP.Core.Fmt.tails
    have : 2 ^ (f.p - 1) = 2 ^ i.log2 * 2 ^ (f.p - 1 - i.log2) := by rw [← Nat.pow_add]; congr 1; omega
    rw [this]
    exact Nat.mul_le_mul_right _ l1
  · have : 2 ^ f.p = 2 ^ (i.log2 + 1) * 2 ^ (f.p - 1 - i.log2) := by rw [← Nat.pow_add]; congr 1; omega
    rw [this]
    exact Nat.mul_lt_mul_of_pos_right l2 (Nat.two_pow_pos _)

/-- what is rounded is no NaN: its encoding keeps below -/
def fx_NN (f : FP.Core.Fmt) (n : Nat) : Prop := ∃ s e t, n = FP.Core.assemble f s e t ∧ (e < f.exps - 1 ∧ t < f.tails ∨ e = f.exps - 1 ∧ t = 0)

theorem fx_nn_settle {f : FP.Core.Fmt} {s : Bool} {c : Nat} {q : Int} (ht : 2 ^ f.p = 2 * f.tails) (h0 : 0 < f.tails) (hm : (f.qmax - f.qmin).toNat + 2 < f.exps) : fx_NN f (FP.Core.encode f (FP.Core.settle f s c q)) := by
  have key : ∀ (c : Nat) (q : Int), c < 2 ^ f.p → fx_NN f (FP.Core.encode f (FP.Core.bound f s c q)) := by
    intro c q hc
    unfold FP.Core.bound
    by_cases h : q ≤ f.qmax
    · rw [if_pos h]
      unfold FP.Core.encode
      by_cases h2 : c < f.tails
      · simp only [if_pos h2]
        exact ⟨s, 0, c, rfl, Or.inl ⟨by omega, h2⟩⟩
      · simp only [if_neg h2]
        exact ⟨s, _, _, rfl, Or.inl ⟨by omega, by omega⟩⟩
    · rw [if_neg h]
      exact ⟨s, _, 0, rfl, Or.inr ⟨rfl, rfl⟩⟩
  unfold FP.Core.settle
  by_cases h : c < 2 ^ f.p
  · rw [if_pos h]; exact key c q h
  · rw [if_neg h]; exact key _ _ (by omega)

theorem fx_nn_ratio {f : FP.Core.Fmt} {s : Bool} {c d : Nat} {e : Int} (ht : 2 ^ f.p = 2 * f.tails) (h0 : 0 < f.tails) (hm : (f.qmax - f.qmin).toNat + 2 < f.exps) : fx_NN f (FP.Core.encode f (FP.Core.roundRatio f s c d e)) := by
  unfold FP.Core.roundRatio FP.Core.roundAt
  by_cases h : c = 0
  · rw [if_pos h]
    unfold FP.Core.encode
    simp only [if_pos h0]
    exact ⟨s, 0, 0, rfl, Or.inl ⟨by omega, h0⟩⟩
  · rw [if_neg h]
    exact fx_nn_settle ht h0 hm

/-- a whole number's encoding, read again -/
theorem fx_dec_i {f : FP.Core.Fmt} {i : Nat} (h : i < 2 ^ f.p) (hq : f.qmin ≤ 1 - (f.p : Int)) (hx : 0 ≤ f.qmax) (ht : 2 ^ f.p = 2 * f.tails) (h0 : 0 < f.tails) (hm : (0 - f.qmin).toNat + 2 < f.exps) :
    ∃ c q, FP.Core.decode f (FP.Core.fromInt f (i : Int)) = .fin false c q ∧ (c = 0 ↔ i = 0) := by
  by_cases hi : i = 0
  · subst hi
    have : FP.Core.fromInt f ((0 : Nat) : Int) = FP.Core.assemble f false 0 0 := by
      unfold FP.Core.fromInt FP.Core.ofInt FP.Core.round FP.Core.roundRatio FP.Core.encode
      simp [h0]
    rw [this]
    unfold FP.Core.decode
    rw [fx_as_T h0, fx_as_E h0 (by omega), if_neg (by omega), if_pos rfl]
    have : FP.Core.fieldS f (FP.Core.assemble f false 0 0) = false := by
      unfold FP.Core.fieldS FP.Core.assemble
      simp
    rw [this]
    exact ⟨0, _, rfl, by simp⟩
  · obtain ⟨c, q, e, c1, c2, q1, q2⟩ := fx_rnd_i (by omega) h hq hx
    have : FP.Core.fromInt f (i : Int) = FP.Core.assemble f false ((q - f.qmin).toNat + 1) (c - f.tails) := by
      unfold FP.Core.fromInt
      rw [e]
      unfold FP.Core.encode
      simp only [if_neg (show ¬ c < f.tails by omega)]
    rw [this]
    unfold FP.Core.decode
    rw [fx_as_T (by omega), fx_as_E (by omega) (by omega), if_neg (by omega), if_neg (by omega)]
    have : FP.Core.fieldS f (FP.Core.assemble f false ((q - f.qmin).toNat + 1) (c - f.tails)) = false := by
      unfold FP.Core.fieldS FP.Core.assemble
      rw [Nat.mul_comm, Nat.mul_add_div (by omega), Nat.div_eq_of_lt (show c - f.tails < f.tails by omega)]
      simp only [Bool.toNat_false, Nat.zero_mul, Nat.zero_add, Nat.add_zero]
      rw [Nat.div_eq_of_lt (by omega)]
      rfl
    rw [this]
    exact ⟨_, _, rfl, by omega⟩

theorem fx_nn_div {f : FP.Core.Fmt} {i j : Nat} (hi : i < 2 ^ f.p) (hj : j < 2 ^ f.p) (j0 : j ≠ 0) (hq : f.qmin ≤ 1 - (f.p : Int)) (hx : 0 ≤ f.qmax) (ht : 2 ^ f.p = 2 * f.tails) (h0 : 0 < f.tails) (hm : (f.qmax - f.qmin).toNat + 2 < f.exps) :
    fx_NN f (FP.Core.div f (FP.Core.fromInt f (i : Int)) (FP.Core.fromInt f (j : Int))) := by
  obtain ⟨c, q, e, z⟩ := fx_dec_i hi hq hx ht h0 (by omega)
  obtain ⟨d, r, e2, z2⟩ := fx_dec_i hj hq hx ht h0 (by omega)
  unfold FP.Core.div
  rw [e, e2]
  unfold FP.Core.quotient
  simp only [if_neg (show ¬ d = 0 by omega)]
  exact fx_nn_ratio ht h0 hm

theorem fx_nn_b32 {n : Nat} (h : fx_NN FP.Core.b32 n) : n < 2 ^ 32 ∧ n % 2 ^ 31 ≤ 0x7f800000 := by
  obtain ⟨s, e, t, q, w⟩ := h
  have h1 : FP.Core.b32.exps = 256 := by decide
  have h2 : FP.Core.b32.tails = 2 ^ 23 := by decide
  unfold FP.Core.assemble at q
  rw [h1, h2] at q w
  cases s <;> simp at q <;> omega
theorem fx_nn_b64 {n : Nat} (h : fx_NN FP.Core.b64 n) : n < 2 ^ 64 ∧ n % 2 ^ 63 ≤ 0x7ff0000000000000 := by
  obtain ⟨s, e, t, q, w⟩ := h
  have h1 : FP.Core.b64.exps = 2048 := by decide
  have h2 : FP.Core.b64.tails = 2 ^ 52 := by decide
  unfold FP.Core.assemble at q
  rw [h1, h2] at q w
  cases s <;> simp at q <;> omega
theorem fx_i32 (a : Int32) (h : 0 ≤ a.toInt) : a.toInt = ((a.toInt.toNat : Nat) : Int) := by omega

theorem fx_and31 (x : UInt32) (h : x.toNat % 2 ^ 31 ≤ 0x7f800000) : x &&& 0x7fffffff ≤ 0x7f800000 := by
  rw [UInt32.le_iff_toNat_le, UInt32.toNat_and, show (0x7fffffff : UInt32).toNat = 2 ^ 31 - 1 from rfl, Nat.and_two_pow_sub_one_eq_mod]
  exact h
theorem fx_and63 (x : UInt64) (h : x.toNat % 2 ^ 63 ≤ 0x7ff0000000000000) : x &&& 0x7fffffffffffffff ≤ 0x7ff0000000000000 := by
  rw [UInt64.le_iff_toNat_le, UInt64.toNat_and, show (0x7fffffffffffffff : UInt64).toNat = 2 ^ 63 - 1 from rfl, Nat.and_two_pow_sub_one_eq_mod]
  exact h

theorem fx_b32t : 2 ^ FP.Core.b32.p = 2 * FP.Core.b32.tails := by decide
theorem fx_b64t : 2 ^ FP.Core.b64.p = 2 * FP.Core.b64.tails := by decide

theorem fx_fi_n {i : Nat} : FP.Core.fromInt FP.Core.b32 (i : Int) < 2 ^ 32 := by
  have : fx_NN FP.Core.b32 (FP.Core.fromInt FP.Core.b32 (i : Int)) := by
    unfold FP.Core.fromInt FP.Core.ofInt FP.Core.round
    exact fx_nn_ratio fx_b32t (by decide) (by decide)
  exact (fx_nn_b32 this).1
theorem fx_di_n {i : Nat} : FP.Core.fromInt FP.Core.b64 (i : Int) < 2 ^ 64 := by
  have : fx_NN FP.Core.b64 (FP.Core.fromInt FP.Core.b64 (i : Int)) := by
    unfold FP.Core.fromInt FP.Core.ofInt FP.Core.round
    exact fx_nn_ratio fx_b64t (by decide) (by decide)
  exact (fx_nn_b64 this).1

theorem fx_fdiv_nn {a b : Int32} (ha : 0 ≤ a.toInt) (ha2 : a.toInt < 2 ^ 24) (hb : 0 < b.toInt) (hb2 : b.toInt < 2 ^ 24) :
    fx_NN FP.Core.b32 (FP.Core.fdiv (FP.Core.i2f a) (FP.Core.i2f b)).toNat := by
  unfold FP.Core.fdiv FP.Core.i2f
  rw [fx_i32 a ha, fx_i32 b (by omega), UInt32.toNat_ofNat_of_lt' fx_fi_n, UInt32.toNat_ofNat_of_lt' fx_fi_n]
  have := fx_nn_div (f := FP.Core.b32) (i := a.toInt.toNat) (j := b.toInt.toNat) (show _ < 2 ^ 24 by omega) (show _ < 2 ^ 24 by omega) (by omega) (by decide) (by decide) fx_b32t (by decide) (by decide)
  rw [UInt32.toNat_ofNat_of_lt' (fx_nn_b32 this).1]
  exact this
theorem fx_ddiv_nn {a b : Int32} (ha : 0 ≤ a.toInt) (hb : 0 < b.toInt) :
    fx_NN FP.Core.b64 (FP.Core.ddiv (FP.Core.i2d a) (FP.Core.i2d b)).toNat := by
  have a2 := Int32.toInt_lt a
  have b2 := Int32.toInt_lt b
  unfold FP.Core.ddiv FP.Core.i2d
  rw [fx_i32 a ha, fx_i32 b (by omega), UInt64.toNat_ofNat_of_lt' fx_di_n, UInt64.toNat_ofNat_of_lt' fx_di_n]
  have := fx_nn_div (f := FP.Core.b64) (i := a.toInt.toNat) (j := b.toInt.toNat) (show _ < 2 ^ 53 by omega) (show _ < 2 ^ 53 by omega) (by omega) (by decide) (by decide) fx_b64t (by decide) (by decide)
  rw [UInt64.toNat_ofNat_of_lt' (fx_nn_b64 this).1]
  exact this
/-- what no NaN is, decoded -/
theorem fx_nn_dec {f : FP.Core.Fmt} {n : Nat} (h : fx_NN f n) (h0 : 0 < f.tails) (h1 : 1 < f.exps) : FP.Core.decode f n ≠ .nan := by
  obtain ⟨s, e, t, q, w⟩ := h
  rw [q]
  unfold FP.Core.decode
  rcases w with ⟨w1, w2⟩ | ⟨w1, w2⟩
  · rw [fx_as_T w2, fx_as_E w2 (by omega), if_neg (by omega)]
    split <;> simp
  · rw [fx_as_T (by omega), fx_as_E (by omega) (by omega), if_pos w1, if_pos w2]
    simp
/-- seven more of the double's bits -/
theorem fx_f2d_nn {x : UInt32} (h : fx_NN FP.Core.b32 x.toNat) : fx_NN FP.Core.b64 (FP.Core.f2d x).toNat := by
  have hd := fx_nn_dec h (by decide) (by decide)
  have : fx_NN FP.Core.b64 (FP.Core.convert FP.Core.b32 FP.Core.b64 x.toNat) := by
    unfold FP.Core.convert
    cases hc : FP.Core.decode FP.Core.b32 x.toNat with
    | nan => exact absurd hc hd
    | inf s =>
      unfold FP.Core.round FP.Core.encode
      exact ⟨s, _, 0, rfl, Or.inr ⟨rfl, rfl⟩⟩
    | fin s c q =>
      unfold FP.Core.round
      exact fx_nn_ratio fx_b64t (by decide) (by decide)
  unfold FP.Core.f2d
  rw [UInt64.toNat_ofNat_of_lt' (fx_nn_b64 this).1]
  exact this
section CK
variable {m : Mm} {r : Nat → Int} {W H n : Nat}
def sm (g : Nat → Int) : Nat → Int
  | 0 => 0
  | k + 1 => sm g k + g k
theorem sm_r {g : Nat → Int} {c : Int} : ∀ {N : Nat}, (∀ k, k < N → 0 ≤ g k ∧ g k ≤ c) → 0 ≤ sm g N ∧ sm g N ≤ c * N
  | 0, _ => by simp [sm]
  | N + 1, h => by
    have h1 := sm_r (N := N) (fun k hk => h k (by omega))
    have h2 := h N (by omega)
    have : c * ((N + 1 : Nat) : Int) = c * N + c := by rw [Int.natCast_succ, Int.mul_add, Int.mul_one]
    unfold sm
    omega
theorem c73 {q : Nat} {N c : Int} {J : Nat} {P : Nat → Nat → Int} (hq : lA q) (h : LV m q N c J P) (h0 : 0 ≤ N) (hN : N ≤ 20) {j : Nat} (hj : j < J) (hJ : J ≤ 8) : d_73 q (zI (j : Nat)) m = some (zI (sm (fun k => P k j) N.toNat)) := by
  unfold d_73 d_73_4
  rw [zl_0]
  refine it_row (fun k => (zI (sm (fun k => P k j) k), zI ((k : Nat) : Int))) _ N.toNat (fun k hk => ?_) ?_
  · show s_73_4 q (zI (j : Nat)) m (zI (sm (fun k => P k j) k)) (zI ((k : Nat) : Int)) = _
    unfold s_73_4
    rw [h.1, if_neg (by rw [zI_le (by omega) (by omega) (by omega) (by omega)]; omega), c72 hq h hN (by omega) hj hJ]
    simp only [obs, wbs, zl_1, zI_add]
    rfl
  · show s_73_4 q (zI (j : Nat)) m (zI (sm (fun k => P k j) N.toNat)) (zI ((N.toNat : Nat) : Int)) = _
    unfold s_73_4
    rw [h.1, if_pos (by rw [zI_le (by omega) (by omega) (by omega) (by omega)]; omega)]
noncomputable def mean_ (S N : Int) : UInt64 := if N = 0 then FP.dconst0 else FP.ddiv (FP.i2d (zI S)) (FP.i2d (zI N))
end CK
