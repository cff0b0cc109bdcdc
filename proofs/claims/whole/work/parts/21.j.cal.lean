/-! Quotients of whole numbers are no NaN. -/

theorem fx_as_T {f : FP.Core.Fmt} {s : Bool} {e t : Nat} (ht : t < f.tails) : FP.Core.fieldT f (FP.Core.assemble f s e t) = t := by
  unfold FP.Core.fieldT FP.Core.assemble
  rw [Nat.mul_comm, Nat.mul_add_mod, Nat.mod_eq_of_lt ht]
theorem fx_as_E {f : FP.Core.Fmt} {s : Bool} {e t : Nat} (ht : t < f.tails) (he : e < f.exps) : FP.Core.fieldE f (FP.Core.assemble f s e t) = e := by
  unfold FP.Core.fieldE FP.Core.assemble
  rw [Nat.mul_comm, Nat.mul_add_div (by omega), Nat.div_eq_of_lt ht, Nat.add_zero, Nat.mul_comm, Nat.mul_add_mod, Nat.mod_eq_of_lt he]

/-- a whole number of at most p digits is kept -/
theorem fx_rnd_i {f : FP.Core.Fmt} {i : Nat} (h0 : 0 < i) (h : i < 2 ^ f.p) (hq : f.qmin ≤ 1 - (f.p : Int)) (hx : 0 ≤ f.qmax) :
    ∃ c q, FP.Core.round f (FP.Core.ofInt (i : Int)) = .fin false c q ∧ f.tails ≤ c ∧ c < 2 ^ f.p ∧ f.qmin ≤ q ∧ q ≤ 0 := by
  have hp : i.log2 < f.p := (Nat.log2_lt (by omega)).2 h
  have l1 : 2 ^ i.log2 ≤ i := Nat.log2_self_le (by omega)
  have l2 : i < 2 ^ (i.log2 + 1) := Nat.lt_log2_self
  have le : FP.Core.leading i 1 = (i.log2 : Int) := by
    unfold FP.Core.leading
    have : Nat.log2 1 = 0 := by decide
    simp only [this]
    rw [if_pos (by simp; exact l1)]
    simp
  have qe : FP.Core.quantum f i 1 0 = (i.log2 : Int) - ((f.p : Int) - 1) := by
    unfold FP.Core.quantum
    rw [le]
    omega
  refine ⟨i * 2 ^ (f.p - 1 - i.log2), (i.log2 : Int) - ((f.p : Int) - 1), ?_, ?_, ?_, by omega, by omega⟩
  · unfold FP.Core.round FP.Core.ofInt FP.Core.roundRatio
    have : decide ((i : Int) < 0) = false := decide_eq_false (by omega)
    simp only [this, Int.natAbs_natCast, if_neg (show ¬ i = 0 by omega), qe]
    unfold FP.Core.roundAt FP.Core.unitsNum FP.Core.unitsDen FP.Core.nearest
    have e1 : ((0 : Int) - ((i.log2 : Int) - ((f.p : Int) - 1))).toNat = f.p - 1 - i.log2 := by omega
    have e2 : ((i.log2 : Int) - ((f.p : Int) - 1) - 0).toNat = 0 := by omega
    rw [e1, e2]
    have c1 : i * 2 ^ (f.p - 1 - i.log2) < 2 ^ f.p := by
      have : 2 ^ f.p = 2 ^ (i.log2 + 1) * 2 ^ (f.p - 1 - i.log2) := by rw [← Nat.pow_add]; congr 1; omega
      rw [this]
      exact Nat.mul_lt_mul_of_pos_right l2 (Nat.two_pow_pos _)
    simp only [Nat.pow_zero, Nat.mul_one, Nat.mod_one, Nat.mul_zero, Nat.zero_lt_one, if_true, Nat.div_one]
    unfold FP.Core.settle FP.Core.bound
    rw [if_pos c1, if_pos (by omega)]
  · unfold FP.Core.Fmt.tails
    have : 2 ^ (f.p - 1) = 2 ^ i.log2 * 2 ^ (f.p - 1 - i.log2) := by rw [← Nat.pow_add]; congr 1; omega
    rw [this]
    exact Nat.mul_le_mul_right _ l1
  · have : 2 ^ f.p = 2 ^ (i.log2 + 1) * 2 ^ (f.p - 1 - i.log2) := by rw [← Nat.pow_add]; congr 1; omega
    rw [this]
    exact Nat.mul_lt_mul_of_pos_right l2 (Nat.two_pow_pos _)

/-- what is rounded is no NaN: its encoding keeps below -/
def fx_NN (f : FP.Core.Fmt) (n : Nat) : Prop := ∃ s e t, n = FP.Core.assemble f s e t ∧ (e < f.exps - 1 ∧ t < f.tails ∨ e = f.exps - 1 ∧ t = 0)

theorem fx_nn_settle {f : FP.Core.Fmt} {s : Bool} {c : Nat} {q : Int} (ht : 2 ^ f.p = 2 * f.tails) (h0 : 0 < f.tails) (hm : (f.qmax - f.qmin).toNat + 2 < f.exps) : fx_NN f (FP.Core.encode f (FP.Core.settle f s c q)) := by
  have key : ∀ (c : Nat) (q : Int), c < 2 ^ f.p → fx_NN f (FP.Core.encode f (FP.Core.bound f s c q)) := by
    intro c q hc
    unfold FP.Core.bound
    by_cases h : q ≤ f.qmax
    · rw [if_pos h]
      unfold FP.Core.encode
      by_cases h2 : c < f.tails
      · simp only [if_pos h2]
        exact ⟨s, 0, c, rfl, Or.inl ⟨by omega, h2⟩⟩
      · simp only [if_neg h2]
        exact ⟨s, _, _, rfl, Or.inl ⟨by omega, by omega⟩⟩
    · rw [if_neg h]
      exact ⟨s, _, 0, rfl, Or.inr ⟨rfl, rfl⟩⟩
  unfold FP.Core.settle
  by_cases h : c < 2 ^ f.p
  · rw [if_pos h]; exact key c q h
  · rw [if_neg h]; exact key _ _ (by omega)

theorem fx_nn_ratio {f : FP.Core.Fmt} {s : Bool} {c d : Nat} {e : Int} (ht : 2 ^ f.p = 2 * f.tails) (h0 : 0 < f.tails) (hm : (f.qmax - f.qmin).toNat + 2 < f.exps) : fx_NN f (FP.Core.encode f (FP.Core.roundRatio f s c d e)) := by
  unfold FP.Core.roundRatio FP.Core.roundAt
  by_cases h : c = 0
  · rw [if_pos h]
    unfold FP.Core.encode
    simp only [if_pos h0]
    exact ⟨s, 0, 0, rfl, Or.inl ⟨by omega, h0⟩⟩
  · rw [if_neg h]
    exact fx_nn_settle ht h0 hm

/-- a whole number's encoding, read again -/
theorem fx_dec_i {f : FP.Core.Fmt} {i : Nat} (h : i < 2 ^ f.p) (hq : f.qmin ≤ 1 - (f.p : Int)) (hx : 0 ≤ f.qmax) (ht : 2 ^ f.p = 2 * f.tails) (h0 : 0 < f.tails) (hm : (0 - f.qmin).toNat + 2 < f.exps) :
    ∃ c q, FP.Core.decode f (FP.Core.fromInt f (i : Int)) = .fin false c q ∧ (c = 0 ↔ i = 0) := by
  by_cases hi : i = 0
  · subst hi
    have : FP.Core.fromInt f ((0 : Nat) : Int) = FP.Core.assemble f false 0 0 := by
      unfold FP.Core.fromInt FP.Core.ofInt FP.Core.round FP.Core.roundRatio FP.Core.encode
      simp [h0]
    rw [this]
    unfold FP.Core.decode
    rw [fx_as_T h0, fx_as_E h0 (by omega), if_neg (by omega), if_pos rfl]
    have : FP.Core.fieldS f (FP.Core.assemble f false 0 0) = false := by
      unfold FP.Core.fieldS FP.Core.assemble
      simp
    rw [this]
    exact ⟨0, _, rfl, by simp⟩
  · obtain ⟨c, q, e, c1, c2, q1, q2⟩ := fx_rnd_i (by omega) h hq hx
    have : FP.Core.fromInt f (i : Int) = FP.Core.assemble f false ((q - f.qmin).toNat + 1) (c - f.tails) := by
      unfold FP.Core.fromInt
      rw [e]
      unfold FP.Core.encode
      simp only [if_neg (show ¬ c < f.tails by omega)]
    rw [this]
    unfold FP.Core.decode
    rw [fx_as_T (by omega), fx_as_E (by omega) (by omega), if_neg (by omega), if_neg (by omega)]
    have : FP.Core.fieldS f (FP.Core.assemble f false ((q - f.qmin).toNat + 1) (c - f.tails)) = false := by
      unfold FP.Core.fieldS FP.Core.assemble
      rw [Nat.mul_comm, Nat.mul_add_div (by omega), Nat.div_eq_of_lt (show c - f.tails < f.tails by omega)]
      simp only [Bool.toNat_false, Nat.zero_mul, Nat.zero_add, Nat.add_zero]
      rw [Nat.div_eq_of_lt (by omega)]
      rfl
    rw [this]
    exact ⟨_, _, rfl, by omega⟩

theorem fx_nn_div {f : FP.Core.Fmt} {i j : Nat} (hi : i < 2 ^ f.p) (hj : j < 2 ^ f.p) (j0 : j ≠ 0) (hq : f.qmin ≤ 1 - (f.p : Int)) (hx : 0 ≤ f.qmax) (ht : 2 ^ f.p = 2 * f.tails) (h0 : 0 < f.tails) (hm : (f.qmax - f.qmin).toNat + 2 < f.exps) :
    fx_NN f (FP.Core.div f (FP.Core.fromInt f (i : Int)) (FP.Core.fromInt f (j : Int))) := by
  obtain ⟨c, q, e, z⟩ := fx_dec_i hi hq hx ht h0 (by omega)
  obtain ⟨d, r, e2, z2⟩ := fx_dec_i hj hq hx ht h0 (by omega)
  unfold FP.Core.div
  rw [e, e2]
  unfold FP.Core.quotient
  simp only [if_neg (show ¬ d = 0 by omega)]
  exact fx_nn_ratio ht h0 hm

theorem fx_nn_b32 {n : Nat} (h : fx_NN FP.Core.b32 n) : n < 2 ^ 32 ∧ n % 2 ^ 31 ≤ 0x7f800000 := by
  obtain ⟨s, e, t, q, w⟩ := h
  have h1 : FP.Core.b32.exps = 256 := by decide
  have h2 : FP.Core.b32.tails = 2 ^ 23 := by decide
  unfold FP.Core.assemble at q
  rw [h1, h2] at q w
  cases s <;> simp at q <;> omega
theorem fx_nn_b64 {n : Nat} (h : fx_NN FP.Core.b64 n) : n < 2 ^ 64 ∧ n % 2 ^ 63 ≤ 0x7ff0000000000000 := by
  obtain ⟨s, e, t, q, w⟩ := h
  have h1 : FP.Core.b64.exps = 2048 := by decide
  have h2 : FP.Core.b64.tails = 2 ^ 52 := by decide
  unfold FP.Core.assemble at q
  rw [h1, h2] at q w
  cases s <;> simp at q <;> omega
theorem fx_i32 (a : Int32) (h : 0 ≤ a.toInt) : a.toInt = ((a.toInt.toNat : Nat) : Int) := by omega

theorem fx_and31 (x : UInt32) (h : x.toNat % 2 ^ 31 ≤ 0x7f800000) : x &&& 0x7fffffff ≤ 0x7f800000 := by
  rw [UInt32.le_iff_toNat_le, UInt32.toNat_and, show (0x7fffffff : UInt32).toNat = 2 ^ 31 - 1 from rfl, Nat.and_two_pow_sub_one_eq_mod]
  exact h
theorem fx_and63 (x : UInt64) (h : x.toNat % 2 ^ 63 ≤ 0x7ff0000000000000) : x &&& 0x7fffffffffffffff ≤ 0x7ff0000000000000 := by
  rw [UInt64.le_iff_toNat_le, UInt64.toNat_and, show (0x7fffffffffffffff : UInt64).toNat = 2 ^ 63 - 1 from rfl, Nat.and_two_pow_sub_one_eq_mod]
  exact h

theorem fx_b32t : 2 ^ FP.Core.b32.p = 2 * FP.Core.b32.tails := by decide
theorem fx_b64t : 2 ^ FP.Core.b64.p = 2 * FP.Core.b64.tails := by decide

theorem fx_fi_n {i : Nat} : FP.Core.fromInt FP.Core.b32 (i : Int) < 2 ^ 32 := by
  have : fx_NN FP.Core.b32 (FP.Core.fromInt FP.Core.b32 (i : Int)) := by
    unfold FP.Core.fromInt FP.Core.ofInt FP.Core.round
    exact fx_nn_ratio fx_b32t (by decide) (by decide)
  exact (fx_nn_b32 this).1
theorem fx_di_n {i : Nat} : FP.Core.fromInt FP.Core.b64 (i : Int) < 2 ^ 64 := by
  have : fx_NN FP.Core.b64 (FP.Core.fromInt FP.Core.b64 (i : Int)) := by
    unfold FP.Core.fromInt FP.Core.ofInt FP.Core.round
    exact fx_nn_ratio fx_b64t (by decide) (by decide)
  exact (fx_nn_b64 this).1

theorem fx_fdiv_nn {a b : Int32} (ha : 0 ≤ a.toInt) (ha2 : a.toInt < 2 ^ 24) (hb : 0 < b.toInt) (hb2 : b.toInt < 2 ^ 24) :
    fx_NN FP.Core.b32 (FP.Core.fdiv (FP.Core.i2f a) (FP.Core.i2f b)).toNat := by
  unfold FP.Core.fdiv FP.Core.i2f
  rw [fx_i32 a ha, fx_i32 b (by omega), UInt32.toNat_ofNat_of_lt' fx_fi_n, UInt32.toNat_ofNat_of_lt' fx_fi_n]
  have := fx_nn_div (f := FP.Core.b32) (i := a.toInt.toNat) (j := b.toInt.toNat) (show _ < 2 ^ 24 by omega) (show _ < 2 ^ 24 by omega) (by omega) (by decide) (by decide) fx_b32t (by decide) (by decide)
  rw [UInt32.toNat_ofNat_of_lt' (fx_nn_b32 this).1]
  exact this
theorem fx_ddiv_nn {a b : Int32} (ha : 0 ≤ a.toInt) (hb : 0 < b.toInt) :
    fx_NN FP.Core.b64 (FP.Core.ddiv (FP.Core.i2d a) (FP.Core.i2d b)).toNat := by
  have a2 := Int32.toInt_lt a
  have b2 := Int32.toInt_lt b
  unfold FP.Core.ddiv FP.Core.i2d
  rw [fx_i32 a ha, fx_i32 b (by omega), UInt64.toNat_ofNat_of_lt' fx_di_n, UInt64.toNat_ofNat_of_lt' fx_di_n]
  have := fx_nn_div (f := FP.Core.b64) (i := a.toInt.toNat) (j := b.toInt.toNat) (show _ < 2 ^ 53 by omega) (show _ < 2 ^ 53 by omega) (by omega) (by decide) (by decide) fx_b64t (by decide) (by decide)
  rw [UInt64.toNat_ofNat_of_lt' (fx_nn_b64 this).1]
  exact this
/-- what no NaN is, decoded -/
theorem fx_nn_dec {f : FP.Core.Fmt} {n : Nat} (h : fx_NN f n) (h0 : 0 < f.tails) (h1 : 1 < f.exps) : FP.Core.decode f n ≠ .nan := by
  obtain ⟨s, e, t, q, w⟩ := h
  rw [q]
  unfold FP.Core.decode
  rcases w with ⟨w1, w2⟩ | ⟨w1, w2⟩
  · rw [fx_as_T w2, fx_as_E w2 (by omega), if_neg (by omega)]
    split <;> simp
  · rw [fx_as_T (by omega), fx_as_E (by omega) (by omega), if_pos w1, if_pos w2]
    simp
/-- seven more of the double's bits -/
theorem fx_f2d_nn {x : UInt32} (h : fx_NN FP.Core.b32 x.toNat) : fx_NN FP.Core.b64 (FP.Core.f2d x).toNat := by
  have hd := fx_nn_dec h (by decide) (by decide)
  have : fx_NN FP.Core.b64 (FP.Core.convert FP.Core.b32 FP.Core.b64 x.toNat) := by
    unfold FP.Core.convert
    cases hc : FP.Core.decode FP.Core.b32 x.toNat with
    | nan => exact absurd hc hd
    | inf s =>
      unfold FP.Core.round FP.Core.encode
      exact ⟨s, _, 0, rfl, Or.inr ⟨rfl, rfl⟩⟩
    | fin s c q =>
      unfold FP.Core.round
      exact fx_nn_ratio fx_b64t (by decide) (by decide)
  unfold FP.Core.f2d
  rw [UInt64.toNat_ofNat_of_lt' (fx_nn_b64 this).1]
  exact this
section CK
variable {m : Mm} {r : Nat → Int} {W H n : Nat}
def sm (g : Nat → Int) : Nat → Int
  | 0 => 0
  | k + 1 => sm g k + g k
theorem sm_r {g : Nat → Int} {c : Int} : ∀ {N : Nat}, (∀ k, k < N → 0 ≤ g k ∧ g k ≤ c) → 0 ≤ sm g N ∧ sm g N ≤ c * N
  | 0, _ => by simp [sm]
  | N + 1, h => by
    have h1 := sm_r (N := N) (fun k hk => h k (by omega))
    have h2 := h N (by omega)
    have : c * ((N + 1 : Nat) : Int) = c * N + c := by rw [Int.natCast_succ, Int.mul_add, Int.mul_one]
    unfold sm
    omega
theorem c73 {q : Nat} {N c : Int} {J : Nat} {P : Nat → Nat → Int} (hq : lA q) (h : LV m q N c J P) (h0 : 0 ≤ N) (hN : N ≤ 20) {j : Nat} (hj : j < J) (hJ : J ≤ 8) : d_73 q (zI (j : Nat)) m = some (zI (sm (fun k => P k j) N.toNat)) := by
  unfold d_73 d_73_4
  rw [zl_0]
  refine it_row (fun k => (zI (sm (fun k => P k j) k), zI ((k : Nat) : Int))) _ N.toNat (fun k hk => ?_) ?_
  · show s_73_4 q (zI (j : Nat)) m (zI (sm (fun k => P k j) k)) (zI ((k : Nat) : Int)) = _
    unfold s_73_4
    rw [h.1, if_neg (by rw [zI_le (by omega) (by omega) (by omega) (by omega)]; omega), c72 hq h hN (by omega) hj hJ]
    simp only [obs, wbs, zl_1, zI_add]
    rfl
  · show s_73_4 q (zI (j : Nat)) m (zI (sm (fun k => P k j) N.toNat)) (zI ((N.toNat : Nat) : Int)) = _
    unfold s_73_4
    rw [h.1, if_pos (by rw [zI_le (by omega) (by omega) (by omega) (by omega)]; omega)]
noncomputable def mean_ (S N : Int) : UInt64 := if N = 0 then FP.dconst0 else FP.ddiv (FP.i2d (zI S)) (FP.i2d (zI N))
theorem P_30 (hn : n ≤ 512) (hI : Inv n m) : An (d_152 20 m) (fun v => An (d_272 249 m) (fun r => v = r.1 ∧ Inv (n + 1) r.2)) := by
  obtain ⟨r, W, H, hG⟩ := hI.2.2.1
  have h14 := hG.2.1.2.2.2.2.2.2.2.2.1
  have hM := hG.2.1.2.2.2.2.2.2.2.2.2.2.2
  have hL := hG.2.2.2.2.2.2.1
  have hl : lA 40 := (gA_F gA_23).2.2.2.2.2.2.2.2.2
  have hm : ∀ k : Nat, k < 584 → wr m 249 0 (zI 0) 250 k = zI (r k) := fun k hk => by rw [wr_ne (by decide)]; exact hG.1 k hk
  have hS : 0 ≤ sm (fun k => r (464 + 6 * k + 4)) (r 14).toNat ∧ sm (fun k => r (464 + 6 * k + 4)) (r 14).toNat ≤ 9 * ((r 14).toNat : Nat) := sm_r (fun k hk => by
    have := (hM k (by omega)).2.2.2.2
    exact ⟨by omega, this.2⟩)
  have eS : (fun k => made_ r W k 4) = fun k => r (464 + 6 * k + 4) := by
    funext k
    unfold made_
    rw [if_neg (by decide)]
  generalize hSS : sm (fun k => r (464 + 6 * k + 4)) (r 14).toNat = S at hS
  have nn : r 14 ≠ 0 → (FP.ddiv (FP.i2d (zI S)) (FP.i2d (zI (r 14)))) &&& 0x7fffffffffffffff ≤ 0x7ff0000000000000 := fun h => fx_and63 _ (fx_nn_b64 (fx_ddiv_nn (by rw [zI_to (by omega) (by omega)]; omega) (by rw [zI_to (by omega) (by omega)]; omega))).2
  have z0 : zI (r 14) = 0 ↔ r 14 = 0 := by rw [zl_0, zI_inj (by omega) (by omega) (by omega) (by omega)]
  have eC : d_152 20 m = some (mean_ S (r 14)) := by
    unfold d_152 mean_
    rw [log_a, hL.1, wbs]
    by_cases q : r 14 = 0
    · rw [if_neg (fun h => h (z0.2 q)), if_pos q]
    · rw [if_pos (fun h => q (z0.1 h)), if_neg q, zl_4]
      have e := c73 hl hL h14.1 h14.2 (j := 4) (by decide) (by decide)
      rw [eS, hSS] at e
      rw [show zI 4 = zI ((4 : Nat) : Int) from rfl, e]
      simp only [obs]
      rw [if_pos (nn q)]
  have eM : d_272 249 m = some (mean_ S (r 14), wr m 249 0 0) := by
    unfold d_272
    rw [wbs, zl_0]
    unfold d_272_9
    refine it_row (fun k => (zI (sm (fun k => r (464 + 6 * k + 4)) k), zI ((k : Nat) : Int))) _ (r 14).toNat (fun k hk => ?_) ?_
    · show s_272_9 249 (wr m 249 0 (zI 0)) (zI (sm (fun k => r (464 + 6 * k + 4)) k)) (zI ((k : Nat) : Int)) = _
      unfold s_272_9
      rw [m_r1, n_250, if_pos (by decide), show ix (14 : Int32) = 14 from by decide, hm 14 (by decide), if_neg (by rw [zI_le (by omega) (by omega) (by omega) (by omega)]; omega)]
      simp only [zl_0, zl_1, zl_2, zl_3, zl_4, zl_5, zl_6, zl_7, zl_8, zl_9, zl_10, zl_11, zl_12, zl_13, zl_14, zl_15, zl_16, zl_17, zl_18, zl_19, zl_20, zl_21, zl_22, zl_23, zl_24, zl_25, zl_26, zl_27, zl_28, zl_29, zl_30, zl_31, zl_32, zl_33, zl_34, zl_35, zl_36, zl_37, zl_38, zl_39, zl_40, zl_41, zl_42, zl_43, zl_44, zl_45, zl_46, zl_47, zl_48, zl_49, zl_50, zl_51, zl_52, zl_53, zl_54, zl_55, zl_56, zl_57, zl_58, zl_59, zl_60, zl_61, zl_62, zl_63, zl_64, zl_88, zl_97, zl_99, zl_120, zl_122, zl_150, zl_152, zl_200, zl_255, zl_264, zl_280, zl_304, zl_464, zl_584, zl_600, zl_837, zl_999, zl_1000, zl_4088, zl_9999, zl_99999, zI_mul, zI_add]
      rw [show (464 : Int) + 6 * (k : Nat) + 4 = ((464 + 6 * k + 4 : Nat) : Int) by omega, if_pos (in_k (by omega) (by decide)), z_ix (by omega), hm _ (by omega)]
      simp only [wbs, zI_add]
      rfl
    · show s_272_9 249 (wr m 249 0 (zI 0)) (zI (sm (fun k => r (464 + 6 * k + 4)) (r 14).toNat)) (zI (((r 14).toNat : Nat) : Int)) = _
      unfold s_272_9 d_272_44
      rw [m_r1, n_250, if_pos (by decide), show ix (14 : Int32) = 14 from by decide, hm 14 (by decide), if_pos (by rw [zI_le (by omega) (by omega) (by omega) (by omega)]; omega), hSS, if_pos (by decide)]
      unfold mean_
      by_cases q : r 14 = 0
      · rw [if_neg (fun h => h (z0.2 q)), if_pos q]
        rfl
      · rw [if_pos (fun h => q (z0.1 h)), if_neg q, if_pos (by decide), if_pos (nn q)]
        rfl
  rw [eC]
  refine An.so ?_
  rw [eM]
  exact An.so ⟨rfl, hI.q Qe.told⟩
end CK
