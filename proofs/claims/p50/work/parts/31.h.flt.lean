/-! A share is no less than 0 and no more than 1; a mean of numbers from 1 on is no less than 1. -/
theorem fx_rnd_v {f : FP.Core.Fmt} {i : Nat} (h0 : 0 < i) (h : i < 2 ^ f.p) (hq : f.qmin ≤ 1 - (f.p : Int)) (hx : 0 ≤ f.qmax) :
    ∃ k : Nat, k ≤ f.p - 1 ∧ FP.Core.round f (FP.Core.ofInt (i : Int)) = .fin false (i * 2 ^ k) (-(k : Int)) ∧ f.tails ≤ i * 2 ^ k ∧ i * 2 ^ k < 2 ^ f.p := by
  have hp : i.log2 < f.p := (Nat.log2_lt (by omega)).2 h
  have l1 : 2 ^ i.log2 ≤ i := Nat.log2_self_le (by omega)
  have l2 : i < 2 ^ (i.log2 + 1) := Nat.lt_log2_self
  have le : FP.Core.leading i 1 = (i.log2 : Int) := by
    unfold FP.Core.leading
    have : Nat.log2 1 = 0 := by decide
    simp only [this]
    rw [if_pos (by simp; exact l1)]
    simp
  have qe : FP.Core.quantum f i 1 0 = -((f.p - 1 - i.log2 : Nat) : Int) := by
    unfold FP.Core.quantum
    rw [le]
    omega
  have c1 : i * 2 ^ (f.p - 1 - i.log2) < 2 ^ f.p := by
    have : 2 ^ f.p = 2 ^ (i.log2 + 1) * 2 ^ (f.p - 1 - i.log2) := by rw [← Nat.pow_add]; congr 1; omega
    rw [this]
    exact Nat.mul_lt_mul_of_pos_right l2 (Nat.two_pow_pos _)
  refine ⟨f.p - 1 - i.log2, by omega, ?_, ?_, c1⟩
  · unfold FP.Core.round FP.Core.ofInt FP.Core.roundRatio
    have : decide ((i : Int) < 0) = false := decide_eq_false (by omega)
    simp only [this, Int.natAbs_natCast, if_neg (show ¬ i = 0 by omega), qe]
    unfold FP.Core.roundAt FP.Core.unitsNum FP.Core.unitsDen FP.Core.nearest
    have e1 : ((0 : Int) - (-((f.p - 1 - i.log2 : Nat) : Int))).toNat = f.p - 1 - i.log2 := by omega
    have e2 : (-((f.p - 1 - i.log2 : Nat) : Int) - 0).toNat = 0 := by omega
    rw [e1, e2]
    simp only [Nat.pow_zero, Nat.mul_one, Nat.mod_one, Nat.mul_zero, Nat.zero_lt_one, if_true, Nat.div_one]
    unfold FP.Core.settle FP.Core.bound
    rw [if_pos c1, if_pos (by omega)]
  · unfold FP.Core.Fmt.tails
    have : 2 ^ (f.p - 1) = 2 ^ i.log2 * 2 ^ (f.p - 1 - i.log2) := by rw [← Nat.pow_add]; congr 1; omega
    rw [this]
    exact Nat.mul_le_mul_right _ l1
/-- what is encoded, read again: no more than it was -/
theorem fx_dec_e {f : FP.Core.Fmt} {c : Nat} {q : Int} (hc : c < 2 ^ f.p) (q0 : f.qmin ≤ q) (q1 : q ≤ 0) (ht : 2 ^ f.p = 2 * f.tails) (h0 : 0 < f.tails) (hm : (0 - f.qmin).toNat + 2 < f.exps) :
    ∃ d r, FP.Core.decode f (FP.Core.encode f (.fin false c q)) = .fin false d r ∧ f.qmin ≤ r ∧ r ≤ 0 ∧ d * 2 ^ (r - f.qmin).toNat ≤ c * 2 ^ (q - f.qmin).toNat ∧ (f.tails ≤ c → d = c ∧ r = q) := by
  unfold FP.Core.encode
  by_cases h : c < f.tails
  · simp only [if_pos h]
    unfold FP.Core.decode
    rw [fx_as_T h, fx_as_E h (by omega), if_neg (by omega), if_pos rfl]
    have : FP.Core.fieldS f (FP.Core.assemble f false 0 c) = false := by
      unfold FP.Core.fieldS FP.Core.assemble
      simp only [Bool.toNat_false, Nat.zero_mul, Nat.zero_add]
      rw [Nat.div_eq_of_lt h, Nat.zero_div]
      rfl
    rw [this]
    refine ⟨c, f.qmin, rfl, Int.le_refl _, by omega, ?_, fun z => absurd z (by omega)⟩
    rw [Int.sub_self]
    exact Nat.mul_le_mul_left c (Nat.pow_le_pow_right (by decide) (Nat.zero_le _))
  · simp only [if_neg h]
    unfold FP.Core.decode
    rw [fx_as_T (by omega), fx_as_E (by omega) (by omega), if_neg (by omega), if_neg (by omega)]
    have : FP.Core.fieldS f (FP.Core.assemble f false ((q - f.qmin).toNat + 1) (c - f.tails)) = false := by
      unfold FP.Core.fieldS FP.Core.assemble
      rw [Nat.mul_comm, Nat.mul_add_div (by omega), Nat.div_eq_of_lt (show c - f.tails < f.tails by omega)]
      simp only [Bool.toNat_false, Nat.zero_mul, Nat.zero_add, Nat.add_zero]
      rw [Nat.div_eq_of_lt (by omega)]
      rfl
    rw [this]
    have e1 : f.tails + (c - f.tails) = c := by omega
    have e2 : f.qmin + ((((q - f.qmin).toNat + 1 : Nat) : Int) - 1) = q := by omega
    rw [e1, e2]
    exact ⟨c, q, rfl, q0, q1, Nat.le_refl _, fun _ => ⟨rfl, rfl⟩⟩
theorem fx_dec_v {f : FP.Core.Fmt} {i : Nat} (h0 : 0 < i) (h : i < 2 ^ f.p) (hq : f.qmin ≤ 1 - (f.p : Int)) (hx : 0 ≤ f.qmax) (ht : 2 ^ f.p = 2 * f.tails) (ht0 : 0 < f.tails) (hm : (0 - f.qmin).toNat + 2 < f.exps) (hp : 1 ≤ f.p) :
    ∃ k : Nat, k ≤ f.p - 1 ∧ FP.Core.decode f (FP.Core.fromInt f (i : Int)) = .fin false (i * 2 ^ k) (-(k : Int)) ∧ f.tails ≤ i * 2 ^ k ∧ i * 2 ^ k < 2 ^ f.p := by
  obtain ⟨k, k1, e, t1, t2⟩ := fx_rnd_v h0 h hq hx
  obtain ⟨d, r, e2, -, -, -, hh⟩ := fx_dec_e (f := f) (q := -(k : Int)) t2 (by omega) (by omega) ht ht0 hm
  obtain ⟨rfl, rfl⟩ := hh t1
  refine ⟨k, k1, ?_, t1, t2⟩
  unfold FP.Core.fromInt
  rw [e]
  exact e2
theorem fx_near {A B M : Nat} (hB : 0 < B) (h : A ≤ M * B) : FP.Core.nearest A B ≤ M := by
  have d1 : A / B ≤ M := Nat.div_le_of_le_mul (by rw [Nat.mul_comm]; exact h)
  have d2 := Nat.div_add_mod A B
  have ne : ∀ _ : 0 < A % B, A / B < M := fun hr => by
    rcases Nat.lt_or_ge (A / B) M with q | q
    · exact q
    · have e : A / B = M := Nat.le_antisymm d1 q
      rw [e, Nat.mul_comm] at d2
      omega
  unfold FP.Core.nearest
  by_cases q1 : 2 * (A % B) < B
  · rw [if_pos q1]; exact d1
  · rw [if_neg q1]
    have := ne (by omega)
    by_cases q2 : B < 2 * (A % B)
    · rw [if_pos q2]; omega
    · rw [if_neg q2]; omega
theorem fx_lg {f : FP.Core.Fmt} {A : Nat} (hp : 1 ≤ f.p) (h1 : f.tails ≤ A) (h2 : A < 2 ^ f.p) : A.log2 = f.p - 1 := by
  have t0 : 0 < f.tails := Nat.two_pow_pos _
  have l1 := (Nat.log2_lt (n := A) (k := f.p) (by omega)).2 h2
  have l2 := (Nat.le_log2 (n := A) (k := f.p - 1) (by omega)).2 h1
  omega
theorem fx_ratio_le {f : FP.Core.Fmt} {A B : Nat} {e : Int} (hp : 2 ≤ f.p) (a1 : f.tails ≤ A) (a2 : A < 2 ^ f.p) (b1 : f.tails ≤ B) (b2 : B < 2 ^ f.p) (he : e ≤ 0) (hle : A ≤ B * 2 ^ (-e).toNat) (hq : f.qmin ≤ 1 - (f.p : Int)) (hx : 1 ≤ f.qmax) (ht : 2 ^ f.p = 2 * f.tails) (h0 : 0 < f.tails) (hm : (0 - f.qmin).toNat + 2 < f.exps) :
    ∃ d r, FP.Core.decode f (FP.Core.encode f (FP.Core.roundRatio f false A B e)) = .fin false d r ∧ f.qmin ≤ r ∧ r ≤ 0 ∧ d * 2 ^ (r - f.qmin).toNat ≤ 2 ^ (-f.qmin).toNat := by
  have lA := fx_lg (f := f) (by omega) a1 a2
  have lB := fx_lg (f := f) (by omega) b1 b2
  have ld : FP.Core.leading A B ≤ 0 := by
    unfold FP.Core.leading
    rw [lA, lB, Int.sub_self]
    dsimp only
    split <;> omega
  have qb : f.qmin ≤ FP.Core.quantum f A B e ∧ FP.Core.quantum f A B e ≤ 1 - (f.p : Int) := by
    unfold FP.Core.quantum
    omega
  unfold FP.Core.roundRatio
  rw [if_neg (by omega)]
  unfold FP.Core.roundAt
  generalize FP.Core.quantum f A B e = q at qb ⊢
  have c0 : FP.Core.nearest (FP.Core.unitsNum A e q) (FP.Core.unitsDen B e q) ≤ 2 ^ (-q).toNat := by
    unfold FP.Core.unitsNum FP.Core.unitsDen
    refine fx_near (Nat.mul_pos (by omega) (Nat.two_pow_pos _)) ?_
    by_cases z : q ≤ e
    · have z1 : (q - e).toNat = 0 := by omega
      have z2 : 2 ^ (-q).toNat = 2 ^ (-e).toNat * 2 ^ (e - q).toNat := by rw [← Nat.pow_add]; congr 1; omega
      rw [z1, Nat.pow_zero, Nat.mul_one, z2]
      have := Nat.mul_le_mul_right (2 ^ (e - q).toNat) hle
      rw [Nat.mul_comm (2 ^ (-e).toNat * 2 ^ (e - q).toNat) B, ← Nat.mul_assoc]
      exact this
    · have z1 : (e - q).toNat = 0 := by omega
      have z2 : 2 ^ (-e).toNat = 2 ^ (-q).toNat * 2 ^ (q - e).toNat := by rw [← Nat.pow_add]; congr 1; omega
      rw [z1, Nat.pow_zero, Nat.mul_one]
      rw [z2] at hle
      rw [← Nat.mul_assoc, Nat.mul_comm (2 ^ (-q).toNat) B, Nat.mul_assoc]
      exact hle
  generalize FP.Core.nearest (FP.Core.unitsNum A e q) (FP.Core.unitsDen B e q) = c at c0 ⊢
  have e3 : 2 ^ (-q).toNat * 2 ^ (q - f.qmin).toNat = 2 ^ (-f.qmin).toNat := by rw [← Nat.pow_add]; congr 1; omega
  have v0 : c * 2 ^ (q - f.qmin).toNat ≤ 2 ^ (-f.qmin).toNat := by
    rw [← e3]; exact Nat.mul_le_mul_right _ c0
  unfold FP.Core.settle FP.Core.bound
  by_cases hc : c < 2 ^ f.p
  · rw [if_pos hc, if_pos (by omega)]
    obtain ⟨d, r, e4, r0, r1, v, -⟩ := fx_dec_e (f := f) (q := q) hc (by omega) (by omega) ht h0 hm
    exact ⟨d, r, e4, r0, r1, Nat.le_trans v v0⟩
  · rw [if_neg hc, if_pos (by omega)]
    obtain ⟨d, r, e4, r0, r1, v, -⟩ := fx_dec_e (f := f) (c := f.tails) (q := q + 1) (by omega) (by omega) (by omega) ht h0 hm
    refine ⟨d, r, e4, r0, r1, Nat.le_trans v (Nat.le_trans ?_ v0)⟩
    have e5 : (q + 1 - f.qmin).toNat = (q - f.qmin).toNat + 1 := by omega
    rw [e5, Nat.pow_succ, Nat.mul_comm (2 ^ (q - f.qmin).toNat) 2, ← Nat.mul_assoc]
    exact Nat.mul_le_mul_right _ (by omega)
/-- a quotient of whole numbers of which the second is no less -/
theorem fx_div_le {f : FP.Core.Fmt} {i j : Nat} (hp : 2 ≤ f.p) (hij : i ≤ j) (j0 : 0 < j) (hj : j < 2 ^ f.p) (hq : f.qmin ≤ 1 - (f.p : Int)) (hx : 1 ≤ f.qmax) (ht : 2 ^ f.p = 2 * f.tails) (h0 : 0 < f.tails) (hm : (0 - f.qmin).toNat + 2 < f.exps) :
    ∃ d r, FP.Core.decode f (FP.Core.div f (FP.Core.fromInt f (i : Int)) (FP.Core.fromInt f (j : Int))) = .fin false d r ∧ f.qmin ≤ r ∧ r ≤ 0 ∧ d * 2 ^ (r - f.qmin).toNat ≤ 2 ^ (-f.qmin).toNat := by
  obtain ⟨l, l1, e2, t1, t2⟩ := fx_dec_v (f := f) j0 hj hq (by omega) ht h0 hm (by omega)
  unfold FP.Core.div
  rw [e2]
  by_cases hi : i = 0
  · subst hi
    obtain ⟨c, q, e, z⟩ := fx_dec_i (f := f) (i := 0) (by omega) hq (by omega) ht h0 hm
    rw [e, z.mpr rfl]
    unfold FP.Core.quotient
    simp only [if_neg (show ¬ j * 2 ^ l = 0 by omega)]
    unfold FP.Core.roundRatio
    rw [if_pos rfl]
    obtain ⟨d, r, e4, r0, r1, v, -⟩ := fx_dec_e (f := f) (c := 0) (q := f.qmin) (by omega) (Int.le_refl _) (by omega) ht h0 hm
    refine ⟨d, r, e4, r0, r1, Nat.le_trans v (by rw [Nat.zero_mul]; exact Nat.zero_le _)⟩
  · obtain ⟨k, k1, e, s1, s2⟩ := fx_dec_v (f := f) (i := i) (by omega) (by omega) hq (by omega) ht h0 hm (by omega)
    rw [e]
    unfold FP.Core.quotient
    simp only [if_neg (show ¬ j * 2 ^ l = 0 by omega)]
    have lk : l ≤ k := by
      rcases Nat.lt_or_ge k l with q | q
      · have p1 : 2 ^ l = 2 * 2 ^ k * 2 ^ (l - k - 1) := by rw [← Nat.pow_succ', ← Nat.pow_add]; congr 1; omega
        have p2 : 2 * 2 ^ k ≤ 2 ^ l := by rw [p1]; exact Nat.le_mul_of_pos_right _ (Nat.two_pow_pos _)
        have p3 : i * (2 * 2 ^ k) ≤ j * 2 ^ l := Nat.mul_le_mul hij p2
        rw [Nat.mul_left_comm] at p3
        omega
      · exact q
    refine fx_ratio_le hp s1 s2 t1 t2 (by omega) ?_ hq hx ht h0 hm
    have z : (-(-(k : Int) - -(l : Int))).toNat = k - l := by omega
    rw [z, Nat.mul_assoc, ← Nat.pow_add, show l + (k - l) = k by omega]
    exact Nat.mul_le_mul_right _ hij
theorem fx_cmp_i (a b : Int) : compare a b = if a < b then .lt else if a = b then .eq else .gt := rfl
theorem cv_ge {a b : Int} {op : CmpOp} (h : b ≤ a) : ¬ (Op.cmpValue (some (compare a b)) op) < 0 := by
  rw [fx_cmp_i, if_neg (by omega)]
  by_cases q : a = b
  · rw [if_pos q]; exact (by decide : ¬ (0 : Int32) < 0)
  · rw [if_neg q]; exact (by decide : ¬ (1 : Int32) < 0)
theorem cv_le {a b : Int} {op : CmpOp} (h : a ≤ b) : ¬ 0 < (Op.cmpValue (some (compare a b)) op) := by
  rw [fx_cmp_i]
  by_cases q : a < b
  · rw [if_pos q]; exact (by decide : ¬ (0 : Int32) < -1)
  · rw [if_neg q, if_pos (by omega)]; exact (by decide : ¬ (0 : Int32) < 0)
/-- a share -/
theorem share_0 {X Y : Int} (h0 : 0 ≤ Y) (h1 : Y ≤ X) (h2 : X ≤ 1000000) : ¬ (Op.cmpValue (FP.fcmp (share_ (zI X) (zI Y)) FP.fconst0) .g) < 0 ∧ ¬ 0 < (Op.cmpValue (FP.fcmp (share_ (zI X) (zI Y)) FP.fconst1) .l) := by
  unfold share_
  by_cases q : X = 0
  · subst q
    rw [if_pos (show zI 0 = 0 from rfl)]
    decide +kernel
  · rw [if_neg (by rw [zl_0, zI_inj (by omega) (by omega) (by omega) (by omega)]; exact q), zI_sub]
    obtain ⟨i, hi⟩ : ∃ i : Nat, X - Y = (i : Nat) := ⟨(X - Y).toNat, by omega⟩
    obtain ⟨j, hj⟩ : ∃ j : Nat, X = (j : Nat) := ⟨X.toNat, by omega⟩
    rw [hi, hj]
    have i1 : i ≤ j := by omega
    have j1 : j ≤ 1000000 := by omega
    have j0 : 0 < j := by omega
    clear hi hj q h0 h1 h2
    obtain ⟨d, r, e, r0, r1, v⟩ := fx_div_le (f := FP.Core.b32) (i := i) (j := j) (by decide) i1 j0 (show j < 2 ^ 24 by omega) (by decide) (by decide) fx_b32t (by decide) (by decide)
    have nd := fx_nn_div (f := FP.Core.b32) (i := i) (j := j) (show i < 2 ^ 24 by omega) (show j < 2 ^ 24 by omega) (by omega) (by decide) (by decide) fx_b32t (by decide) (by decide)
    have e2 : (FP.Core.fdiv (FP.Core.i2f (zI (i : Nat))) (FP.Core.i2f (zI (j : Nat)))).toNat = FP.Core.div FP.Core.b32 (FP.Core.fromInt FP.Core.b32 (i : Int)) (FP.Core.fromInt FP.Core.b32 (j : Int)) := by
      unfold FP.Core.fdiv FP.Core.i2f
      rw [zI_to (by omega) (by omega), zI_to (by omega) (by omega), UInt32.toNat_ofNat_of_lt' fx_fi_n, UInt32.toNat_ofNat_of_lt' fx_fi_n]
      exact UInt32.toNat_ofNat_of_lt' (fx_nn_b32 nd).1
    have m1 : FP.Core.b32.qmin = -149 := by decide
    rw [m1] at r0 v
    have k0 : FP.fcmp (FP.fdiv (FP.i2f (zI (i : Nat))) (FP.i2f (zI (j : Nat)))) FP.fconst0 = some (compare ((d * 2 ^ (r - min r (-149)).toNat : Nat) : Int) ((0 * 2 ^ (-149 - min r (-149)).toNat : Nat) : Int)) := by
      show FP.Core.order (FP.Core.decode FP.Core.b32 (FP.Core.fdiv (FP.Core.i2f (zI (i : Nat))) (FP.Core.i2f (zI (j : Nat)))).toNat) (FP.Core.decode FP.Core.b32 FP.fconst0.toNat) = _
      rw [e2, e, show FP.Core.decode FP.Core.b32 FP.fconst0.toNat = .fin false 0 (-149) from by decide +kernel]
      rfl
    have k1 : FP.fcmp (FP.fdiv (FP.i2f (zI (i : Nat))) (FP.i2f (zI (j : Nat)))) FP.fconst1 = some (compare ((d * 2 ^ (r - min r (-23)).toNat : Nat) : Int) ((2 ^ 23 * 2 ^ (-23 - min r (-23)).toNat : Nat) : Int)) := by
      show FP.Core.order (FP.Core.decode FP.Core.b32 (FP.Core.fdiv (FP.Core.i2f (zI (i : Nat))) (FP.Core.i2f (zI (j : Nat)))).toNat) (FP.Core.decode FP.Core.b32 FP.fconst1.toNat) = _
      rw [e2, e, show FP.Core.decode FP.Core.b32 FP.fconst1.toNat = .fin false (2 ^ 23) (-23) from by decide +kernel]
      rfl
    rw [k0, k1]
    refine ⟨cv_ge (by rw [Nat.zero_mul]; omega), cv_le ?_⟩
    have p1 : 2 ^ (r - -149).toNat = 2 ^ (r - min r (-23)).toNat * 2 ^ (min r (-23) - -149).toNat := by rw [← Nat.pow_add]; congr 1; omega
    have p2 : 2 ^ (- -149 : Int).toNat = 2 ^ 23 * 2 ^ (-23 - min r (-23)).toNat * 2 ^ (min r (-23) - -149).toNat := by rw [← Nat.pow_add, ← Nat.pow_add]; congr 1; omega
    rw [p1, p2, ← Nat.mul_assoc] at v
    have := Nat.le_of_mul_le_mul_right v (Nat.two_pow_pos _)
    exact Int.ofNat_le.mpr this
set_option maxRecDepth 100000 in
theorem mean_t : ∀ N, N < 21 → ∀ S, S < 181 → N = 0 ∨ S < N ∨ (0 : Int32) ≤ Op.cmpValue (FP.dcmp (FP.ddiv (FP.i2d (zI ((S : Nat) : Int))) (FP.i2d (zI ((N : Nat) : Int)))) FP.dconst1) .g := by decide +kernel
theorem mean_1 {S N : Int} (h0 : 1 ≤ N) (h1 : N ≤ 20) (h2 : N ≤ S) (h3 : S ≤ 180) : (0 : Int32) ≤ Op.cmpValue (FP.dcmp (mean_ S N) FP.dconst1) .g := by
  unfold mean_
  rw [if_neg (by omega)]
  have h := mean_t N.toNat (by omega) S.toNat (by omega)
  rw [show ((S.toNat : Nat) : Int) = S by omega, show ((N.toNat : Nat) : Int) = N by omega] at h
  exact h.resolve_left (by omega) |>.resolve_left (by omega)
