/-! The text put into the buffer, twenty bytes at a time. -/
section TG
variable {m m0 : Mm}
/-- the buffer holds the first l of the bytes y -/
def Bf (m0 m : Mm) (y : Nat → Nat) (l : Nat) : Prop := m 21 1 = zI (l : Nat) ∧ (∀ i, i < l → m 22 i = zI ((y i : Nat) : Int)) ∧ (∀ j, j ≠ 1 → m 21 j = m0 21 j) ∧ ∀ a, a ≠ 21 → a ≠ 22 → m a = m0 a
theorem a120 {y : Nat → Nat} {l : Nat} {X : Nat → Int32} (h : Bf m0 m y l) (hl : l + 20 ≤ 600) (hX : ∀ i, i < 20 → bx (X (i / 4)) (24 - 8 * (i % 4)) = zI ((y (l + i) : Nat) : Int)) :
    An (d_120 20 (X 0) (X 1) (X 2) (X 3) (X 4) m) (fun p => p.1 = zI ((l + 20 : Nat) : Int) ∧ Bf m0 p.2 y (l + 20)) := by
  obtain ⟨h1, h2, h3, h4⟩ := h
  unfold d_120 d_96
  rw [k_r0, h1, show (20 : Int32) = zI 20 from rfl, zl_600, zI_add, if_neg (by rw [zI_lt (by omega) (by omega) (by omega) (by omega)]; omega)]
  simp only [obs, ift]
  have a0 : apd m m l X (4 * 0) := ⟨h1, fun _ _ => rfl, fun i hi => absurd hi (Nat.not_lt_zero i), fun _ _ => rfl, fun _ _ _ => rfl⟩
  refine (c97 hl (by decide) a0).bd (fun m2 a2 => ?_)
  refine (c97 hl (by decide) a2).bd (fun m3 a3 => ?_)
  refine (c97 hl (by decide) a3).bd (fun m4 a4 => ?_)
  refine (c97 hl (by decide) a4).bd (fun m5 a5 => ?_)
  refine (c97 hl (by decide) a5).bd (fun m6 a6 => ?_)
  obtain ⟨b1, b2, b3, b4, b5⟩ := a6
  refine An.so ⟨b1, b1, fun i hi => ?_, fun j hj => (b4 j hj).trans (h3 j hj), fun a a1 a2 => (b5 a a1 a2).trans (h4 a a1 a2)⟩
  dsimp only
  by_cases q : i < l
  · rw [b2 i q, h2 i q]
  · obtain ⟨j, rfl⟩ := Nat.exists_eq_add_of_le (Nat.le_of_not_lt q)
    rw [b3 j (by omega), hX j (by omega)]
theorem a121 {y : Nat → Nat} {l n : Nat} (h : Bf m0 m y l) (hl : l ≤ 600) (hn : n ≤ l) : An (d_121 20 (zI (n : Nat)) m) (fun p => Bf m0 p.2 y n) := by
  obtain ⟨h1, h2, h3, h4⟩ := h
  unfold d_121
  rw [k_r0, h1, if_neg (by rw [zl_0, zI_lt (by omega) (by omega) (by omega) (by omega)]; omega), if_pos (by rw [zI_le (by omega) (by omega) (by omega) (by omega)]; omega), wbs]
  exact An.so ⟨(by dsimp only; exact wr_eq), fun i hi => by dsimp only; rw [wr_ne (by decide)]; exact h2 i (by omega), fun j hj => by dsimp only; rw [wr_nk hj]; exact h3 j hj, fun a a1 a2 => by dsimp only; rw [wr_ne a1]; exact h4 a a1 a2⟩
/-- four bytes packed -/
theorem or_st {A c s : Nat} (hs : s = 24 ∨ s = 16 ∨ s = 8 ∨ s = 0) (hA : A % 2 ^ (s + 8) = 0) (hc : c < 128) (h : A < 2147483648) : zI (A : Nat) ||| (zI (c : Nat) <<< (zI (s : Nat) &&& (31 : Int32))) = zI ((A + c * 2 ^ s : Nat) : Int) := by
  have e31 : zI (s : Nat) &&& (31 : Int32) = zI (s : Nat) := by rcases hs with rfl | rfl | rfl | rfl <;> decide
  rw [e31, ← Int32.toBitVec_inj, Int32.toBitVec_or, Int32.toBitVec_shiftLeft, zI_bv, zI_bv, zI_bv, zI_bv]
  have eor : A + c * 2 ^ s = A ||| (c * 2 ^ s) := by
    obtain ⟨d, hd⟩ : ∃ d, A = 2 ^ (s + 8) * d := ⟨A / 2 ^ (s + 8), by have := Nat.div_add_mod A (2 ^ (s + 8)); omega⟩
    have lt : c * 2 ^ s < 2 ^ (s + 8) := by
      rw [Nat.pow_add, Nat.mul_comm]
      exact Nat.mul_lt_mul_of_pos_left (by omega) (Nat.two_pow_pos _)
    rw [hd]
    exact Nat.two_pow_add_eq_or_of_lt lt d
  apply BitVec.eq_of_toNat_eq
  rw [eor, BitVec.toNat_or, BitVec.toNat_ofNat, BitVec.toNat_ofNat]
  rw [show BitVec.smod (BitVec.ofNat 32 s) 32 = BitVec.ofNat 32 s by rcases hs with rfl | rfl | rfl | rfl <;> decide, BitVec.shiftLeft_eq', BitVec.toNat_shiftLeft, BitVec.toNat_ofNat, BitVec.toNat_ofNat]
  have es : s % 2 ^ 32 = s := Nat.mod_eq_of_lt (by omega)
  have ec : c % 2 ^ 32 = c := Nat.mod_eq_of_lt (by omega)
  rw [es, ec, Nat.shiftLeft_eq, ← Nat.or_mod_two_pow]
theorem z_shr {P s : Nat} (hs : s = 24 ∨ s = 16 ∨ s = 8 ∨ s = 0) (h : P < 2147483648) : zI (P : Nat) >>> (zI (s : Nat) &&& (31 : Int32)) = zI ((P / 2 ^ s : Nat) : Int) := by
  have e31 : zI (s : Nat) &&& (31 : Int32) = zI (s : Nat) := by rcases hs with rfl | rfl | rfl | rfl <;> decide
  rw [e31, ← Int32.toBitVec_inj]
  show BitVec.sshiftRight' (zI (P : Nat)).toBitVec ((zI (s : Nat)).toBitVec.smod 32) = (zI ((P / 2 ^ s : Nat) : Int)).toBitVec
  rw [zI_bv, zI_bv, zI_bv, show BitVec.smod (BitVec.ofNat 32 s) 32 = BitVec.ofNat 32 s by rcases hs with rfl | rfl | rfl | rfl <;> decide]
  show (BitVec.ofNat 32 P).sshiftRight (BitVec.ofNat 32 s).toNat = _
  rw [BitVec.sshiftRight_eq_of_msb_false]
  · apply BitVec.eq_of_toNat_eq
    have es : s % 2 ^ 32 = s := Nat.mod_eq_of_lt (by omega)
    have h1 : P / 2 ^ s ≤ P := Nat.div_le_self _ _
    rw [BitVec.toNat_ushiftRight, BitVec.toNat_ofNat, BitVec.toNat_ofNat, BitVec.toNat_ofNat, Nat.shiftRight_eq_div_pow, es, Nat.mod_eq_of_lt (show P < 2 ^ 32 by omega), Nat.mod_eq_of_lt (show P / 2 ^ s < 2 ^ 32 by omega)]
  · rw [BitVec.msb_eq_decide, BitVec.toNat_ofNat]
    exact decide_eq_false (by omega)
theorem z_b8 {n : Nat} (h : n % 256 < 128) : (zI (n : Nat)).toInt8.toInt32 = zI ((n % 256 : Nat) : Int) := by
  rw [← Int32.toInt_inj, Int8.toInt_toInt32, zI_to (by omega) (by omega)]
  have e : (zI (n : Nat)).toInt8 = Int8.ofInt (n : Int) := by
    show (Int32.ofInt (n : Int)).toInt8 = _
    exact Int32.toInt8_ofInt
  rw [e, Int8.toInt_ofInt, Int.bmod_def, show ((Int8.size : Nat) : Int) = 256 from rfl]
  omega
theorem bx_at {P s : Nat} (hs : s = 24 ∨ s = 16 ∨ s = 8 ∨ s = 0) (h : P < 2147483648) (hb : P / 2 ^ s % 256 < 128) : bx (zI (P : Nat)) s = zI ((P / 2 ^ s % 256 : Nat) : Int) := by
  unfold bx
  rw [z_shr hs h, z_b8 hb, z_b8 (by omega), Nat.mod_mod]
/-- a word as far as its byte number j -/
def acc (c : Nat → Nat) (j : Nat) : Nat := (if 0 < j then c 0 * 16777216 else 0) + (if 1 < j then c 1 * 65536 else 0) + (if 2 < j then c 2 * 256 else 0) + (if 3 < j then c 3 else 0)
theorem acc_s {c : Nat → Nat} {j : Nat} (hc : ∀ i, i < 4 → c i < 128) (hj : j < 4) : zI (acc c j : Nat) ||| (zI (c j : Nat) <<< (zI ((24 - 8 * j : Nat) : Int) &&& (31 : Int32))) = zI (acc c (j + 1) : Nat) := by
  have c0 := hc 0 (by decide)
  have c1 := hc 1 (by decide)
  have c2 := hc 2 (by decide)
  have c3 := hc 3 (by decide)
  have : j = 0 ∨ j = 1 ∨ j = 2 ∨ j = 3 := by omega
  rcases this with rfl | rfl | rfl | rfl
  · rw [or_st (s := 24 - 8 * 0) (by omega) (show acc c 0 % _ = 0 from rfl) c0 (show acc c 0 < _ from (by decide : (0 : Nat) < 2147483648))]
    exact congrArg (fun n : Nat => zI (n : Int)) (by simp only [acc, Nat.lt_irrefl, if_true, if_false, Nat.reduceLT, Nat.reduceSub, Nat.reduceMul, Nat.reduceAdd, Nat.reducePow]; omega)
  · rw [or_st (s := 24 - 8 * 1) (by omega) (by simp only [acc, Nat.lt_irrefl, if_true, if_false, Nat.reduceLT, Nat.reduceSub, Nat.reduceMul, Nat.reduceAdd, Nat.reducePow]; omega) c1 (by simp only [acc, Nat.lt_irrefl, if_true, if_false, Nat.reduceLT, Nat.reduceSub, Nat.reduceMul, Nat.reduceAdd, Nat.reducePow]; omega)]
    exact congrArg (fun n : Nat => zI (n : Int)) (by simp only [acc, Nat.lt_irrefl, if_true, if_false, Nat.reduceLT, Nat.reduceSub, Nat.reduceMul, Nat.reduceAdd, Nat.reducePow]; omega)
  · rw [or_st (s := 24 - 8 * 2) (by omega) (by simp only [acc, Nat.lt_irrefl, if_true, if_false, Nat.reduceLT, Nat.reduceSub, Nat.reduceMul, Nat.reduceAdd, Nat.reducePow]; omega) c2 (by simp only [acc, Nat.lt_irrefl, if_true, if_false, Nat.reduceLT, Nat.reduceSub, Nat.reduceMul, Nat.reduceAdd, Nat.reducePow]; omega)]
    exact congrArg (fun n : Nat => zI (n : Int)) (by simp only [acc, Nat.lt_irrefl, if_true, if_false, Nat.reduceLT, Nat.reduceSub, Nat.reduceMul, Nat.reduceAdd, Nat.reducePow]; omega)
  · rw [or_st (s := 24 - 8 * 3) (by omega) (by simp only [acc, Nat.lt_irrefl, if_true, if_false, Nat.reduceLT, Nat.reduceSub, Nat.reduceMul, Nat.reduceAdd, Nat.reducePow]; omega) c3 (by simp only [acc, Nat.lt_irrefl, if_true, if_false, Nat.reduceLT, Nat.reduceSub, Nat.reduceMul, Nat.reduceAdd, Nat.reducePow]; omega)]
    exact congrArg (fun n : Nat => zI (n : Int)) (by simp only [acc, Nat.lt_irrefl, if_true, if_false, Nat.reduceLT, Nat.reduceSub, Nat.reduceMul, Nat.reduceAdd, Nat.reducePow]; omega)
theorem acc_b {c : Nat → Nat} (hc : ∀ i, i < 4 → c i < 128) {i : Nat} (hi : i < 4) : bx (zI (acc c 4 : Nat)) (24 - 8 * i) = zI ((c i : Nat) : Int) := by
  have c0 := hc 0 (by decide)
  have c1 := hc 1 (by decide)
  have c2 := hc 2 (by decide)
  have c3 := hc 3 (by decide)
  have e : acc c 4 = c 0 * 16777216 + c 1 * 65536 + c 2 * 256 + c 3 := rfl
  have : i = 0 ∨ i = 1 ∨ i = 2 ∨ i = 3 := by omega
  rcases this with rfl | rfl | rfl | rfl
  · have q : acc c 4 / 2 ^ (24 - 8 * 0) % 256 = c 0 := by rw [e]; show _ / 16777216 % 256 = _; omega
    rw [bx_at (by omega) (by omega) (by omega), q]
  · have q : acc c 4 / 2 ^ (24 - 8 * 1) % 256 = c 1 := by rw [e]; show _ / 65536 % 256 = _; omega
    rw [bx_at (by omega) (by omega) (by omega), q]
  · have q : acc c 4 / 2 ^ (24 - 8 * 2) % 256 = c 2 := by rw [e]; show _ / 256 % 256 = _; omega
    rw [bx_at (by omega) (by omega) (by omega), q]
  · have q : acc c 4 / 2 ^ (24 - 8 * 3) % 256 = c 3 := by rw [e]; show _ / 1 % 256 = _; omega
    rw [bx_at (by omega) (by omega) (by omega), q]
end TG
