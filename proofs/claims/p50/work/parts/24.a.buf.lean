/-! appendInput, truncateInput. -/
section HJ
variable {m m1 m2 : Mm} {n : Nat}
/-- a byte of a number -/
def bx (x : Int32) (s : Nat) : Int32 := ((x >>> (zI (s : Nat) &&& 31)).toInt8.toInt32).toInt8.toInt32
theorem bx_r (x : Int32) (s : Nat) : ∃ v : Int, -128 ≤ v ∧ v ≤ 127 ∧ bx x s = zI v := by
  unfold bx
  generalize ((x >>> (zI (s : Nat) &&& 31)).toInt8.toInt32).toInt8 = b
  refine ⟨b.toInt, b.le_toInt, Int.le_of_lt_add_one b.toInt_lt, ?_⟩
  rw [← zI_of b.toInt32, Int8.toInt_toInt32]
theorem b_r0 : sh_r 21 0 = 22 := by decide +kernel
theorem b_n : sh_n 22 = 600 := by decide +kernel
/-- so many bytes put behind l -/
def apd (m M : Mm) (l : Nat) (X : Nat → Int32) (k : Nat) : Prop := M 21 1 = zI ((l + k : Nat) : Int) ∧ (∀ i, i < l → M 22 i = m 22 i) ∧ (∀ i, i < k → M 22 (l + i) = bx (X (i / 4)) (24 - 8 * (i % 4))) ∧ (∀ j, j ≠ 1 → M 21 j = m 21 j) ∧ ∀ a, a ≠ 21 → a ≠ 22 → M a = m a
theorem c97 {l : Nat} {X : Nat → Int32} {g : Nat} (hl : l + 20 ≤ 600) (hg : g < 5) (h : apd m m1 l X (4 * g)) : An (d_97 21 (X g) m1) (fun M => apd m M l X (4 * (g + 1))) := by
  unfold d_97 d_97_3
  rw [show (24 : Int32) = zI (24 - 8 * ((0 : Nat) : Int)) from rfl]
  refine it_inv (fun j (u : Int32 × Mm) => u.1 = zI (24 - 8 * ((j : Nat) : Int)) ∧ apd m u.2 l X (4 * g + j)) _ 4 ⟨rfl, h⟩ (fun j hj u hu => ?_) (fun u hu => ?_)
  · obtain ⟨z, M⟩ := u
    obtain ⟨u1, u2, u3, u4, u5, u6⟩ := hu
    dsimp only at u1 u2 u3 u4 u5 u6
    subst u1
    show An (s_97_3 21 (X g) (zI (24 - 8 * ((j : Nat) : Int))) M) _
    unfold s_97_3
    rw [if_neg (by rw [zl_0, zI_lt (by omega) (by omega) (by omega) (by omega)]; omega), u2, if_neg (by rw [zl_0, zI_lt (by omega) (by omega) (by omega) (by omega)]; omega), if_neg (by rw [zl_600, zI_le (by omega) (by omega) (by omega) (by omega)]; omega), b_r0, b_n, if_pos (in_k (by omega) (by decide)), z_ix (by omega), wbs, wbs, wr_ne (show 21 ≠ 22 by decide), u2, wbs, show (-8 : Int32) = zI (-8) from by decide, zI_add, zl_1, zI_add]
    refine An.so ⟨by dsimp only; exact congrArg zI (by omega), ?_, fun i hi => ?_, fun i hi => ?_, fun i hi => ?_, fun a a1 a2 => ?_⟩
    · dsimp only
      rw [wr_eq]; exact congrArg zI (by omega)
    · dsimp only
      rw [wr_ne (by decide), wr_nk (by omega)]; exact u3 i hi
    · dsimp only
      rw [wr_ne (by decide)]
      by_cases e : i = 4 * g + j
      · rw [e, wr_at, if_pos (by omega), show (4 * g + j) / 4 = g by omega, show (4 * g + j) % 4 = j by omega]
        unfold bx
        rw [show ((24 - 8 * j : Nat) : Int) = 24 - 8 * ((j : Nat) : Int) by omega]
      · rw [wr_nk (by omega)]; exact u4 i (by omega)
    · dsimp only
      rw [wr_nk hi, wr_ne (by decide)]; exact u5 i hi
    · dsimp only
      rw [wr_ne a1, wr_ne a2]; exact u6 a a1 a2
  · obtain ⟨z, M⟩ := u
    obtain ⟨u1, u2⟩ := hu
    dsimp only at u1 u2
    subst u1
    show An (s_97_3 21 (X g) (zI (24 - 8 * ((4 : Nat) : Int))) M) _
    unfold s_97_3
    rw [if_pos (by decide)]
    exact An.so u2
end HJ
