/-! appendInput, truncateInput. -/
section HJ
variable {m m1 m2 : Mm} {n : Nat}
/-- a byte of a number -/
def bx (x : Int32) (s : Nat) : Int32 := ((x >>> (zI (s : Nat) &&& 31)).toInt8.toInt32).toInt8.toInt32
theorem bx_r (x : Int32) (s : Nat) : ∃ v : Int, -128 ≤ v ∧ v ≤ 127 ∧ bx x s = zI v := by
  unfold bx
  generalize ((x >>> (zI (s : Nat) &&& 31)).toInt8.toInt32).toInt8 = b
  refine ⟨b.toInt, b.le_toInt, Int.le_of_lt_add_one b.toInt_lt, ?_⟩
  rw [← zI_of b.toInt32, Int8.toInt_toInt32]
/-- a buffer changed: what both hold alike -/
theorem Inv.bf (hI : Inv n m) (f : ∀ a, core a → a ≠ 21 → a ≠ 22 → a ≠ 264 → m2 a = m a) (f21 : ∀ k, k ≠ 1 → m2 21 k = m 21 k) (f9 : ∀ k, k ≠ 0 → k ≠ 18 → m2 249 k = m 249 k) (hb : iBuf m2) : Inv (n + 1) m2 := by
  obtain ⟨i1, i2, ⟨r, W, H, hG⟩, i4, i5, i6, i7, i8⟩ := hI
  have mo : ((n : Nat) : Int) ≤ ((n + 1 : Nat) : Int) := by omega
  have lo : ∀ a, a < 42 → a ≠ 21 → a ≠ 22 → m2 a = m a := fun a ha h1 h2 => f a (Or.inl ha) h1 h2 (by omega)
  have mid : ∀ a, 61 ≤ a → a < 234 → m2 a = m a := fun a ha hb => f a (Or.inr (Or.inl ⟨ha, hb⟩)) (by omega) (by omega) (by omega)
  have hi : ∀ a, (a = 248 ∨ a = 250 ∨ a = 255 ∨ a = 256 ∨ a = 265) → m2 a = m a := fun a ha => f a (by unfold core; omega) (by omega) (by omega) (by omega)
  refine ⟨i1.mm (lo 0 (by decide) (by decide) (by decide)) (lo 1 (by decide) (by decide) (by decide)), i2.mm (fun a _ _ => lo a (by omega) (by omega) (by omega)), ⟨r, W, H, hG.1.mm (hi 250 (by decide)), hG.2.1.mono mo, hG.2.2.mm (fun a _ _ => lo a (by omega) (by omega) (by omega))⟩, i4.mm mo (by rw [lo 20 (by decide) (by decide) (by decide)]) (f9 9 (by decide) (by decide)) (hi 255 (by decide)) (fun a a1 a2 => mid a (by omega) (by omega)), i5.mm mo (mid 80 (by decide) (by decide)) (f9 8 (by decide) (by decide)) (hi 256 (by decide)) (fun a a1 a2 => mid a (by omega) (by omega)), hb, ⟨by rw [f21 2 (by decide), f9 25 (by decide) (by decide)]; exact i7.1, by rw [f21 3 (by decide), f9 26 (by decide) (by decide)]; exact i7.2⟩, i8.mm (by rw [lo 20 (by decide) (by decide) (by decide)]) (f9 30 (by decide) (by decide)) (hi 248 (by decide)) (hi 265 (by decide))⟩
theorem P_1 (hn : n ≤ 512) (hI : Inv n m) : ∀ (a1 : Int32), PP n m (d_121 20 a1 m) (fun m1 => d_283 249 a1 m1) := by
  intro a
  obtain ⟨a, rfl, ha⟩ := zI_ex a
  obtain ⟨l, l1, e1, e2, e3⟩ := hI.2.2.2.2.2.1
  have ref : ∀ M, M 249 18 = zI (l : Nat) → d_283 249 (zI a) M = if 0 ≤ a ∧ a ≤ (l : Nat) then some (true, wr (wr M 249 0 0) 249 18 (zI a)) else some (false, wr M 249 0 0) := fun M hM => by
    unfold d_283
    rw [wbs, wr_nk (by decide), hM, zl_0, m185 ha.1 ha.2 (by decide) (by decide) (by omega) (by omega)]
    simp only [obs]
    by_cases q : 0 ≤ a ∧ a ≤ (l : Nat)
    · rw [decide_eq_true q, if_pos rfl, if_pos q, wbs]
    · rw [decide_eq_false q, if_neg (by decide), if_neg q]
  unfold PP d_121
  rw [k_r0, e1]
  have no : ¬ (0 ≤ a ∧ a ≤ (l : Nat)) → An (some (false, m)) (fun r1 => r1.2 2 = m 2 ∧ An ((fun m1 => d_283 249 (zI a) m1) r1.2) (fun r2 => r1.1 = r2.1 ∧ Inv (n + 1) r2.2)) := fun q => by
    refine An.so ⟨rfl, ?_⟩
    show An (d_283 249 (zI a) m) _
    rw [ref m e2, if_neg q]
    exact An.so ⟨rfl, hI.q Qe.told⟩
  by_cases q0 : a < 0
  · rw [if_pos (by rw [zl_0, zI_lt (by omega) (by omega) (by omega) (by omega)]; exact q0)]
    exact no (by omega)
  · rw [if_neg (by rw [zl_0, zI_lt (by omega) (by omega) (by omega) (by omega)]; exact q0)]
    by_cases q1 : a ≤ (l : Nat)
    · rw [if_pos (by rw [zI_le (by omega) (by omega) (by omega) (by omega)]; exact q1), wbs]
      refine An.so ⟨by dsimp only; exact wr_ne (by decide), ?_⟩
      show An (d_283 249 (zI a) (wr m 21 1 (zI a))) _
      rw [ref _ (by rw [wr_ne (by decide)]; exact e2), if_pos (by omega)]
      refine An.so ⟨rfl, hI.bf (fun b hb b1 b2 b3 => ?_) (fun k hk => ?_) (fun k k0 k1 => ?_) ⟨a.toNat, by omega, ?_, ?_, fun i hi => ?_⟩⟩
      · unfold core at hb
        dsimp only
        rw [wr_ne (by omega), wr_ne (by omega), wr_ne b1]
      · dsimp only
        rw [wr_ne (by decide), wr_ne (by decide), wr_nk hk]
      · dsimp only
        rw [wr_nk k1, wr_nk k0, wr_ne (by decide)]
      · dsimp only
        rw [wr_ne (by decide), wr_ne (by decide), wr_eq]
        exact congrArg zI (by omega)
      · dsimp only
        rw [wr_eq]
        exact congrArg zI (by omega)
      · dsimp only
        rw [wr_ne (by decide), wr_ne (by decide), wr_ne (by decide), wr_ne (by decide), wr_ne (by decide), wr_ne (by decide)]
        exact e3 i (by omega)
    · rw [if_neg (by rw [zI_le (by omega) (by omega) (by omega) (by omega)]; exact q1)]
      exact no (by omega)
theorem b_r0 : sh_r 21 0 = 22 := by decide +kernel
theorem b_n : sh_n 22 = 600 := by decide +kernel
/-- so many bytes put behind l -/
def apd (m M : Mm) (l : Nat) (X : Nat → Int32) (k : Nat) : Prop := M 21 1 = zI ((l + k : Nat) : Int) ∧ (∀ i, i < l → M 22 i = m 22 i) ∧ (∀ i, i < k → M 22 (l + i) = bx (X (i / 4)) (24 - 8 * (i % 4))) ∧ (∀ j, j ≠ 1 → M 21 j = m 21 j) ∧ ∀ a, a ≠ 21 → a ≠ 22 → M a = m a
theorem c97 {l : Nat} {X : Nat → Int32} {g : Nat} (hl : l + 20 ≤ 600) (hg : g < 5) (h : apd m m1 l X (4 * g)) : An (d_97 21 (X g) m1) (fun M => apd m M l X (4 * (g + 1))) := by
  unfold d_97 d_97_3
  rw [show (24 : Int32) = zI (24 - 8 * ((0 : Nat) : Int)) from rfl]
  refine it_inv (fun j (u : Int32 × Mm) => u.1 = zI (24 - 8 * ((j : Nat) : Int)) ∧ apd m u.2 l X (4 * g + j)) _ 4 ⟨rfl, h⟩ (fun j hj u hu => ?_) (fun u hu => ?_)
  · obtain ⟨z, M⟩ := u
    obtain ⟨u1, u2, u3, u4, u5, u6⟩ := hu
    dsimp only at u1 u2 u3 u4 u5 u6
    subst u1
    show An (s_97_3 21 (X g) (zI (24 - 8 * ((j : Nat) : Int))) M) _
    unfold s_97_3
    rw [if_neg (by rw [zl_0, zI_lt (by omega) (by omega) (by omega) (by omega)]; omega), u2, if_neg (by rw [zl_0, zI_lt (by omega) (by omega) (by omega) (by omega)]; omega), if_neg (by rw [zl_600, zI_le (by omega) (by omega) (by omega) (by omega)]; omega), b_r0, b_n, if_pos (in_k (by omega) (by decide)), z_ix (by omega), wbs, wbs, wr_ne (show 21 ≠ 22 by decide), u2, wbs, show (-8 : Int32) = zI (-8) from by decide, zI_add, zl_1, zI_add]
    refine An.so ⟨by dsimp only; exact congrArg zI (by omega), ?_, fun i hi => ?_, fun i hi => ?_, fun i hi => ?_, fun a a1 a2 => ?_⟩
    · dsimp only
      rw [wr_eq]; exact congrArg zI (by omega)
    · dsimp only
      rw [wr_ne (by decide), wr_nk (by omega)]; exact u3 i hi
    · dsimp only
      rw [wr_ne (by decide)]
      by_cases e : i = 4 * g + j
      · rw [e, wr_at, if_pos (by omega), show (4 * g + j) / 4 = g by omega, show (4 * g + j) % 4 = j by omega]
        unfold bx
        rw [show ((24 - 8 * j : Nat) : Int) = 24 - 8 * ((j : Nat) : Int) by omega]
      · rw [wr_nk (by omega)]; exact u4 i (by omega)
    · dsimp only
      rw [wr_nk hi, wr_ne (by decide)]; exact u5 i hi
    · dsimp only
      rw [wr_ne a1, wr_ne a2]; exact u6 a a1 a2
  · obtain ⟨z, M⟩ := u
    obtain ⟨u1, u2⟩ := hu
    dsimp only at u1 u2
    subst u1
    show An (s_97_3 21 (X g) (zI (24 - 8 * ((4 : Nat) : Int))) M) _
    unfold s_97_3
    rw [if_pos (by decide)]
    exact An.so u2
theorem m282 {M : Mm} {l : Nat} (hl : l + 20 ≤ 600) (e : M 249 18 = zI (l : Nat)) {x1 x2 x3 x4 x5 : Int32} {X : Nat → Int32} (h0 : X 0 = x1) (h1 : X 1 = x2) (h2 : X 2 = x3) (h3 : X 3 = x4) (h4 : X 4 = x5) :
    An (d_282_23 249 x1 x2 x3 x4 x5 0 M) (fun p => p.1 = zI ((l + 20 : Nat) : Int) ∧ p.2 249 18 = zI ((l + 20 : Nat) : Int) ∧ (∀ i, i < l → p.2 264 i = M 264 i) ∧ (∀ i, i < 20 → p.2 264 (l + i) = bx (X (i / 4)) (24 - 8 * (i % 4))) ∧ (∀ j, j ≠ 18 → p.2 249 j = M 249 j) ∧ ∀ a, a ≠ 249 → a ≠ 264 → p.2 a = M a) := by
  unfold d_282_23
  rw [zl_0]
  refine it_inv (fun k (u : Int32 × Mm) => u.1 = zI ((k : Nat) : Int) ∧ u.2 249 18 = zI ((l + k : Nat) : Int) ∧ (∀ i, i < l → u.2 264 i = M 264 i) ∧ (∀ i, i < k → u.2 264 (l + i) = bx (X (i / 4)) (24 - 8 * (i % 4))) ∧ (∀ j, j ≠ 18 → u.2 249 j = M 249 j) ∧ ∀ a, a ≠ 249 → a ≠ 264 → u.2 a = M a) _ 20 ⟨rfl, e, fun _ _ => rfl, fun i hi => absurd hi (Nat.not_lt_zero i), fun _ _ => rfl, fun _ _ _ => rfl⟩ (fun k hk u hu => ?_) (fun u hu => ?_)
  · obtain ⟨z, M2⟩ := u
    obtain ⟨u1, u2, u3, u4, u5, u6⟩ := hu
    dsimp only at u1 u2 u3 u4 u5 u6
    subst u1
    have st : s_282_23 249 x1 x2 x3 x4 x5 (zI ((k : Nat) : Int)) M2 = d_282_76 249 x1 x2 x3 x4 x5 (zI ((k : Nat) : Int)) (X (k / 4)) M2 := by
      unfold s_282_23
      rw [show (20 : Int32) = zI 20 from rfl, show (12 : Int32) = zI 12 from rfl, show (16 : Int32) = zI 16 from rfl, zl_4, zl_8, if_neg (by rw [zI_le (by omega) (by omega) (by omega) (by omega)]; omega)]
      by_cases q4 : 4 ≤ k
      · rw [if_pos (by rw [zI_le (by omega) (by omega) (by omega) (by omega)]; omega)]
        by_cases q8 : 8 ≤ k
        · rw [if_pos (by rw [zI_le (by omega) (by omega) (by omega) (by omega)]; omega)]
          by_cases q12 : 12 ≤ k
          · rw [if_pos (by rw [zI_le (by omega) (by omega) (by omega) (by omega)]; omega)]
            by_cases q16 : 16 ≤ k
            · rw [if_pos (by rw [zI_le (by omega) (by omega) (by omega) (by omega)]; omega), show k / 4 = 4 by omega, h4]
            · rw [if_neg (by rw [zI_le (by omega) (by omega) (by omega) (by omega)]; omega), show k / 4 = 3 by omega, h3]
          · rw [if_neg (by rw [zI_le (by omega) (by omega) (by omega) (by omega)]; omega), show k / 4 = 2 by omega, h2]
        · rw [if_neg (by rw [zI_le (by omega) (by omega) (by omega) (by omega)]; omega), show k / 4 = 1 by omega, h1]
      · rw [if_neg (by rw [zI_le (by omega) (by omega) (by omega) (by omega)]; omega), show k / 4 = 0 by omega, h0]
    show An (s_282_23 249 x1 x2 x3 x4 x5 (zI ((k : Nat) : Int)) M2) _
    rw [st]
    unfold d_282_76
    rw [u2, m_r17, n_264, if_pos (in_k (by omega) (by decide)), z_ix (by omega), zl_4, zl_8, show (24 : Int32) = zI 24 from rfl, zI_rm (by omega) (by omega) (by omega) (by omega), zI_mul, zI_sub, wbs, wbs, wr_ne (show 249 ≠ 264 by decide), u2, zl_1, zI_add, wbs, zI_add]
    refine An.so ⟨by dsimp only; exact congrArg zI (by omega), ?_, fun i hi => ?_, fun i hi => ?_, fun j hj => ?_, fun a a1 a2 => ?_⟩
    · dsimp only
      rw [wr_eq]; exact congrArg zI (by omega)
    · dsimp only
      rw [wr_ne (by decide), wr_nk (by omega)]; exact u3 i hi
    · dsimp only
      rw [wr_ne (by decide)]
      by_cases ei : i = k
      · rw [ei, wr_eq]
        unfold bx
        rw [show ((24 - 8 * (k % 4) : Nat) : Int) = 24 - 8 * ((k : Nat) % 4 : Int) by omega]
      · rw [wr_nk (by omega)]; exact u4 i (by omega)
    · dsimp only
      rw [wr_nk hj, wr_ne (by decide)]; exact u5 j hj
    · dsimp only
      rw [wr_ne a1, wr_ne a2]; exact u6 a a1 a2
  · obtain ⟨z, M2⟩ := u
    obtain ⟨u1, u2, u3, u4, u5, u6⟩ := hu
    dsimp only at u1 u2 u3 u4 u5 u6
    subst u1
    show An (s_282_23 249 x1 x2 x3 x4 x5 (zI ((20 : Nat) : Int)) M2) _
    unfold s_282_23 d_282_117
    rw [if_pos (by decide)]
    exact An.mo (An.so ⟨u2, u2, u3, u4, u5, u6⟩)
theorem P_0 (hn : n ≤ 512) (hI : Inv n m) : ∀ (a1 a2 a3 a4 a5 : Int32), PP n m (d_120 20 a1 a2 a3 a4 a5 m) (fun m1 => d_282 249 a1 a2 a3 a4 a5 m1) := by
  intro x1 x2 x3 x4 x5
  obtain ⟨l, l1, e1, e2, e3⟩ := hI.2.2.2.2.2.1
  unfold PP d_120 d_96
  rw [k_r0, e1, show (20 : Int32) = zI 20 from rfl, zl_600, zI_add]
  by_cases q : l + 20 ≤ 600
  · rw [if_neg (by rw [zI_lt (by omega) (by omega) (by omega) (by omega)]; omega)]
    simp only [obs, ift]
    generalize hX : (fun i : Nat => if i = 0 then x1 else if i = 1 then x2 else if i = 2 then x3 else if i = 3 then x4 else x5) = X
    have h0 : X 0 = x1 := by rw [← hX]; rfl
    have h1 : X 1 = x2 := by rw [← hX]; rfl
    have h2 : X 2 = x3 := by rw [← hX]; rfl
    have h3 : X 3 = x4 := by rw [← hX]; rfl
    have h4 : X 4 = x5 := by rw [← hX]; rfl
    have a0 : apd m m l X (4 * 0) := ⟨e1, fun _ _ => rfl, fun i hi => absurd hi (Nat.not_lt_zero i), fun _ _ => rfl, fun _ _ _ => rfl⟩
    rw [← h0, ← h1, ← h2, ← h3, ← h4]
    refine (c97 q (by decide) a0).bd (fun m2 a2 => ?_)
    refine (c97 q (by decide) a2).bd (fun m3 a3 => ?_)
    refine (c97 q (by decide) a3).bd (fun m4 a4 => ?_)
    refine (c97 q (by decide) a4).bd (fun m5 a5 => ?_)
    refine (c97 q (by decide) a5).bd (fun m6 a6 => ?_)
    obtain ⟨b1, b2, b3, b4, b5⟩ := a6
    refine An.so ⟨b5 2 (by decide) (by decide), ?_⟩
    show An (d_282 249 (X 0) (X 1) (X 2) (X 3) (X 4) m6) _
    unfold d_282
    have e6 : wr m6 249 0 0 249 18 = zI (l : Nat) := by rw [wr_nk (by decide), b5 249 (by decide) (by decide)]; exact e2
    rw [wbs, e6, show (20 : Int32) = zI 20 from rfl, zl_600, zI_add, if_pos (by rw [zI_le (by omega) (by omega) (by omega) (by omega)]; omega)]
    refine (m282 q e6 (X := X) rfl rfl rfl rfl rfl).mp (fun p hp => ?_)
    obtain ⟨p1, p2, p3, p4, p5, p6⟩ := hp
    refine ⟨?_, hI.bf (fun b hb c1 c2 c3 => ?_) (fun k hk => ?_) (fun k k0 k1 => ?_) ⟨l + 20, q, ?_, p2, fun i hi => ?_⟩⟩
    · show m6 21 1 = p.1
      rw [b1, p1]
    · unfold core at hb
      rw [p6 b (by omega) c3, wr_ne (by omega), b5 b c1 c2]
    · rw [p6 21 (by decide) (by decide), wr_ne (by decide), b4 k hk]
    · rw [p5 k k1, wr_nk k0, b5 249 (by decide) (by decide)]
    · rw [p6 21 (by decide) (by decide), wr_ne (by decide), b1]
    · rw [p6 22 (by decide) (by decide), wr_ne (by decide)]
      by_cases qi : i < l
      · obtain ⟨v, v1, v2, v3, v4⟩ := e3 i qi
        refine ⟨v, v1, v2, by rw [b2 i qi]; exact v3, by rw [p3 i qi, wr_ne (by decide), b5 264 (by decide) (by decide)]; exact v4⟩
      · obtain ⟨j, rfl⟩ := Nat.exists_eq_add_of_le (Nat.le_of_not_lt qi)
        obtain ⟨v, v1, v2, v3⟩ := bx_r (X (j / 4)) (24 - 8 * (j % 4))
        exact ⟨v, v1, v2, by rw [b3 j (by omega)]; exact v3, by rw [p4 j (by omega)]; exact v3⟩
  · rw [if_pos (by rw [zI_lt (by omega) (by omega) (by omega) (by omega)]; omega)]
    simp only [obs, Bool.false_eq_true, ifn]
    refine An.so ⟨rfl, ?_⟩
    show An (d_282 249 x1 x2 x3 x4 x5 m) _
    unfold d_282
    rw [wbs, wr_nk (by decide), e2, show (20 : Int32) = zI 20 from rfl, zl_600, zI_add, if_neg (by rw [zI_le (by omega) (by omega) (by omega) (by omega)]; omega)]
    exact An.so ⟨rfl, hI.q Qe.told⟩
end HJ
