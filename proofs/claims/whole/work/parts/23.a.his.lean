/-! What is kept ahead of a change. -/
section HA
variable {m m1 m2 : Mm} {W H n : Nat} {r r' : Nat → Int}
/-- the class has kept r -/
def Hc (m M : Mm) (r : Nat → Int) (W H : Nat) : Prop := ∀ c x : Nat, c ≤ 8 → x < 8 → m 80 2 = zI (c : Nat) → m 80 1 = zI (x : Nat) → M 80 2 = zI ((if c = 8 then 8 else c + 1 : Nat) : Int) ∧ M 80 1 = zI (((x + 1) % 8 : Nat) : Int) ∧ GR M (82 + 19 * x) r W H ∧ ∀ a, 82 ≤ a → a < 234 → ¬ (82 + 19 * x ≤ a ∧ a ≤ 100 + 19 * x) → M a = m a
/-- the reference has kept r -/
def Hm (m M : Mm) (r : Nat → Int) : Prop := ∀ c : Nat, c ≤ 8 → m 249 8 = zI (c : Nat) → M 249 8 = zI ((if c = 8 then 8 else c + 1 : Nat) : Int) ∧ ∀ j k, k < 584 → (if c = 8 then (j < 7 → M 256 (584 * j + k) = m 256 (584 * (j + 1) + k)) ∧ (j = 7 → M 256 (584 * j + k) = zI (r k)) else (j < c → M 256 (584 * j + k) = m 256 (584 * j + k)) ∧ (j = c → M 256 (584 * j + k) = zI (r k)))
theorem h_r0 : sh_r 80 0 = 81 := by decide +kernel
theorem h_n : sh_n 81 = 8 := by decide +kernel
theorem h_r : ∀ i, i < 8 → sh_r 81 i = 82 + 19 * i := by decide +kernel
theorem c65 (hk : rok r) (h : GR m 23 r W H) {c x : Nat} (hc : c ≤ 8) (hx : x < 8) (e2 : m 80 2 = zI (c : Nat)) (e1 : m 80 1 = zI (x : Nat)) :
    An (d_65 80 23 m) (fun M => Hc m M r W H ∧ ∀ a, a ≠ 80 → ¬ (82 ≤ a ∧ a < 234) → M a = m a) := by
  have ea : zI (x : Nat) &&& 7 = zI (x : Nat) := by
    have := zI_and7 x
    rw [Nat.mod_eq_of_lt hx] at this
    exact this
  have eb : zI ((x + 1 : Nat) : Int) &&& 7 = zI (((x + 1) % 8 : Nat) : Int) := zI_and7 (x + 1)
  unfold d_65
  rw [h_r0, h_n, e1, ea, if_pos (in_k hx (by decide)), z_ix (by omega), h_r x hx]
  refine (c49 gA_23 (gA_h hx) (by omega) hk.1 hk.2.1 hk.2.2 h).bd (fun M hM => ?_)
  obtain ⟨g, f⟩ := hM
  unfold d_65_22
  have f80 : M 80 = m 80 := f 80 (by omega)
  rw [f80, e1, z1n, z_ad, eb, wbs, wbs, wr_nk (by decide), f80, e2, z_ad, show (8 : Int32) = zI 8 from rfl, zI_min (by omega) (by omega) (by omega) (by omega)]
  refine An.so ⟨fun c' x' hc' hx' e2' e1' => ?_, fun a a1 a2 => ?_⟩
  · have cc' : c' = c := by
      rw [e2, zI_inj (by omega) (by omega) (by omega) (by omega)] at e2'
      omega
    have xx' : x' = x := by
      rw [e1, zI_inj (by omega) (by omega) (by omega) (by omega)] at e1'
      omega
    subst cc'
    subst xx'
    refine ⟨?_, ?_, ?_, fun a a1 a2 a3 => ?_⟩
    · rw [wr_eq]
      congr 1
      split <;> split <;> omega
    · rw [wr_nk (by decide), wr_eq]
    · exact g.mm (fun a a1 a2 => by rw [wr_ne (by omega), wr_ne (by omega)])
    · rw [wr_ne (by omega), wr_ne (by omega), f a (by omega)]
  · rw [wr_ne a1, wr_ne a1, f a (by omega)]
theorem m188 : An (d_188 249 m) (fun M => (∀ k, k < 584 → M 251 k = m 250 k) ∧ ∀ a, a ≠ 251 → M a = m a) := by
  unfold d_188
  rw [m_r1, m_r2]
  exact (m186 (a := 250) (b := 251) (by decide) n_250 n_251).bd (fun M hM => An.so hM)
theorem m_r8 : sh_r 249 7 = 256 := m_r7
theorem m189 {c : Nat} (hc : c ≤ 8) (h8 : m 249 8 = zI (c : Nat)) (h : ∀ k, k < 584 → m 251 k = zI (r k)) {v : Int32} :
    An (d_189 249 v m) (fun p => p.1 = v ∧ Hm m p.2 r ∧ (∀ a, a ≠ 249 → a ≠ 256 → p.2 a = m a) ∧ ∀ k, k ≠ 8 → p.2 249 k = m 249 k) := by
  have tl : ∀ (M : Mm) (d : Nat), d < 8 → M 249 8 = zI (d : Nat) → (∀ k, k < 584 → M 251 k = zI (r k)) → An (d_189_52 249 v 0 M) (fun p => p.1 = v ∧ p.2 249 8 = zI ((d + 1 : Nat) : Int) ∧ (∀ k, k < 584 → p.2 256 (584 * d + k) = zI (r k)) ∧ (∀ k, k < 584 * d → p.2 256 k = M 256 k) ∧ (∀ a, a ≠ 249 → a ≠ 256 → p.2 a = M a) ∧ ∀ k, k ≠ 8 → p.2 249 k = M 249 k) := by
    intro M d hd e8 hr
    unfold d_189_52
    rw [zl_0]
    refine it_inv (fun j (u : Int32 × Mm) => u.1 = zI (j : Nat) ∧ (∀ k, k < j → u.2 256 (584 * d + k) = zI (r k)) ∧ (∀ k, k < 584 * d → u.2 256 k = M 256 k) ∧ ∀ a, a ≠ 256 → u.2 a = M a) _ 584 ⟨rfl, fun k hk => absurd hk (Nat.not_lt_zero k), fun _ _ => rfl, fun _ _ => rfl⟩ (fun j hj u hu => ?_) (fun u hu => ?_)
    · obtain ⟨z, M2⟩ := u
      obtain ⟨q1, q2, q3, q4⟩ := hu
      dsimp only at q1 q2 q3 q4
      subst q1
      show An (s_189_52 249 v (zI (j : Nat)) M2) _
      unfold s_189_52
      rw [if_neg (by rw [show (584 : Int32) = zI 584 from rfl, zI_le (by omega) (by omega) (by omega) (by omega)]; omega), m_r2, m_r7, n_251, n_256, if_pos (in_k hj (by decide)), q4 249 (by decide), e8, show (584 : Int32) = zI 584 from rfl, zI_mul, zI_add, show (584 : Int) * (d : Nat) + (j : Nat) = ((584 * d + j : Nat) : Int) by omega, if_pos (in_k (by omega) (by decide)), z_ix (by omega), z_ix (by omega), q4 251 (by decide), hr j hj]
      simp only [wbs]
      refine An.so ⟨by rw [zl_1, zI_add]; rfl, fun k hk => ?_, fun k hk => ?_, fun a ha => ?_⟩
      · dsimp only
        by_cases e : k = j
        · rw [e, wr_eq]
        · rw [wr_nk (by omega)]; exact q2 k (by omega)
      · dsimp only
        rw [wr_nk (by omega)]; exact q3 k hk
      · dsimp only
        rw [wr_ne ha]; exact q4 a ha
    · obtain ⟨z, M2⟩ := u
      obtain ⟨q1, q2, q3, q4⟩ := hu
      dsimp only at q1 q2 q3 q4
      subst q1
      show An (s_189_52 249 v (zI ((584 : Nat) : Int)) M2) _
      unfold s_189_52 d_189_86
      rw [if_pos (by decide), wbs, q4 249 (by decide), e8, z1n, z_ad]
      refine An.mo (An.so ⟨rfl, ?_, fun k hk => ?_, fun k hk => ?_, fun a a1 a2 => ?_, fun k hk => ?_⟩)
      · dsimp only
        rw [wr_eq]
      · dsimp only
        rw [wr_ne (by decide)]; exact q2 k hk
      · dsimp only
        rw [wr_ne (by decide)]; exact q3 k hk
      · dsimp only
        rw [wr_ne a1]; exact q4 a a2
      · dsimp only
        rw [wr_nk hk, q4 249 (by decide)]
  unfold d_189
  rw [h8]
  by_cases q : c = 8
  · rw [if_neg (by rw [q]; exact fun e => e rfl)]
    unfold d_189_11
    rw [zl_0]
    refine it_inv (fun j (u : Int32 × Mm) => u.1 = zI (j : Nat) ∧ (∀ k, k < j → u.2 256 k = m 256 (k + 584)) ∧ (∀ k, j ≤ k → u.2 256 k = m 256 k) ∧ ∀ a, a ≠ 256 → u.2 a = m a) _ 4088 ⟨rfl, fun k hk => absurd hk (Nat.not_lt_zero k), fun _ _ => rfl, fun _ _ => rfl⟩ (fun j hj u hu => ?_) (fun u hu => ?_)
    · obtain ⟨z, M2⟩ := u
      obtain ⟨q1, q2, q3, q4⟩ := hu
      dsimp only at q1 q2 q3 q4
      subst q1
      show An (s_189_11 249 v (zI (j : Nat)) M2) _
      unfold s_189_11
      rw [if_neg (by rw [show (4088 : Int32) = zI 4088 from rfl, zI_le (by omega) (by omega) (by omega) (by omega)]; omega), m_r7, n_256, show (584 : Int32) = zI ((584 : Nat) : Int) from rfl, z_ad, if_pos (in_k (by omega) (by decide)), if_pos (in_k (by omega) (by decide)), z_ix (by omega), z_ix (by omega), q3 (j + 584) (by omega)]
      simp only [wbs]
      refine An.so ⟨by rw [zl_1, zI_add]; rfl, fun k hk => ?_, fun k hk => ?_, fun a ha => ?_⟩
      · dsimp only
        by_cases e : k = j
        · rw [e, wr_eq]
        · rw [wr_nk e]; exact q2 k (by omega)
      · dsimp only
        rw [wr_nk (by omega)]; exact q3 k (by omega)
      · dsimp only
        rw [wr_ne ha]; exact q4 a ha
    · obtain ⟨z, M2⟩ := u
      obtain ⟨q1, q2, q3, q4⟩ := hu
      dsimp only at q1 q2 q3 q4
      subst q1
      show An (s_189_11 249 v (zI ((4088 : Nat) : Int)) M2) _
      unfold s_189_11 d_189_40
      rw [if_pos (by decide), wbs, q4 249 (by decide), h8, q, z1n, zI_sub]
      refine An.mo ((tl _ 7 (by decide) (by rw [wr_eq]; rfl) (fun k hk => by rw [wr_ne (by decide), q4 251 (by decide)]; exact h k hk)).mp (fun p hp => ?_))
      obtain ⟨p1, p2, p3, p4, p5, p6⟩ := hp
      refine ⟨p1, fun c' hc' e' => ?_, fun a a1 a2 => by rw [p5 a a1 a2, wr_ne a1, q4 a a2], fun k hk => by rw [p6 k hk, wr_nk hk, q4 249 (by decide)]⟩
      have cc' : c' = 8 := by
        rw [h8, zI_inj (by omega) (by omega) (by omega) (by omega)] at e'
        omega
      subst cc'
      refine ⟨by rw [p2, if_pos rfl], fun j k hk => ?_⟩
      rw [if_pos rfl]
      refine ⟨fun hj => ?_, fun hj => ?_⟩
      · rw [p4 _ (by omega), wr_ne (by decide), q2 _ (by omega), show 584 * j + k + 584 = 584 * (j + 1) + k by omega]
      · rw [hj]; exact p3 k hk
  · rw [if_pos (by rw [zl_8, zI_inj (by omega) (by omega) (by omega) (by omega)]; omega)]
    refine (tl m c (by omega) h8 h).mp (fun p hp => ?_)
    obtain ⟨p1, p2, p3, p4, p5, p6⟩ := hp
    refine ⟨p1, fun c' hc' e' => ?_, p5, p6⟩
    have cc' : c' = c := by
      rw [h8, zI_inj (by omega) (by omega) (by omega) (by omega)] at e'
      omega
    subst cc'
    refine ⟨by rw [p2, if_neg q], fun j k hk => ?_⟩
    rw [if_neg q]
    exact ⟨fun hj => p4 _ (by omega), fun hj => by rw [hj]; exact p3 k hk⟩
/-- a change, by the class and by the reference -/
def chC (m M : Mm) (r r' : Nat → Int) (W H : Nat) : Prop := (∀ a, core a → a ≠ 80 → ¬ (82 ≤ a ∧ a < 234) → ¬ (23 ≤ a ∧ a ≤ 41) → M a = m a) ∧ M 249 = m 249 ∧ GR M 23 r' W H ∧ Hc m M r W H
def chM (m M : Mm) (r r' : Nat → Int) : Prop := (∀ a, core a → a ≠ 250 → a ≠ 256 → M a = m a) ∧ (∀ k, k ≠ 0 → k ≠ 8 → M 249 k = m 249 k) ∧ MR M r' ∧ Hm m M r
theorem Inv.ch (hI : Inv n m) (hG : iGam n m r W H) (hR : RG (n + 1 : Nat) r' W H) (h1 : chC m m1 r r' W H) (h2 : chM m1 m2 r r') : Inv (n + 1) m2 := by
  obtain ⟨i1, i2, -, i4, i5, i6, i7, i8⟩ := hI
  obtain ⟨a1, a2, a3, a4⟩ := h1
  obtain ⟨b1, b2, b3, b4⟩ := h2
  have e : ∀ a, core a → a ≠ 80 → ¬ (82 ≤ a ∧ a < 234) → ¬ (23 ≤ a ∧ a ≤ 41) → a ≠ 250 → a ≠ 256 → m2 a = m a := fun a ha q1 q2 q3 q4 q5 => (b1 a ha q4 q5).trans (a1 a ha q1 q2 q3)
  have lo : ∀ a, a < 23 → m2 a = m a := fun a ha => e a (Or.inl (by omega)) (by omega) (by omega) (by omega) (by omega) (by omega)
  have hi : ∀ a, (a = 248 ∨ a = 255 ∨ a = 264 ∨ a = 265) → m2 a = m a := fun a ha => e a (by unfold core; omega) (by omega) (by omega) (by omega) (by omega) (by omega)
  have e9 : ∀ k, k ≠ 0 → k ≠ 8 → m2 249 k = m 249 k := fun k k1 k2 => by rw [b2 k k1 k2, a2]
  have mo : ((n : Nat) : Int) ≤ ((n + 1 : Nat) : Int) := by omega
  refine ⟨?_, ?_, ?_, ?_, ?_, ?_, ?_, ?_⟩
  · unfold VL; rw [lo 0 (by decide), lo 1 (by decide)]; exact i1
  · intro k hk i hi'
    rw [lo (3 + k) (by omega)]; exact i2 k hk i hi'
  · exact ⟨r', W, H, b3, hR, a3.mm (fun a _ _ => b1 a (Or.inl (by omega)) (by omega) (by omega))⟩
  · obtain ⟨B, c1, c2, c3⟩ := i4
    refine ⟨B, by rw [lo 20 (by decide)]; exact c1, by rw [e9 9 (by decide) (by decide)]; exact c2, fun hB => ?_⟩
    obtain ⟨ρ, W', H', d1, d2, d3⟩ := c3 hB
    exact ⟨ρ, W', H', d1.mm (hi _ (by decide)), d2.mono mo, d3.mm (fun a _ _ => e a (Or.inr (Or.inl ⟨by omega, by omega⟩)) (by omega) (by omega) (by omega) (by omega) (by omega))⟩
  · obtain ⟨c, x, c1, x1, e2, e1, e3, c6⟩ := i5
    obtain ⟨k1, k2, k3, k4⟩ := a4 c x c1 x1 e2 e1
    obtain ⟨l1, l2⟩ := b4 c c1 (by rw [a2]; exact e3)
    have f80 : m2 80 = m1 80 := b1 80 (Or.inr (Or.inl (by decide))) (by decide) (by decide)
    have fs : ∀ a, 82 ≤ a → a < 234 → m2 a = m1 a := fun a q1 q2 => b1 a (Or.inr (Or.inl ⟨by omega, q2⟩)) (by omega) (by omega)
    have e256 : m1 256 = m 256 := a1 256 (by unfold core; decide) (by decide) (by decide) (by decide)
    have new : ∀ j, (∀ k, k < 584 → m2 256 (584 * j + k) = zI (r k)) → ∀ i, i = 82 + 19 * x → ∃ ρ W' H', MA m2 256 (584 * j) ρ ∧ RG (n + 1 : Nat) ρ W' H' ∧ GR m2 i ρ W' H' := fun j hj i hi' => ⟨r, W, H, hj, hG.2.1.mono mo, by rw [hi']; exact k3.mm (fun a _ _ => fs a (by omega) (by omega))⟩
    have old : ∀ j j', j < c → (∀ k, k < 584 → m2 256 (584 * j' + k) = m 256 (584 * j + k)) → (x + 8 - c + j) % 8 ≠ x → ∀ i, i = 82 + 19 * ((x + 8 - c + j) % 8) → ∃ ρ W' H', MA m2 256 (584 * j') ρ ∧ RG (n + 1 : Nat) ρ W' H' ∧ GR m2 i ρ W' H' := fun j j' hj hj' hne i hi' => by
      obtain ⟨ρ, W', H', d1, d2, d3⟩ := c6 j hj
      refine ⟨ρ, W', H', fun k hk => by rw [hj' k hk]; exact d1 k hk, d2.mono mo, ?_⟩
      rw [hi']
      exact d3.mm (fun a q1 q2 => by rw [fs a (by omega) (by omega), k4 a (by omega) (by omega) (by omega)])
    by_cases q : c = 8
    · subst q
      rw [if_pos rfl] at k1 l1
      refine ⟨8, (x + 1) % 8, by decide, by omega, by rw [f80]; exact k1, by rw [f80]; exact k2, l1, fun j hj => ?_⟩
      by_cases q7 : j = 7
      · refine new j (fun k hk => ?_) _ (by rw [q7]; omega)
        have := l2 j k hk
        rw [if_pos rfl] at this
        exact this.2 q7
      · refine old (j + 1) j (by omega) (fun k hk => ?_) (by omega) _ (by congr 2; omega)
        have := l2 j k hk
        rw [if_pos rfl] at this
        rw [this.1 (by omega), e256]
    · rw [if_neg q] at k1 l1
      refine ⟨c + 1, (x + 1) % 8, by omega, by omega, by rw [f80]; exact k1, by rw [f80]; exact k2, l1, fun j hj => ?_⟩
      by_cases q7 : j = c
      · refine new j (fun k hk => ?_) _ (by rw [q7]; omega)
        have := l2 j k hk
        rw [if_neg q] at this
        exact this.2 q7
      · refine old j j (by omega) (fun k hk => ?_) (by omega) _ (by congr 2; omega)
        have := l2 j k hk
        rw [if_neg q] at this
        rw [this.1 (by omega), e256]
  · obtain ⟨l, c1, c2, c3, c4⟩ := i6
    exact ⟨l, c1, by rw [lo 21 (by decide)]; exact c2, by rw [e9 18 (by decide) (by decide)]; exact c3, fun i hi' => by rw [lo 22 (by decide), hi 264 (by decide)]; exact c4 i hi'⟩
  · exact ⟨by rw [lo 21 (by decide), e9 25 (by decide) (by decide)]; exact i7.1, by rw [lo 21 (by decide), e9 26 (by decide) (by decide)]; exact i7.2⟩
  · obtain ⟨l, c1, c2, c3, c4⟩ := i8
    exact ⟨l, c1, by rw [lo 20 (by decide)]; exact c2, by rw [e9 30 (by decide) (by decide)]; exact c3, fun i hi' => by rw [hi 248 (by decide), hi 265 (by decide)]; exact c4 i hi'⟩
/-- a call that changes the game -/
theorem PR_ch {qc : Option (Int32 × Mm)} {qm : Mm → Option (Int32 × Mm)} {v : Int32} (hI : Inv n m) (hG : iGam n m r W H) (hR : RG (n + 1 : Nat) r' W H) (h1 : An qc (fun r1 => r1.1 = 0 ∧ r1.2 266 0 = v ∧ chC m r1.2 r r' W H)) (h2 : ∀ M, MR M r → VL M → (∃ c : Nat, c ≤ 8 ∧ M 249 8 = zI (c : Nat)) → An (qm M) (fun r2 => r2.2 249 0 = 0 ∧ r2.1 = v ∧ r2.2 266 = M 266 ∧ chM M r2.2 r r')) : PR n m qc qm := by
  refine h1.mp (fun r1 ⟨a1, a2, a3⟩ => ⟨?_, 0, v, Or.inl rfl, a1, fun _ => a2, ?_⟩)
  · exact a3.1 2 (Or.inl (by decide)) (by decide) (by decide) (by decide)
  · obtain ⟨c, x, c1, x1, e2, e1, e3, -⟩ := hI.2.2.2.2.1
    have hv : VL r1.2 := by
      unfold VL
      rw [a3.1 0 (Or.inl (by decide)) (by decide) (by decide) (by decide), a3.1 1 (Or.inl (by decide)) (by decide) (by decide) (by decide)]
      exact hI.1
    refine (h2 r1.2 (hG.1.mm (a3.1 250 (by unfold core; decide) (by decide) (by decide) (by decide))) hv ⟨c, c1, by rw [a3.2.1]; exact e3⟩).mp (fun r2 ⟨b1, b2, b3, b4⟩ => ⟨b1, fun _ => b2, b3, hI.ch hG hR a3 b4⟩)
/-- the class's change, out of what it kept and what it did to the game -/
theorem chC.of {m0 : Mm} (h1 : Hc m m0 r W H) (f1 : ∀ a, a ≠ 80 → ¬ (82 ≤ a ∧ a < 234) → m0 a = m a) (f2 : ∀ a, a < 23 ∨ (41 < a ∧ a < 234) ∨ 236 < a → m1 a = m0 a) (g : GR m1 23 r' W H) {k : Nat} {v : Int32} : chC m (wr m1 266 k v) r r' W H := by
  refine ⟨fun a ha q1 q2 q3 => ?_, ?_, g.mm (fun a _ _ => wr_ne (by omega)), fun c x hc hx e2 e1 => ?_⟩
  · unfold core at ha
    rw [wr_ne (by omega), f2 a (by omega), f1 a q1 q2]
  · rw [wr_ne (by decide), f2 249 (by omega), f1 249 (by decide) (by omega)]
  · obtain ⟨k1, k2, k3, k4⟩ := h1 c x hc hx e2 e1
    refine ⟨by rw [wr_ne (by decide), f2 80 (by omega)]; exact k1, by rw [wr_ne (by decide), f2 80 (by omega)]; exact k2, k3.mm (fun a _ _ => by rw [wr_ne (by omega), f2 a (by omega)]), fun a q1 q2 q3 => by rw [wr_ne (by omega), f2 a (by omega)]; exact k4 a q1 q2 q3⟩
/-- the reference's change, out of what it kept and what it did to the row -/
theorem chM.of {M M0 M1 : Mm} {v : Int32} (hr : MR M r) (hc : ∃ c : Nat, c ≤ 8 ∧ M 249 8 = zI (c : Nat)) (h0 : (∀ k, k < 584 → M0 251 k = wr M 249 0 (zI 0) 250 k) ∧ ∀ a, a ≠ 251 → M0 a = wr M 249 0 (zI 0) a) (f1 : ∀ a, core a ∨ a = 249 ∨ a = 251 ∨ a = 266 → a ≠ 250 → M1 a = M0 a) (g : MR M1 r') : An (d_189 249 v M1) (fun r2 => r2.2 249 0 = 0 ∧ r2.1 = v ∧ r2.2 266 = M 266 ∧ chM M r2.2 r r') := by
  obtain ⟨c, c8, e8⟩ := hc
  have e249 : M1 249 = wr M 249 0 (zI 0) 249 := by rw [f1 249 (by omega) (by decide), h0.2 249 (by decide)]
  have e256 : M1 256 = M 256 := by rw [f1 256 (by unfold core; omega) (by decide), h0.2 256 (by decide), wr_ne (by decide)]
  refine (m189 (r := r) c8 (by rw [e249, wr_nk (by decide)]; exact e8) (fun k hk => by rw [f1 251 (by omega) (by decide), h0.1 k hk, wr_ne (by decide)]; exact hr k hk)).mp (fun p hp => ?_)
  obtain ⟨p1, p2, p3, p4⟩ := hp
  refine ⟨by rw [p4 0 (by decide), e249, wr_eq]; rfl, p1, by rw [p3 266 (by decide) (by decide), f1 266 (by omega) (by decide), h0.2 266 (by decide), wr_ne (by decide)], fun a ha q1 q2 => ?_, fun k k1 k2 => by rw [p4 k k2, e249, wr_nk k1], g.mm (p3 250 (by decide) (by decide)), fun c' hc' e' => ?_⟩
  · have ha' := ha
    unfold core at ha'
    rw [p3 a (by omega) q2, f1 a (Or.inl ha) q1, h0.2 a (by omega), wr_ne (by omega)]
  · have := p2 c' hc' (by rw [e249, wr_nk (by decide)]; exact e')
    rw [e256] at this
    exact this
end HA
