/-! The reference's boards: reaching, moves, sums. -/
theorem zq_6_1 : (zI 6 = 1) = False := eq_false (by decide)
theorem zq_6_2 : (zI 6 = 2) = False := eq_false (by decide)
theorem zq_6_3 : (zI 6 = 3) = False := eq_false (by decide)
theorem zq_6_4 : (zI 6 = 4) = False := eq_false (by decide)
theorem zq_6_5 : (zI 6 = 5) = False := eq_false (by decide)
theorem cc (W x y : Nat) : (x : Int) + (W : Int) * (y : Int) = ((x + W * y : Nat) : Int) := by simp only [Int.natCast_add, Int.natCast_mul]
section MC
variable {m : Mm} {r : Nat → Int} {W H : Nat}
theorem m201 (h : MW m r W H) {t : Nat} (ht : t + 64 ≤ 584) (hb : BD W H (fun c => r (t + c))) {x y X Y : Nat} (hx : x < W) (hy : y < H) (hX : X < W) (hY : Y < H)
    (hl : (x = X ∧ ¬ y = Y) ∨ (¬ x = X ∧ y = Y) ∨ (ab ((X : Int) - x) = ab ((Y : Int) - y) ∧ ¬ x = X)) :
    d_201 249 (zI t) (zI ((x + W * y : Nat) : Int)) (zI ((X + W * Y : Nat) : Int)) m = some (opn W (fun c => r (t + c)) x y X Y) := by
  have hw := h.2.2.2
  have hw' := hw
  obtain ⟨a, a2, a3, a4⟩ := hw'
  obtain ⟨l1, l2, l3⟩ := line_f (x := x) (y := y) (X := X) (Y := Y) (by omega)
  have b1 := ab_f ((X : Int) - x)
  have b2 := ab_f ((Y : Int) - y)
  have b3 := mx_f (ab ((X : Int) - x)) (ab ((Y : Int) - y))
  have s1 := sn_f ((X : Int) - x)
  have s2 := sn_f ((Y : Int) - y)
  unfold d_201
  rw [m198 h hX hY, m198 h hx hy]
  simp only [obs, zI_sub]
  rw [m200 (by omega) (by omega)]
  simp only [obs]
  rw [if_pos (by rw [m_r1, n_250, zl_0]; exact zI_in_t (by omega) (by omega) (by omega)), m199 h hX hY, m199 h hx hy]
  simp only [obs, zI_sub]
  rw [m200 (by omega) (by omega)]
  have e0 : m (sh_r 249 1) (ix 0) = zI (W : Int) := by
    rw [m_r1]
    have := h.1 0 (by omega)
    rw [h.2.1] at this
    exact this
  simp only [obs, e0, wbs, zI_mul, zI_add]
  unfold opn
  generalize hM : mx (ab ((X : Int) - x)) (ab ((Y : Int) - y)) = M at *
  have e : ((M.toNat - 1 : Nat) : Int) + 1 = M := by omega
  have k := m201_lp h ht hb (sx := sn ((X : Int) - x)) (sy := sn ((Y : Int) - y)) (by omega) (by omega) (by omega) (M.toNat - 1) x y X Y (by omega) (by omega) (by omega) (by omega) (by rw [e, l2]) (by omega) (by omega) (by rw [e, l3]) (by omega) (by omega)
  rw [cc, cc] at k
  exact k
theorem m89 (h : MW m r W H) {t : Nat} (ht : t + 64 ≤ 584) (hb : BD W H (fun c => r (t + c))) {p : Int} (h1 : 1 ≤ p) (h2 : p ≤ 12) {x y X Y : Nat} (hx : x < W) (hy : y < H) (hX : X < W) (hY : Y < H) {tk : Bool}
    {s10 s0 : Bool} (q10 : s10 = true ↔ ((x = X ∧ ¬ y = Y) ∨ (¬ x = X ∧ y = Y))) (q0 : s0 = true ↔ (ab ((X : Int) - x) = ab ((Y : Int) - y) ∧ ¬ x = X)) :
    d_202_89 249 (zI t) (zI p) (zI ((x + W * y : Nat) : Int)) (zI ((X + W * Y : Nat) : Int)) tk (zI ((Y : Int) - y)) (zI (ab ((X : Int) - x))) (zI (ab ((Y : Int) - y))) s10 s0 m = some (rc W (fun c => r (t + c)) p x y X Y tk) := by
  have hw := h.2.2.2
  have hw' := hw
  obtain ⟨a, a2, a3, a4⟩ := hw'
  have b1 := ab_f ((X : Int) - x)
  have b2 := ab_f ((Y : Int) - y)
  have b3 := mx_f (ab ((X : Int) - x)) (ab ((Y : Int) - y))
  have k := m201 h ht hb hx hy hX hY
  have b4 : 0 ≤ ab ((X : Int) - x) * ab ((Y : Int) - y) ∧ ab ((X : Int) - x) * ab ((Y : Int) - y) ≤ 64 :=
    ⟨Int.mul_nonneg b1.1 b2.1, Int.le_trans (Int.mul_le_mul (show ab ((X : Int) - x) ≤ 8 by omega) (show ab ((Y : Int) - y) ≤ 8 by omega) b2.1 (by omega)) (by omega)⟩
  have hq : kd p = 1 ∨ kd p = 2 ∨ kd p = 3 ∨ kd p = 4 ∨ kd p = 5 ∨ kd p = 6 := by
    have := kd_r (p := p) (by omega) h2
    omega
  have hs : sd p = 0 ↔ p ≤ 6 := by unfold sd; repeat' split
                                   all_goals omega
  have hs1 : sd p = 0 ∨ sd p = 1 := by unfold sd; repeat' split
                                       all_goals omega
  unfold d_202_89 rc
  rw [m197 (by omega) h2]
  simp only [obs]
  rw [zI_mx (by omega) (by omega) (by omega) (by omega)]
  generalize opn W (fun c => r (t + c)) x y X Y = O at *
  generalize ab ((X : Int) - x) = A at *
  generalize ab ((Y : Int) - y) = B at *
  generalize mx A B = M at *
  rcases hq with e | e | e | e | e | e <;> rw [e] <;> simp only [zq_0_0, zq_0_1, zq_0_2, zq_0_3, zq_0_4, zq_0_5, zq_1_0, zq_1_1, zq_1_2, zq_1_3, zq_1_4, zq_1_5, zq_2_0, zq_2_1, zq_2_2, zq_2_3, zq_2_4, zq_2_5, zq_3_0, zq_3_1, zq_3_2, zq_3_3, zq_3_4, zq_3_5, zq_4_0, zq_4_1, zq_4_2, zq_4_3, zq_4_4, zq_4_5, zq_5_0, zq_5_1, zq_5_2, zq_5_3, zq_5_4, zq_5_5, zq_6_1, zq_6_2, zq_6_3, zq_6_4, zq_6_5, ift, ifn, Int.reduceAdd, Int.reduceEq]
  · by_cases q : M = 1
    · subst q; rfl
    · rw [if_pos (by rw [zl_1, zI_inj (by omega) (by omega) (by omega) (by omega)]; exact q), decide_eq_false q]
  · unfold d_202_155
    by_cases ql : (x = X ∧ ¬ y = Y) ∨ (¬ x = X ∧ y = Y) ∨ (A = B ∧ ¬ x = X)
    · rw [k ql, decide_eq_true ql, Bool.true_and]
      by_cases q1 : s10 = true
      · rw [if_pos q1]; cases O <;> rfl
      · have hh : ¬ ((x = X ∧ ¬ y = Y) ∨ (¬ x = X ∧ y = Y)) := fun q => q1 (q10.mpr q)
        rw [if_neg q1, if_pos (q0.mpr (by omega))]; cases O <;> rfl
    · rw [decide_eq_false ql, Bool.false_and, if_neg (fun q => ql (by have := q10.mp q; omega)), if_neg (fun q => ql (by have := q0.mp q; omega))]
  · by_cases ql : (x = X ∧ ¬ y = Y) ∨ (¬ x = X ∧ y = Y)
    · rw [k (by omega), decide_eq_true ql, Bool.true_and, if_pos (q10.mpr (by omega))]
      cases O <;> rfl
    · rw [decide_eq_false ql, Bool.false_and, if_neg (fun q => ql (q10.mp q))]
  · by_cases ql : A = B ∧ ¬ x = X
    · rw [k (by omega), decide_eq_true ql, Bool.true_and, if_pos (q0.mpr ql)]
      cases O <;> rfl
    · rw [decide_eq_false ql, Bool.false_and, if_neg (fun q => ql (q0.mp q))]
  · rw [zI_mul]
    by_cases q : A * B = 2
    · rw [q, decide_eq_true rfl]; rfl
    · rw [if_pos (by rw [zl_2, zI_inj (by omega) (by omega) (by omega) (by omega)]; exact q), decide_eq_false q]
  · have pw : ∀ D : Int, (D = 1 ∨ D = -1) → d_202_245 tk (zI A) (zI ((Y : Int) - y)) (zI D) m = some (decide ((Y : Int) - y = D ∧ A = (if tk = true then 1 else 0))) := by
      intro D hD
      unfold d_202_245
      by_cases q1 : (Y : Int) - y = D
      · rw [if_neg (by rw [q1]; exact fun q => q rfl)]
        cases tk
        · show (if ¬ zI A = zI 0 then some false else some true) = some (decide ((Y : Int) - y = D ∧ A = 0))
          by_cases q2 : A = 0
          · rw [q2, decide_eq_true ⟨q1, rfl⟩, if_neg (fun q => q rfl)]
          · rw [if_pos (by rw [zI_inj (by omega) (by omega) (by omega) (by omega)]; exact q2), decide_eq_false (fun q => q2 q.2)]
        · show (if ¬ zI A = zI 1 then some false else some true) = some (decide ((Y : Int) - y = D ∧ A = 1))
          by_cases q2 : A = 1
          · rw [q2, decide_eq_true ⟨q1, rfl⟩, if_neg (fun q => q rfl)]
          · rw [if_pos (by rw [zI_inj (by omega) (by omega) (by omega) (by omega)]; exact q2), decide_eq_false (fun q => q2 q.2)]
      · rw [if_pos (by rw [zI_inj (by omega) (by omega) (by omega) (by omega)]; exact q1), decide_eq_false (fun q => q1 q.1)]
    rw [m196 (by omega) h2]
    simp only [obs]
    by_cases q : sd p = 0
    · rw [q, if_pos rfl, if_neg (by decide)]
      exact pw 1 (Or.inl rfl)
    · rw [if_neg q, if_pos (by rw [zl_0, zI_inj (by omega) (by omega) (by omega) (by omega)]; exact q)]
      exact pw (-1) (Or.inr rfl)
theorem m202 (h : MW m r W H) {t : Nat} (ht : t + 64 ≤ 584) (hb : BD W H (fun c => r (t + c))) {p : Int} (h1 : 1 ≤ p) (h2 : p ≤ 12) {x y X Y : Nat} (hx : x < W) (hy : y < H) (hX : X < W) (hY : Y < H) {tk : Bool} :
    d_202 249 (zI t) (zI p) (zI ((x + W * y : Nat) : Int)) (zI ((X + W * Y : Nat) : Int)) tk m = some (rc W (fun c => r (t + c)) p x y X Y tk) := by
  have hw := h.2.2.2
  have hw' := hw
  obtain ⟨a, a2, a3, a4⟩ := hw'
  have b1 := ab_f ((X : Int) - x)
  have b2 := ab_f ((Y : Int) - y)
  unfold d_202
  rw [m198 h hX hY, m198 h hx hy]
  simp only [obs, wbs]
  rw [m199 h hX hY, m199 h hx hy]
  simp only [obs, wbs, zI_sub]
  rw [zI_ab (by omega) (by omega), zI_ab (by omega) (by omega)]
  have z : ∀ {A : Int}, 0 ≤ A → A ≤ 8 → (zI A = 0 ↔ A = 0) := fun q1 q2 => by rw [zl_0]; exact zI_inj (by omega) (by omega) (by omega) (by omega)
  have z2 : zI (ab ((X : Int) - x)) = zI (ab ((Y : Int) - y)) ↔ ab ((X : Int) - x) = ab ((Y : Int) - y) := zI_inj (by omega) (by omega) (by omega) (by omega)
  have z3 : zI (ab ((X : Int) - x)) ≤ 0 ↔ ab ((X : Int) - x) ≤ 0 := by rw [zl_0]; exact zI_le (by omega) (by omega) (by omega) (by omega)
  have e70 : ∀ s10 : Bool, (s10 = true ↔ ((x = X ∧ ¬ y = Y) ∨ (¬ x = X ∧ y = Y))) → d_202_70 249 (zI t) (zI p) (zI ((x + W * y : Nat) : Int)) (zI ((X + W * Y : Nat) : Int)) tk (zI ((Y : Int) - y)) (zI (ab ((X : Int) - x))) (zI (ab ((Y : Int) - y))) s10 m = some (rc W (fun c => r (t + c)) p x y X Y tk) := by
    intro s10 h10
    unfold d_202_70
    by_cases q : ab ((X : Int) - x) = ab ((Y : Int) - y)
    · rw [if_neg (fun q2 => q2 (z2.mpr q))]
      by_cases q2 : ab ((X : Int) - x) ≤ 0
      · rw [if_pos (z3.mpr q2)]; exact m89 h ht hb h1 h2 hx hy hX hY h10 ⟨fun e => (by cases e), fun e => by omega⟩
      · rw [if_neg (fun q3 => q2 (z3.mp q3))]; exact m89 h ht hb h1 h2 hx hy hX hY h10 ⟨fun _ => ⟨q, by omega⟩, fun _ => rfl⟩
    · rw [if_pos (fun q2 => q (z2.mp q2))]; exact m89 h ht hb h1 h2 hx hy hX hY h10 ⟨fun e => (by cases e), fun e => absurd e.1 q⟩
  by_cases qA : ab ((X : Int) - x) = 0
  · rw [if_neg (fun q => q ((z b1.1 (by omega)).mpr qA))]
    unfold d_202_52
    by_cases qB : ab ((Y : Int) - y) = 0
    · rw [if_neg (fun q => q ((z b2.1 (by omega)).mpr qB))]
      unfold d_202_62
      rw [if_pos rfl]
      exact e70 false ⟨fun e => (by cases e), fun e => by omega⟩
    · rw [if_pos (fun q => qB ((z b2.1 (by omega)).mp q))]
      unfold d_202_62
      rw [if_neg (by decide)]
      exact e70 true ⟨fun _ => by omega, fun _ => rfl⟩
  · rw [if_pos (fun q => qA ((z b1.1 (by omega)).mp q))]
    unfold d_202_52
    by_cases qB : ab ((Y : Int) - y) = 0
    · rw [if_neg (fun q => q ((z b2.1 (by omega)).mpr qB))]
      unfold d_202_62
      rw [if_neg (by decide)]
      exact e70 true ⟨fun _ => by omega, fun _ => rfl⟩
    · rw [if_pos (fun q => qB ((z b2.1 (by omega)).mp q))]
      unfold d_202_62
      rw [if_pos rfl]
      exact e70 false ⟨fun e => (by cases e), fun e => by omega⟩
theorem m_in {k : Nat} (hk : k < 584) : ev_in (zI (k : Int)) (sh_n (sh_r 249 1)) = true := by
  rw [m_r1, n_250]; exact zI_in_t (by omega) (by omega) (by omega)
theorem m_rd (h : MW m r W H) {k : Nat} (hk : k < 584) : m (sh_r 249 1) (ix (zI (k : Int))) = zI (r k) := by
  rw [m_r1]
  show m 250 (zI (k : Int)).toNatClampNeg = _
  rw [zI_ix (by omega) (by omega), Int.toNat_natCast]; exact h.1 k hk
theorem z_ad (t k : Nat) : zI (t : Int) + zI (k : Int) = zI ((t + k : Nat) : Int) := by rw [zI_add, Int.natCast_add]
theorem m203 (h : MW m r W H) {t : Nat} (ht : t + 64 ≤ 584) (hb : BD W H (fun c => r (t + c))) {s : Int} (h1 : 0 ≤ s) (h2 : s ≤ 1) {x y X Y : Nat} (hx : x < W) (hy : y < H) (hX : X < W) (hY : Y < H) :
    d_203 249 (zI t) (zI s) (zI ((x + W * y : Nat) : Int)) (zI ((X + W * Y : Nat) : Int)) m = some (mv W (fun c => r (t + c)) s x y X Y) := by
  have hw := h.2.2.2
  have c1 := cell_64 hw hx hy
  have c2 := cell_64 hw hX hY
  have b1 : 0 ≤ r (t + (x + W * y)) ∧ r (t + (x + W * y)) ≤ 12 := hb x y hx hy
  have b2 : 0 ≤ r (t + (X + W * Y)) ∧ r (t + (X + W * Y)) ≤ 12 := hb X Y hX hY
  have sdr : ∀ p : Int, -1 ≤ sd p ∧ sd p ≤ 1 := fun p => by unfold sd; repeat' split
                                                            all_goals omega
  unfold d_203 mv
  rw [z_ad, z_ad, if_pos (m_in (by omega)), m_rd h (by omega)]
  simp only [wbs]
  rw [if_pos (m_in (by omega)), m_rd h (by omega)]
  have e0 : zI ((x + W * y : Nat) : Int) = zI ((X + W * Y : Nat) : Int) ↔ x = X ∧ y = Y := by
    rw [zI_inj (by omega) (by omega) (by omega) (by omega), ← cell_in hx hX]; omega
  by_cases q0 : x = X ∧ y = Y
  · rw [if_pos (e0.mpr q0), decide_eq_false (fun q => q.1 q0), Bool.false_and]
  · rw [if_neg (fun q => q0 (e0.mp q)), m196 b1.1 b1.2]
    simp only [obs]
    have s1 := sdr (r (t + (x + W * y)))
    have s2 := sdr (r (t + (X + W * Y)))
    by_cases q1 : sd (r (t + (x + W * y))) = s
    · rw [if_neg (by rw [q1]; exact fun q => q rfl), m196 b2.1 b2.2]
      simp only [obs]
      by_cases q2 : sd (r (t + (X + W * Y))) = s
      · rw [if_neg (by rw [q2]; exact fun q => q rfl), decide_eq_false (fun q => q.2.2 q2), Bool.false_and]
      · rw [if_pos (by rw [zI_inj (by omega) (by omega) (by omega) (by omega)]; exact q2), decide_eq_true ⟨q0, q1, q2⟩, Bool.true_and]
        have p1 := sd_1 b1.1 b1.2 h1 q1
        unfold d_203_64
        by_cases q3 : r (t + (X + W * Y)) = 0
        · rw [if_pos (by rw [q3, zl_0]), m202 h ht hb p1 b1.2 hx hy hX hY, decide_eq_false (fun q => q q3)]
          simp only [obs]
        · rw [if_neg (by rw [zl_0, zI_inj (by omega) (by omega) (by omega) (by omega)]; exact q3), m202 h ht hb p1 b1.2 hx hy hX hY, decide_eq_true q3]
          simp only [obs]
    · rw [if_pos (by rw [zI_inj (by omega) (by omega) (by omega) (by omega)]; exact q1), decide_eq_false (fun q => q1 q.2.1), Bool.false_and]
theorem m204 (h : MW m r W H) {p : Int} (h1 : 0 ≤ p) (h2 : p ≤ 12) {x y : Nat} (hx : x < W) (hy : y < H) : d_204 249 (zI p) (zI ((x + W * y : Nat) : Int)) m = some (bq H p y) := by
  have hw := h.2.2.2
  obtain ⟨a, a2, a3, a4⟩ := hw
  have k := kd_r h1 h2
  have sdr : -1 ≤ sd p ∧ sd p ≤ 1 := by unfold sd; repeat' split
                                        all_goals omega
  have e1 := m_rd h (k := 1) (by omega)
  have e2 : ev_in (zI 1) (sh_n (sh_r 249 1)) = true := m_in (k := 1) (by omega)
  rw [h.2.2.1] at e1
  unfold d_204 d_204_33 bq
  rw [m197 h1 h2, zl_1]
  simp only [obs]
  by_cases q : kd p = 6
  · rw [q, if_neg (by decide), m199 h hx hy]
    simp only [obs]
    rw [m196 h1 h2]
    simp only [obs]
    by_cases q2 : sd p = 0
    · rw [q2, if_neg (by decide), if_pos e2, if_pos rfl]
      have e3 : m (sh_r 249 1) (ix (zI 1)) = zI H := e1
      rw [e3, zI_sub]
      by_cases q3 : (y : Int) = (H : Int) - 1
      · rw [q3, if_neg (fun q => q rfl), decide_eq_true ⟨trivial, rfl⟩]
      · rw [if_pos (by rw [zI_inj (by omega) (by omega) (by omega) (by omega)]; exact q3), decide_eq_false (fun q => q3 q.2)]
    · rw [if_pos (by rw [zl_0, zI_inj (by omega) (by omega) (by omega) (by omega)]; exact q2), if_neg q2]
      by_cases q3 : (y : Int) = 0
      · rw [q3, if_neg (by decide), decide_eq_true ⟨trivial, rfl⟩]
      · rw [if_pos (by rw [zl_0, zI_inj (by omega) (by omega) (by omega) (by omega)]; exact q3), decide_eq_false (fun q => q3 q.2)]
  · rw [if_pos (by rw [zl_6, zI_inj (by omega) (by omega) (by omega) (by omega)]; exact q), decide_eq_false (fun e => q e.1)]
end MC
