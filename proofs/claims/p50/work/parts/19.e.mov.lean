/-! What a side may move, on the class's boards. -/
theorem zq_0_0 : (zI 0 = 0) = True := eq_true (by decide)
theorem zq_0_1 : (zI 0 = 1) = False := eq_false (by decide)
theorem zq_0_2 : (zI 0 = 2) = False := eq_false (by decide)
theorem zq_0_3 : (zI 0 = 3) = False := eq_false (by decide)
theorem zq_0_4 : (zI 0 = 4) = False := eq_false (by decide)
theorem zq_0_5 : (zI 0 = 5) = False := eq_false (by decide)
theorem zq_1_0 : (zI 1 = 0) = False := eq_false (by decide)
theorem zq_1_1 : (zI 1 = 1) = True := eq_true (by decide)
theorem zq_1_2 : (zI 1 = 2) = False := eq_false (by decide)
theorem zq_1_3 : (zI 1 = 3) = False := eq_false (by decide)
theorem zq_1_4 : (zI 1 = 4) = False := eq_false (by decide)
theorem zq_1_5 : (zI 1 = 5) = False := eq_false (by decide)
theorem zq_2_0 : (zI 2 = 0) = False := eq_false (by decide)
theorem zq_2_1 : (zI 2 = 1) = False := eq_false (by decide)
theorem zq_2_2 : (zI 2 = 2) = True := eq_true (by decide)
theorem zq_2_3 : (zI 2 = 3) = False := eq_false (by decide)
theorem zq_2_4 : (zI 2 = 4) = False := eq_false (by decide)
theorem zq_2_5 : (zI 2 = 5) = False := eq_false (by decide)
theorem zq_3_0 : (zI 3 = 0) = False := eq_false (by decide)
theorem zq_3_1 : (zI 3 = 1) = False := eq_false (by decide)
theorem zq_3_2 : (zI 3 = 2) = False := eq_false (by decide)
theorem zq_3_3 : (zI 3 = 3) = True := eq_true (by decide)
theorem zq_3_4 : (zI 3 = 4) = False := eq_false (by decide)
theorem zq_3_5 : (zI 3 = 5) = False := eq_false (by decide)
theorem zq_4_0 : (zI 4 = 0) = False := eq_false (by decide)
theorem zq_4_1 : (zI 4 = 1) = False := eq_false (by decide)
theorem zq_4_2 : (zI 4 = 2) = False := eq_false (by decide)
theorem zq_4_3 : (zI 4 = 3) = False := eq_false (by decide)
theorem zq_4_4 : (zI 4 = 4) = True := eq_true (by decide)
theorem zq_4_5 : (zI 4 = 5) = False := eq_false (by decide)
theorem zq_5_0 : (zI 5 = 0) = False := eq_false (by decide)
theorem zq_5_1 : (zI 5 = 1) = False := eq_false (by decide)
theorem zq_5_2 : (zI 5 = 2) = False := eq_false (by decide)
theorem zq_5_3 : (zI 5 = 3) = False := eq_false (by decide)
theorem zq_5_4 : (zI 5 = 4) = False := eq_false (by decide)
theorem zq_5_5 : (zI 5 = 5) = True := eq_true (by decide)
section CM
variable {m : Mm} {f W H : Nat} {b : Nat → Int}
theorem kq {p : Int} (h1 : 1 ≤ p) (h2 : p ≤ 12) : kd p = (p - 1) % 6 + 1 := by
  unfold kd; split <;> omega
theorem c74 (hf : fA f) (h : FR m f W H b) (hw : WH W H) (hb : BD W H b) {p : Int} (h1 : 1 ≤ p) (h2 : p ≤ 12) {x y X Y : Nat} (hx : x < W) (hy : y < H) (hX : X < W) (hY : Y < H) {tk : Bool}
    (hne : ¬ (x = X ∧ y = Y)) {s10 s0 : Bool} (q10 : s10 = true ↔ (x = X ∨ y = Y)) (q0 : s0 = true ↔ ab ((X : Int) - x) = ab ((Y : Int) - y)) :
    d_22_74 f (zI (p - 1)) (zI ((x + 8 * y : Nat) : Int)) tk (zI ((X : Int) - x)) (zI ((Y : Int) - y)) (zI (ab ((X : Int) - x))) (zI (ab ((Y : Int) - y))) (zI (mx (ab ((X : Int) - x)) (ab ((Y : Int) - y)))) s10 s0 m = some (rc W b p x y X Y tk) := by
  have hw' := hw
  obtain ⟨a, a2, a3, a4⟩ := hw'
  have b1 := ab_f ((X : Int) - x)
  have b2 := ab_f ((Y : Int) - y)
  have b3 := mx_f (ab ((X : Int) - x)) (ab ((Y : Int) - y))
  have k := c23 hf h hw hb hx hy hX hY
  have b4 : 0 ≤ ab ((X : Int) - x) * ab ((Y : Int) - y) ∧ ab ((X : Int) - x) * ab ((Y : Int) - y) ≤ 64 :=
    ⟨Int.mul_nonneg b1.1 b2.1, Int.le_trans (Int.mul_le_mul (show ab ((X : Int) - x) ≤ 8 by omega) (show ab ((Y : Int) - y) ≤ 8 by omega) b2.1 (by omega)) (by omega)⟩
  have hq : zI (p - 1) - zI (p - 1) / 6 * 6 = zI ((p - 1) % 6) := by rw [zl_6]; exact zI_rm (by omega) (by omega) (by omega) (by omega)
  have hk := kq h1 h2
  have hs : sd p = 0 ↔ p ≤ 6 := by unfold sd; repeat' split
                                   all_goals omega
  unfold d_22_74 rc
  rw [sgm (by omega) (by omega), sgm (by omega) (by omega), hq, hk]
  simp only [obs, wbs, zl_8, zI_mul, zI_add]
  generalize sn ((X : Int) - x) + 8 * sn ((Y : Int) - y) = G at *
  generalize opn W b x y X Y = O at *
  generalize ab ((X : Int) - x) = A at *
  generalize ab ((Y : Int) - y) = B at *
  generalize mx A B = M at *
  have hM : ¬ zI M = 0 := by rw [zl_0, zI_inj (by omega) (by omega) (by omega) (by omega)]; omega
  rw [if_pos hM]
  have hq6 : (p - 1) % 6 = 0 ∨ (p - 1) % 6 = 1 ∨ (p - 1) % 6 = 2 ∨ (p - 1) % 6 = 3 ∨ (p - 1) % 6 = 4 ∨ (p - 1) % 6 = 5 := by omega
  rcases hq6 with e | e | e | e | e | e <;> rw [e] <;> simp only [zq_0_0, zq_0_1, zq_0_2, zq_0_3, zq_0_4, zq_0_5, zq_1_0, zq_1_1, zq_1_2, zq_1_3, zq_1_4, zq_1_5, zq_2_0, zq_2_1, zq_2_2, zq_2_3, zq_2_4, zq_2_5, zq_3_0, zq_3_1, zq_3_2, zq_3_3, zq_3_4, zq_3_5, zq_4_0, zq_4_1, zq_4_2, zq_4_3, zq_4_4, zq_4_5, zq_5_0, zq_5_1, zq_5_2, zq_5_3, zq_5_4, zq_5_5, if_true, if_false, Int.reduceAdd, Int.reduceEq]
  · by_cases q : M = 1
    · subst q; rfl
    · rw [if_pos (by rw [zl_1, zI_inj (by omega) (by omega) (by omega) (by omega)]; exact q), decide_eq_false q]
  · unfold d_22_158
    by_cases ql : (x = X ∧ ¬ y = Y) ∨ (¬ x = X ∧ y = Y) ∨ (A = B ∧ ¬ x = X)
    · rw [k ql, decide_eq_true ql, Bool.true_and]
      by_cases q1 : s10 = true
      · rw [if_pos q1]; cases O <;> rfl
      · rw [if_neg q1, if_pos (q0.mpr (by have hh : ¬ (x = X ∨ y = Y) := fun q => q1 (q10.mpr q); omega))]; cases O <;> rfl
    · rw [decide_eq_false ql, Bool.false_and, if_neg (fun q => ql (by have := q10.mp q; omega)), if_neg (fun q => ql (by have := q0.mp q; omega))]
  · by_cases ql : (x = X ∧ ¬ y = Y) ∨ (¬ x = X ∧ y = Y)
    · rw [k (by omega), decide_eq_true ql, Bool.true_and, if_pos (q10.mpr (by omega))]
      cases O <;> rfl
    · rw [decide_eq_false ql, Bool.false_and, if_neg (fun q => ql (by have := q10.mp q; omega))]
  · by_cases ql : A = B ∧ ¬ x = X
    · rw [k (by omega), decide_eq_true ql, Bool.true_and, if_pos (q0.mpr ql.1)]
      cases O <;> rfl
    · rw [decide_eq_false ql, Bool.false_and, if_neg (fun q => ql (by have := q0.mp q; omega))]
  · by_cases q : A * B = 2
    · rw [q, decide_eq_true rfl]; rfl
    · rw [if_pos (by rw [zl_2, zI_inj (by omega) (by omega) (by omega) (by omega)]; exact q), decide_eq_false q]
  · have pw : ∀ D : Int, (D = 1 ∨ D = -1) → d_22_250 tk (zI A) (zI ((Y : Int) - y)) (zI D) m = some (decide ((Y : Int) - y = D ∧ A = (if tk = true then 1 else 0))) := by
      intro D hD
      unfold d_22_250 d_22_265
      by_cases q1 : (Y : Int) - y = D
      · rw [if_neg (by rw [q1]; exact fun q => q rfl)]
        cases tk
        · show (if ¬ zI A = zI 0 then some false else some true) = some (decide ((Y : Int) - y = D ∧ A = 0))
          by_cases q2 : A = 0
          · rw [q2, decide_eq_true ⟨q1, rfl⟩, if_neg (fun q => q rfl)]
          · rw [if_pos (by rw [zI_inj (by omega) (by omega) (by omega) (by omega)]; exact q2), decide_eq_false (fun q => q2 q.2)]
        · show (if ¬ zI A = zI 1 then some false else some true) = some (decide ((Y : Int) - y = D ∧ A = 1))
          by_cases q2 : A = 1
          · rw [q2, decide_eq_true ⟨q1, rfl⟩, if_neg (fun q => q rfl)]
          · rw [if_pos (by rw [zI_inj (by omega) (by omega) (by omega) (by omega)]; exact q2), decide_eq_false (fun q => q2 q.2)]
      · rw [if_pos (by rw [zI_inj (by omega) (by omega) (by omega) (by omega)]; exact q1), decide_eq_false (fun q => q1 q.1)]
    by_cases q : p ≤ 6
    · rw [if_neg (by rw [zl_6, zI_le (by omega) (by omega) (by omega) (by omega)]; omega), if_pos (hs.mpr q)]
      exact pw 1 (Or.inl rfl)
    · rw [if_pos (by rw [zl_6, zI_le (by omega) (by omega) (by omega) (by omega)]; omega), if_neg (fun e => q (hs.mp e))]
      exact pw (-1) (Or.inr rfl)
theorem c22z (hp : fA f) {p : Int} {x y : Nat} (hx : x < 8) (hy : y < 8) {tk : Bool} : d_22 f (zI (p - 1)) (zI ((x + 8 * y : Nat) : Int)) (zI ((x + 8 * y : Nat) : Int)) tk m = some false := by
  unfold d_22
  rw [c13 hx]
  simp only [obs, wbs]
  rw [c14 hx hy]
  simp only [obs, wbs, zI_sub, Int.sub_self]
  have e1 : jabs (zI 0) = zI 0 := by decide
  have e2 : jmax (zI 0) (zI 0) = zI 0 := by decide
  have z0 : zI 0 = 0 := zI_0.symm
  rw [e1, e2, if_pos z0]
  unfold d_22_60
  rw [if_neg (fun q => q rfl)]
  unfold d_22_74
  have e4 : d_188 (zI 0) = some (zI (sn 0)) := sgm (by decide) (by decide)
  rw [e4]
  simp only [obs, wbs]
  rw [if_neg (fun q => q z0)]
theorem c22 (hf : fA f) (h : FR m f W H b) (hw : WH W H) (hb : BD W H b) {p : Int} (h1 : 1 ≤ p) (h2 : p ≤ 12) {x y X Y : Nat} (hx : x < W) (hy : y < H) (hX : X < W) (hY : Y < H) {tk : Bool} :
    d_22 f (zI (p - 1)) (zI ((x + 8 * y : Nat) : Int)) (zI ((X + 8 * Y : Nat) : Int)) tk m = some (rc W b p x y X Y tk) := by
  have hw' := hw
  obtain ⟨a, a2, a3, a4⟩ := hw'
  have b1 := ab_f ((X : Int) - x)
  have b2 := ab_f ((Y : Int) - y)
  have b3 := mx_f (ab ((X : Int) - x)) (ab ((Y : Int) - y))
  by_cases q0 : x = X ∧ y = Y
  · obtain ⟨rfl, rfl⟩ := q0
    rw [rc_self]
    exact c22z hf (by omega) (by omega)
  · unfold d_22
    rw [c13 (x := X) (by omega), c13 (x := x) (by omega)]
    simp only [obs, wbs]
    rw [c14 (x := X) (by omega) (by omega), c14 (x := x) (by omega) (by omega)]
    simp only [obs, wbs, zI_sub]
    rw [zI_ab (by omega) (by omega), zI_ab (by omega) (by omega), zI_mx (by omega) (by omega) (by omega) (by omega)]
    have z : ∀ {A : Int}, 0 ≤ A → A ≤ 8 → (zI A = 0 ↔ A = 0) := fun q1 q2 => by rw [zl_0]; exact zI_inj (by omega) (by omega) (by omega) (by omega)
    have z2 : zI (ab ((X : Int) - x)) = zI (ab ((Y : Int) - y)) ↔ ab ((X : Int) - x) = ab ((Y : Int) - y) := zI_inj (by omega) (by omega) (by omega) (by omega)
    have e60 : ∀ s10 : Bool, (s10 = true ↔ (x = X ∨ y = Y)) → d_22_60 f (zI (p - 1)) (zI ((x + 8 * y : Nat) : Int)) tk (zI ((X : Int) - x)) (zI ((Y : Int) - y)) (zI (ab ((X : Int) - x))) (zI (ab ((Y : Int) - y))) (zI (mx (ab ((X : Int) - x)) (ab ((Y : Int) - y)))) s10 m = some (rc W b p x y X Y tk) := by
      intro s10 h10
      unfold d_22_60
      by_cases q : ab ((X : Int) - x) = ab ((Y : Int) - y)
      · rw [if_neg (fun q2 => q2 (z2.mpr q))]; exact c74 hf h hw hb h1 h2 hx hy hX hY q0 h10 ⟨fun _ => q, fun _ => rfl⟩
      · rw [if_pos (fun q2 => q (z2.mp q2))]; exact c74 hf h hw hb h1 h2 hx hy hX hY q0 h10 ⟨fun e => (by cases e), fun e => absurd e q⟩
    by_cases qA : ab ((X : Int) - x) = 0
    · rw [if_pos ((z b1.1 (by omega)).mpr qA)]
      exact e60 true ⟨fun _ => by omega, fun _ => rfl⟩
    · rw [if_neg (fun q => qA ((z b1.1 (by omega)).mp q))]
      by_cases qB : ab ((Y : Int) - y) = 0
      · rw [if_neg (fun q => q ((z b2.1 (by omega)).mpr qB))]
        exact e60 true ⟨fun _ => by omega, fun _ => rfl⟩
      · rw [if_pos (fun q => qB ((z b2.1 (by omega)).mp q))]
        exact e60 false ⟨fun e => (by cases e), fun e => by omega⟩
/-- what a side may move, off the board nothing -/
def alw (W H : Nat) (b : Nat → Int) (s : Int) (x y X Y : Nat) : Bool := decide (x < W ∧ y < H ∧ X < W ∧ Y < H) && mv W b s x y X Y
theorem sd_1 {p : Int} (h1 : 0 ≤ p) (h2 : p ≤ 12) {s : Int} (hs : 0 ≤ s) (h : sd p = s) : 1 ≤ p := by
  unfold sd at h
  split at h
  · omega
  · omega
theorem c21 (hf : fA f) (h : FR m f W H b) (hw : WH W H) (hb : BD W H b) {s : Int} (h1 : 0 ≤ s) (h2 : s ≤ 1) {x y X Y : Nat} (hx : x < 8) (hy : y < 8) (hX : X < 8) (hY : Y < 8) :
    d_21 f (zI s) (zI ((x + 8 * y : Nat) : Int)) (zI ((X + 8 * Y : Nat) : Int)) m = some (alw W H b s x y X Y) := by
  unfold d_21
  rw [c17 hf (by omega), c17 hf (by omega)]
  simp only [obs]
  unfold alw
  by_cases q1 : x < W ∧ y < H
  · rw [h.on hw q1.1 q1.2, c19 (hb x y q1.1 q1.2).1 (hb x y q1.1 q1.2).2 h1 h2]
    simp only [obs]
    by_cases q2 : X < W ∧ Y < H
    · rw [h.on hw q2.1 q2.2, c19 (hb X Y q2.1 q2.2).1 (hb X Y q2.1 q2.2).2 h1 h2, c13 hX, c14 hX hY]
      simp only [obs]
      rw [c15 h hw (by omega) (by omega) (by omega) (by omega)]
      unfold mv
      have hb1 := hb x y q1.1 q1.2
      have hb2 := hb X Y q2.1 q2.2
      by_cases e1 : sd (b (x + W * y)) = s
      · have e3 := sd_1 hb1.1 hb1.2 h1 e1
        have k : ∀ tk, d_22 f (zI (b (x + W * y) - 1)) (zI ((x + 8 * y : Nat) : Int)) (zI ((X + 8 * Y : Nat) : Int)) tk m = some (rc W b (b (x + W * y)) x y X Y tk) := fun tk => c22 hf h hw hb e3 hb1.2 q1.1 q1.2 q2.1 q2.2
        by_cases e2 : sd (b (X + W * Y)) = s
        · simp [e1, e2]
        · have e4 : ¬ (x = X ∧ y = Y) := by rintro ⟨rfl, rfl⟩; exact e2 e1
          have e5 : (0 : Int) ≤ (X : Int) ∧ (X : Int) < W ∧ (0 : Int) ≤ (Y : Int) ∧ (Y : Int) < H := by omega
          by_cases e6 : b (X + W * Y) = 0
          · have e7 : zI (b (X + W * Y) - 1) = -1 := by rw [e6]; rfl
            have e8 : decide (¬ b (X + W * Y) = 0) = false := by rw [e6]; rfl
            simp only [d_21_65, k, e1, e2, e5, e7, e8, q1, q2, e4, decide_true, decide_false, if_true, if_false, obs, and_self, not_false_eq_true, not_true_eq_false, Bool.true_and, Bool.false_eq_true, reduceCtorEq]
            cases rc W b (b (x + W * y)) x y X Y false <;> rfl
          · have e8 : decide (¬ b (X + W * Y) = 0) = true := decide_eq_true e6
            have e7 : ¬ zI (b (X + W * Y) - 1) = -1 := by
              rw [zl_1, zI_neg, zI_inj (by omega) (by omega) (by omega) (by omega)]; omega
            simp only [d_21_65, k, e1, e2, e5, e7, e8, q1, q2, e4, decide_true, decide_false, if_true, if_false, obs, and_self, not_false_eq_true, not_true_eq_false, Bool.true_and, Bool.false_eq_true, reduceCtorEq]
            cases rc W b (b (x + W * y)) x y X Y true <;> rfl
      · simp [e1]
    · rw [h.off hX hY q2, c19n h1 h2, c13 hX, c14 hX hY]
      simp only [obs]
      rw [c15 h hw (by omega) (by omega) (by omega) (by omega)]
      have e5 : ¬ ((0 : Int) ≤ (X : Int) ∧ (X : Int) < W ∧ (0 : Int) ≤ (Y : Int) ∧ (Y : Int) < H) := by omega
      have e6 : ¬ (x < W ∧ y < H ∧ X < W ∧ Y < H) := by omega
      simp only [e5, e6, decide_false, Bool.false_and, obs, Bool.false_eq_true, if_false]
      split <;> rfl
  · rw [h.off hx hy q1, c19n h1 h2]
    have e6 : ¬ (x < W ∧ y < H ∧ X < W ∧ Y < H) := by omega
    simp only [e6, decide_false, Bool.false_and, obs, Bool.false_eq_true, if_false]
end CM
