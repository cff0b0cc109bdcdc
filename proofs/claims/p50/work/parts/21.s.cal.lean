/-! attackers, isInCheck. -/
section CT
variable {m : Mm} {r : Nat → Int} {W H n : Nat}
theorem wr_id {a k : Nat} : wr m a k (m a k) = m := by
  funext b
  by_cases h : b = a
  · subst h
    funext j
    rw [wr_at]
    by_cases q : j = k
    · rw [if_pos q, q]
    · rw [if_neg q]
  · rw [wr_ne h]
theorem ln_cg {b b' : Nat → Int} {st : Int} : ∀ {n : Nat} {c : Int}, (∀ k : Nat, 1 ≤ k → k ≤ n → b (c + k * st).toNat = b' (c + k * st).toNat) → ln b st n c = ln b' st n c
  | 0, _, _ => rfl
  | n + 1, c, h => by
    have h1 := h 1 (Nat.le_refl _) (by omega)
    rw [show ((1 : Nat) : Int) * st = st from Int.one_mul st] at h1
    unfold ln
    rw [h1, ln_cg (b := b) (b' := b') (n := n) (c := c + st) (fun k k1 k2 => by
      have := h (k + 1) (by omega) (by omega)
      rw [Int.natCast_add, Int.add_mul, show ((1 : Nat) : Int) * st = st from Int.one_mul st] at this
      rw [show c + st + (k : Int) * st = c + ((k : Int) * st + st) by omega]
      exact this)]
theorem opn_off {b b' : Nat → Int} {x y X Y : Nat} (hx : x < W) (hy : y < H) (hX : X < W) (hY : Y < H) (hl : (x = X ∧ ¬ y = Y) ∨ (¬ x = X ∧ y = Y) ∨ (ab ((X : Int) - x) = ab ((Y : Int) - y) ∧ ¬ x = X)) (h : ∀ j, j ≠ X + W * Y → b' j = b j) : opn W b' x y X Y = opn W b x y X Y := by
  obtain ⟨l1, l2, l3⟩ := line_f (x := x) (y := y) (X := X) (Y := Y) (by omega)
  have s1 := sn_f ((X : Int) - x)
  have s2 := sn_f ((Y : Int) - y)
  unfold opn
  generalize mx (ab ((X : Int) - x)) (ab ((Y : Int) - y)) = M at *
  have t1 : sn ((X : Int) - x) = -1 ∨ sn ((X : Int) - x) = 0 ∨ sn ((X : Int) - x) = 1 := by omega
  have t2 : sn ((Y : Int) - y) = -1 ∨ sn ((Y : Int) - y) = 0 ∨ sn ((Y : Int) - y) = 1 := by omega
  have t3 : ¬ (sn ((X : Int) - x) = 0 ∧ sn ((Y : Int) - y) = 0) := by omega
  generalize sn ((X : Int) - x) = sx at *
  generalize sn ((Y : Int) - y) = sy at *
  refine ln_cg (fun k k1 k2 => h _ ?_)
  have u1 : 0 ≤ (x : Int) + k * sx ∧ (x : Int) + k * sx < W ∧ (sx ≠ 0 → (x : Int) + k * sx ≠ X) := by
    rcases t1 with rfl | rfl | rfl <;> refine ⟨by omega, by omega, fun _ => by omega⟩
  have u2 : 0 ≤ (y : Int) + k * sy ∧ (y : Int) + k * sy < H ∧ (sy ≠ 0 → (y : Int) + k * sy ≠ Y) := by
    rcases t2 with rfl | rfl | rfl <;> refine ⟨by omega, by omega, fun _ => by omega⟩
  obtain ⟨u, hu⟩ := Int.eq_ofNat_of_zero_le u1.1
  obtain ⟨v, hv⟩ := Int.eq_ofNat_of_zero_le u2.1
  have e : ((x + W * y : Nat) : Int) + (k : Int) * (sx + W * sy) = ((u + W * v : Nat) : Int) := by
    rw [← cc, ← cc, ← hu, ← hv, Int.mul_add, Int.mul_add, Int.mul_left_comm]
    omega
  rw [e, Int.toNat_natCast]
  intro q
  have q2 := (cell_in (y := v) (Y := Y) (show u < W by omega) hX).mp q
  by_cases z : sx = 0
  · exact u2.2.2 (fun z2 => t3 ⟨z, z2⟩) (by omega)
  · exact u1.2.2 z (by omega)
theorem dA {P : Prop} [Decidable P] {u v : Bool} (h : P → u = v) : (decide P && u) = (decide P && v) := by
  by_cases q : P
  · rw [h q]
  · rw [decide_eq_false q, Bool.false_and, Bool.false_and]
theorem rc_off {b b' : Nat → Int} {p : Int} {x y X Y : Nat} {tk : Bool} (hx : x < W) (hy : y < H) (hX : X < W) (hY : Y < H) (h : ∀ j, j ≠ X + W * Y → b' j = b j) : rc W b' p x y X Y tk = rc W b p x y X Y tk := by
  unfold rc
  by_cases q1 : kd p = 1
  · rw [if_pos q1, if_pos q1]
  · rw [if_neg q1, if_neg q1]
    by_cases q2 : kd p = 2
    · rw [if_pos q2, if_pos q2]
      exact dA (fun hl => opn_off hx hy hX hY hl h)
    · rw [if_neg q2, if_neg q2]
      by_cases q3 : kd p = 3
      · rw [if_pos q3, if_pos q3]
        exact dA (fun hl => opn_off hx hy hX hY (by omega) h)
      · rw [if_neg q3, if_neg q3]
        by_cases q4 : kd p = 4
        · rw [if_pos q4, if_pos q4]
          exact dA (fun hl => opn_off hx hy hX hY (by omega) h)
        · rw [if_neg q4, if_neg q4]
theorem mv_at {b b' : Nat → Int} {s p : Int} {x y X Y : Nat} (hx : x < W) (hy : y < H) (hX : X < W) (hY : Y < H) (h : ∀ j, j ≠ X + W * Y → b' j = b j) (hp : b' (X + W * Y) = p) (p0 : p ≠ 0) (ps : sd p ≠ s) :
    mv W b' s x y X Y = true ↔ sd (b (x + W * y)) = s ∧ rc W b (b (x + W * y)) x y X Y true = true := by
  by_cases q : x = X ∧ y = Y
  · obtain ⟨rfl, rfl⟩ := q
    unfold mv
    rw [rc_self, rc_self, decide_eq_false (fun e => e.1 ⟨rfl, rfl⟩), Bool.false_and]
    exact Iff.intro (fun e => Bool.noConfusion e) (fun e => Bool.noConfusion e.2)
  · have ne : x + W * y ≠ X + W * Y := fun e => q ((cell_in hx hX).mp e)
    unfold mv
    rw [h _ ne, hp, rc_off hx hy hX hY h, decide_eq_true p0, Bool.and_eq_true, decide_eq_true_eq]
    exact ⟨fun e => ⟨e.1.2.1, e.2⟩, fun e => ⟨⟨q, e.1, ps⟩, e.2⟩⟩
/-- a count -/
theorem fo_ct {P : Nat → Prop} [DecidablePred P] : ∀ {N : Nat}, 0 ≤ fo (fun c (v : Int) => if P c then v + 1 else v) N 0 ∧ (0 < fo (fun c (v : Int) => if P c then v + 1 else v) N 0 ↔ ∃ c, c < N ∧ P c)
  | 0 => ⟨Int.le_refl _, fun h => absurd h (Int.lt_irrefl _), fun ⟨c, hc, _⟩ => absurd hc (Nat.not_lt_zero c)⟩
  | N + 1 => by
    obtain ⟨h1, h2⟩ := fo_ct (P := P) (N := N)
    rw [fo_s]
    by_cases q : P N
    · rw [if_pos q]
      exact ⟨by omega, fun _ => ⟨N, by omega, q⟩, fun _ => by omega⟩
    · rw [if_neg q]
      refine ⟨h1, fun h => ?_, fun ⟨c, hc, hp⟩ => ?_⟩
      · obtain ⟨c, hc, hp⟩ := h2.mp h
        exact ⟨c, by omega, hp⟩
      · refine h2.mpr ⟨c, ?_, hp⟩
        by_cases e : c = N
        · rw [e] at hp; exact absurd hp q
        · omega
theorem atk_mv {b : Nat → Int} {s : Int} {X Y : Nat} (hw : WH W H) (hX : X < W) (hY : Y < H) (p0 : b (X + W * Y) ≠ 0) (ps : sd (b (X + W * Y)) ≠ s) : 0 < atk W H b s X Y ↔ ∃ c, c < W * H ∧ mv W b s (c % W) (c / W) X Y = true := by
  unfold atk
  rw [(fo_ct (P := fun c => sd (b c) = s ∧ rc W b (b c) (c % W) (c / W) X Y true = true) (N := W * H)).2]
  constructor
  · rintro ⟨c, hc, h⟩
    obtain ⟨k1, k2, k3⟩ := cell_of hw hc
    refine ⟨c, hc, (mv_at k1 k2 hX hY (fun _ _ => rfl) rfl p0 ps).mpr ?_⟩
    rw [k3]
    exact h
  · rintro ⟨c, hc, h⟩
    obtain ⟨k1, k2, k3⟩ := cell_of hw hc
    have := (mv_at k1 k2 hX hY (fun _ _ => rfl) rfl p0 ps).mp h
    rw [k3] at this
    exact ⟨c, hc, this⟩
theorem ff_ex {p : Nat → Bool} {N : Nat} : ff p N < N ↔ ∃ c, c < N ∧ p c = true := by
  constructor
  · intro h
    exact ⟨_, h, ff_at h⟩
  · rintro ⟨c, hc, hp⟩
    have h1 := ff_le p N
    rcases Nat.lt_or_ge c (ff p N) with h | h
    · rw [ff_lt h] at hp; cases hp
    · omega
/-- a king, whom an enemy's piece reaches -/
def kpr (W H : Nat) (b : Nat → Int) (s : Int) (c : Nat) : Bool := decide (b c = 1 + 6 * s) && decide (ff (fun d => mv W b (1 - s) (d % W) (d / W) (c % W) (c / W)) (W * H) < W * H)
theorem kx_p {b : Nat → Int} {s : Int} (hw : WH W H) (hK : KU W H b) (h1 : 0 ≤ s) (h2 : s ≤ 1) : kx W H b s = decide (ff (kpr W H b s) (W * H) < W * H) := by
  unfold kx
  have sk : sd (1 + 6 * s) = s := by
    have : s = 0 ∨ s = 1 := by omega
    rcases this with rfl | rfl <;> decide
  have one : ∀ c, c < W * H → b c = 1 + 6 * s → (0 < atk W H b (1 - s) (c % W) (c / W) ↔ ff (fun d => mv W b (1 - s) (d % W) (d / W) (c % W) (c / W)) (W * H) < W * H) := by
    intro c hc hb
    obtain ⟨k1, k2, k3⟩ := cell_of hw hc
    rw [atk_mv hw k1 k2 (by rw [k3, hb]; omega) (by rw [k3, hb, sk]; omega), ff_ex]
  by_cases q : ff (fun c => decide (b c = 1 + 6 * s)) (W * H) < W * H
  · rw [if_pos q, decide_eq_decide, ff_ex]
    have e := of_decide_eq_true (ff_at q)
    rw [one _ q e]
    constructor
    · intro h
      refine ⟨_, q, ?_⟩
      unfold kpr
      rw [decide_eq_true e, decide_eq_true h]; rfl
    · rintro ⟨c, hc, h⟩
      unfold kpr at h
      rw [Bool.and_eq_true, decide_eq_true_eq, decide_eq_true_eq] at h
      have := hK s h1 h2 _ _ q hc e h.1
      rw [this]
      exact h.2
  · rw [if_neg q]
    symm
    rw [decide_eq_false_iff_not, ff_ex]
    rintro ⟨c, hc, h⟩
    unfold kpr at h
    rw [Bool.and_eq_true, decide_eq_true_eq] at h
    exact q (ff_ex.mpr ⟨c, hc, decide_eq_true h.1⟩)
end CT
