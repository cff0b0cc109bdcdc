/-! A move of a piece: the fewest moves are 1, a king taken is one in check; the list of moves, piece by piece. -/
section LA
variable {m : Mm} {r : Nat → Int} {W H : Nat} {b b' : Nat → Int}
theorem opn_st {x y X Y : Nat} (hx : x < W) (hy : y < H) (hX : X < W) (hY : Y < H) (hl : (x = X ∧ ¬ y = Y) ∨ (¬ x = X ∧ y = Y) ∨ (ab ((X : Int) - x) = ab ((Y : Int) - y) ∧ ¬ x = X)) (h : ∀ j, j ≠ x + W * y → b' j = b j) : opn W b' x y X Y = opn W b x y X Y := by
  obtain ⟨l1, l2, l3⟩ := line_f (x := x) (y := y) (X := X) (Y := Y) (by omega)
  have s1 := sn_f ((X : Int) - x)
  have s2 := sn_f ((Y : Int) - y)
  unfold opn
  generalize mx (ab ((X : Int) - x)) (ab ((Y : Int) - y)) = M at *
  have t1 : sn ((X : Int) - x) = -1 ∨ sn ((X : Int) - x) = 0 ∨ sn ((X : Int) - x) = 1 := by omega
  have t2 : sn ((Y : Int) - y) = -1 ∨ sn ((Y : Int) - y) = 0 ∨ sn ((Y : Int) - y) = 1 := by omega
  have t3 : ¬ (sn ((X : Int) - x) = 0 ∧ sn ((Y : Int) - y) = 0) := by omega
  generalize sn ((X : Int) - x) = sx at *
  generalize sn ((Y : Int) - y) = sy at *
  refine ln_cg (fun k k1 k2 => h _ ?_)
  have u1 : 0 ≤ (x : Int) + k * sx ∧ (x : Int) + k * sx < W ∧ (sx ≠ 0 → (x : Int) + k * sx ≠ x) := by
    rcases t1 with rfl | rfl | rfl <;> refine ⟨by omega, by omega, fun _ => by omega⟩
  have u2 : 0 ≤ (y : Int) + k * sy ∧ (y : Int) + k * sy < H ∧ (sy ≠ 0 → (y : Int) + k * sy ≠ y) := by
    rcases t2 with rfl | rfl | rfl <;> refine ⟨by omega, by omega, fun _ => by omega⟩
  obtain ⟨u, hu⟩ := Int.eq_ofNat_of_zero_le u1.1
  obtain ⟨v, hv⟩ := Int.eq_ofNat_of_zero_le u2.1
  have e : ((x + W * y : Nat) : Int) + (k : Int) * (sx + W * sy) = ((u + W * v : Nat) : Int) := by
    rw [← cc, ← cc, ← hu, ← hv, Int.mul_add, Int.mul_add, Int.mul_left_comm]
    omega
  rw [e, Int.toNat_natCast]
  intro q
  have q2 := (cell_in (y := v) (Y := y) (show u < W by omega) hx).mp q
  by_cases z : sx = 0
  · exact u2.2.2 (fun z2 => t3 ⟨z, z2⟩) (by omega)
  · exact u1.2.2 z (by omega)
theorem rc_st {p : Int} {x y X Y : Nat} {tk : Bool} (hx : x < W) (hy : y < H) (hX : X < W) (hY : Y < H) (h : ∀ j, j ≠ x + W * y → b' j = b j) : rc W b' p x y X Y tk = rc W b p x y X Y tk := by
  unfold rc
  by_cases q1 : kd p = 1
  · rw [if_pos q1, if_pos q1]
  · rw [if_neg q1, if_neg q1]
    by_cases q2 : kd p = 2
    · rw [if_pos q2, if_pos q2]
      exact dA (fun hl => opn_st hx hy hX hY hl h)
    · rw [if_neg q2, if_neg q2]
      by_cases q3 : kd p = 3
      · rw [if_pos q3, if_pos q3]
        exact dA (fun hl => opn_st hx hy hX hY (by omega) h)
      · rw [if_neg q3, if_neg q3]
        by_cases q4 : kd p = 4
        · rw [if_pos q4, if_pos q4]
          exact dA (fun hl => opn_st hx hy hX hY (by omega) h)
        · rw [if_neg q4, if_neg q4]
theorem ent_n {g : Nat} {p : Int} {u c c' : Nat} {S : (Nat → Int) × List Nat} (h : c ≠ c') : (ent W b g p u c' S).1 c = S.1 c := by
  unfold ent
  split
  · exact if_neg h
  · rfl
theorem fo_en {g : Nat} {p : Int} {u c : Nat} {S : (Nat → Int) × List Nat} : ∀ {j : Nat}, j ≤ c → (fo (ent W b g p u) j S).1 c = S.1 c := by
  intro j
  induction j with
  | zero => intro _; rfl
  | succ j ih => intro hj; rw [fo_s, ent_n (by omega), ih (by omega)]
/-- a move is one move -/
theorem bf_mv {s : Int} {x y X Y : Nat} (hx : x < W) (hy : y < H) (hX : X < W) (hY : Y < H) (hm : mv W b s x y X Y = true) :
    (bf W H (wof b (x + W * y)) (X + W * Y) (b (x + W * y)) (x + W * y) 64).1 (X + W * Y) = 1 := by
  obtain ⟨f1, f2, f3⟩ := mv_f hm
  have ne : X + W * Y ≠ x + W * y := fun e => f1 ((cell_in hx hX).mp e.symm)
  have cg := cell_lt hX hY
  have bg : wof b (x + W * y) (X + W * Y) = b (X + W * Y) := if_neg ne
  have rcT : rc W b (b (x + W * y)) x y X Y (decide (¬ b (X + W * Y) = 0)) = true := by
    unfold mv at hm
    rw [Bool.and_eq_true] at hm
    exact hm.2
  have e1 : (fo (ent W (wof b (x + W * y)) (X + W * Y) (b (x + W * y)) ((bf W H (wof b (x + W * y)) (X + W * Y) (b (x + W * y)) (x + W * y) 0).2.getD 0 0)) (X + W * Y + 1) (bf W H (wof b (x + W * y)) (X + W * Y) (b (x + W * y)) (x + W * y) 0)).1 (X + W * Y) = 1 := by
    show (fo (ent W (wof b (x + W * y)) (X + W * Y) (b (x + W * y)) (x + W * y)) (X + W * Y + 1) ((fun j => if j = x + W * y then (0 : Int) else -1), [x + W * y])).1 (X + W * Y) = 1
    have g1 : (fo (ent W (wof b (x + W * y)) (X + W * Y) (b (x + W * y)) (x + W * y)) (X + W * Y) ((fun j => if j = x + W * y then (0 : Int) else -1), [x + W * y])).1 (X + W * Y) = -1 := by
      rw [fo_en (Nat.le_refl _)]
      exact if_neg ne
    have g2 : (fo (ent W (wof b (x + W * y)) (X + W * Y) (b (x + W * y)) (x + W * y)) (X + W * Y) ((fun j => if j = x + W * y then (0 : Int) else -1), [x + W * y])).1 (x + W * y) = 0 := by
      rw [fo_p (by dsimp only; rw [if_pos rfl]; decide)]
      exact if_pos rfl
    rw [fo_s]
    generalize fo (ent W (wof b (x + W * y)) (X + W * Y) (b (x + W * y)) (x + W * y)) (X + W * Y) ((fun j => if j = x + W * y then (0 : Int) else -1), [x + W * y]) = S at g1 g2 ⊢
    have c1 : opw (wof b (x + W * y)) (X + W * Y) (b (x + W * y)) (X + W * Y) = true := by
      unfold opw
      rw [bg]
      exact decide_eq_true (Or.inr ⟨rfl, by rw [f2]; exact f3⟩)
    have c2 : rc W (wof b (x + W * y)) (b (x + W * y)) ((x + W * y) % W) ((x + W * y) / W) ((X + W * Y) % W) ((X + W * Y) / W) (decide (¬ wof b (x + W * y) (X + W * Y) = 0)) = true := by
      rw [(cell_md hx).1, (cell_md hx).2, (cell_md hX).1, (cell_md hX).2, bg, rc_st hx hy hX hY (b := b) (b' := wof b (x + W * y)) (fun j hj => if_neg hj)]
      exact rcT
    unfold ent
    rw [if_pos ⟨c1, g1, c2⟩]
    dsimp only
    rw [if_pos rfl, g2]; rfl
  have e2 := bf_A (W := W) (H := H) (b := wof b (x + W * y)) (g := X + W * Y) (p := b (x + W * y)) (f := x + W * y) (k := 0) (j := X + W * Y + 1) (by decide) (by show 0 < 1; decide) (by omega) (by rw [e1]; decide)
  rw [e2, e1]
/-- the moves of one piece put behind a list -/
def mlk (W : Nat) (b : Nat → Int) (s : Int) (c n : Nat) (l : List (Nat × Nat)) : List (Nat × Nat) := fo (fun d l => if mv W b s (c % W) (c / W) (d % W) (d / W) = true then l ++ [(c, d)] else l) n l
theorem mem_mlk {s : Int} {c : Nat} {p : Nat × Nat} : ∀ {n : Nat} {l : List (Nat × Nat)}, p ∈ mlk W b s c n l ↔ p ∈ l ∨ (p.1 = c ∧ p.2 < n ∧ mv W b s (c % W) (c / W) (p.2 % W) (p.2 / W) = true) := by
  intro n
  induction n with
  | zero => intro l; exact ⟨Or.inl, fun h => h.elim id (fun h => absurd h.2.1 (Nat.not_lt_zero _))⟩
  | succ n ih =>
    intro l
    unfold mlk at ih ⊢
    rw [fo_s]
    by_cases q : mv W b s (c % W) (c / W) (n % W) (n / W) = true
    · rw [if_pos q, List.mem_append, ih, List.mem_singleton]
      constructor
      · rintro ((h | h) | h)
        · exact Or.inl h
        · exact Or.inr ⟨h.1, by omega, h.2.2⟩
        · rw [h]; exact Or.inr ⟨rfl, Nat.lt_succ_self n, q⟩
      · rintro (h | h)
        · exact Or.inl (Or.inl h)
        · by_cases e : p.2 = n
          · exact Or.inr (Prod.ext h.1 e)
          · exact Or.inl (Or.inr ⟨h.1, by omega, h.2.2⟩)
    · rw [if_neg q, ih]
      constructor
      · rintro (h | h)
        · exact Or.inl h
        · exact Or.inr ⟨h.1, by omega, h.2.2⟩
      · rintro (h | h)
        · exact Or.inl h
        · refine Or.inr ⟨h.1, ?_, h.2.2⟩
          by_cases e : p.2 = n
          · rw [e] at h; exact absurd h.2.2 q
          · omega
theorem mem_fo {s : Int} {p : Nat × Nat} : ∀ {n : Nat}, p ∈ fo (fun c l => mli W H b s c l) n [] ↔ p.1 < n ∧ p.2 < W * H ∧ mv W b s (p.1 % W) (p.1 / W) (p.2 % W) (p.2 / W) = true := by
  intro n
  induction n with
  | zero => exact ⟨fun h => (List.not_mem_nil h).elim, fun h => absurd h.1 (Nat.not_lt_zero _)⟩
  | succ n ih =>
    rw [fo_s]
    show p ∈ mlk W b s n (W * H) _ ↔ _
    rw [mem_mlk, ih]
    constructor
    · rintro (h | h)
      · exact ⟨by omega, h.2⟩
      · rw [h.1]; exact ⟨Nat.lt_succ_self n, h.2⟩
    · rintro ⟨h1, h2⟩
      by_cases e : p.1 = n
      · rw [← e]; exact Or.inr ⟨rfl, h2⟩
      · exact Or.inl ⟨by omega, h2⟩
theorem mem_ml {s : Int} {p : Nat × Nat} : p ∈ ml W H b s ↔ p.1 < W * H ∧ p.2 < W * H ∧ mv W b s (p.1 % W) (p.1 / W) (p.2 % W) (p.2 / W) = true := mem_fo
/-- a king is taken by a move of the list, or is not in check -/
theorem any_kx (hw : WH W H) (hK : KU W H b) {s : Nat} (hs : s ≤ 1) : (ml W H b s).any (fun p => decide (b p.2 = 1 + 6 * (1 - (s : Int)))) = kx W H b (1 - (s : Int)) := by
  rw [kx_p hw hK (by omega) (by omega), Bool.eq_iff_iff, List.any_eq_true, decide_eq_true_eq, ff_ex]
  have e1 : 1 - (1 - (s : Int)) = s := by omega
  constructor
  · rintro ⟨p, hp, h⟩
    obtain ⟨h1, h2, h3⟩ := mem_ml.mp hp
    refine ⟨p.2, h2, ?_⟩
    unfold kpr
    rw [h, Bool.true_and, e1, decide_eq_true_eq, ff_ex]
    exact ⟨p.1, h1, h3⟩
  · rintro ⟨c, hc, h⟩
    unfold kpr at h
    rw [e1, Bool.and_eq_true, decide_eq_true_eq, decide_eq_true_eq, ff_ex] at h
    obtain ⟨h1, d, hd, h2⟩ := h
    exact ⟨(d, c), mem_ml.mpr ⟨hd, hc, h2⟩, decide_eq_true h1⟩
theorem fo_pp {f : Nat → List (Nat × Nat) → List (Nat × Nat)} (hf : ∀ k l, ∃ t, f k l = l ++ t) {l : List (Nat × Nat)} : ∀ {n k : Nat}, k ≤ n → ∃ t, fo f n l = fo f k l ++ t := by
  intro n
  induction n with
  | zero => intro k h; rw [show k = 0 by omega]; exact ⟨[], (List.append_nil _).symm⟩
  | succ n ih =>
    intro k h
    by_cases e : k = n + 1
    · rw [e]; exact ⟨[], (List.append_nil _).symm⟩
    · obtain ⟨t, ht⟩ := ih (k := k) (by omega)
      obtain ⟨t2, ht2⟩ := hf n (fo f n l)
      exact ⟨t ++ t2, by rw [fo_s, ht2, ht, List.append_assoc]⟩
theorem mlk_st {s : Int} {c : Nat} : ∀ d (l : List (Nat × Nat)), ∃ t, (if mv W b s (c % W) (c / W) (d % W) (d / W) = true then l ++ [(c, d)] else l) = l ++ t := fun d l => by
  split
  · exact ⟨_, rfl⟩
  · exact ⟨[], (List.append_nil _).symm⟩
theorem mli_st {s : Int} : ∀ c (l : List (Nat × Nat)), ∃ t, mli W H b s c l = l ++ t := fun c l => fo_pp (k := 0) mlk_st (Nat.zero_le _)
/-- the list as far as the cell d of piece c -/
def pre (W H : Nat) (b : Nat → Int) (s : Int) (c d : Nat) : List (Nat × Nat) := mlk W b s c d (fo (fun c l => mli W H b s c l) c [])
theorem pre_ml {s : Int} {c d : Nat} (hc : c < W * H) (hd : d ≤ W * H) : ∃ t, ml W H b s = pre W H b s c d ++ t := by
  obtain ⟨t1, h1⟩ := fo_pp (f := fun c l => mli W H b s c l) mli_st (l := []) (n := W * H) (k := c + 1) hc
  obtain ⟨t2, h2⟩ := fo_pp (f := fun d l => if mv W b s (c % W) (c / W) (d % W) (d / W) = true then l ++ [(c, d)] else l) mlk_st (l := fo (fun c l => mli W H b s c l) c []) hd
  refine ⟨t2 ++ t1, ?_⟩
  show fo (fun c l => mli W H b s c l) (W * H) [] = _
  rw [h1, fo_s, ← List.append_assoc]
  exact congrArg (· ++ t1) h2
theorem pre_s {s : Int} {c d : Nat} : pre W H b s c (d + 1) = if mv W b s (c % W) (c / W) (d % W) (d / W) = true then pre W H b s c d ++ [(c, d)] else pre W H b s c d := rfl
theorem pre_0 {s : Int} {c : Nat} : pre W H b s (c + 1) 0 = pre W H b s c (W * H) := rfl
theorem pre_at {s : Int} {c d : Nat} (hc : c < W * H) (hd : d < W * H) (h : mv W b s (c % W) (c / W) (d % W) (d / W) = true) : (pre W H b s c d).length < (ml W H b s).length ∧ (ml W H b s).getD (pre W H b s c d).length (0, 0) = (c, d) := by
  obtain ⟨t, ht⟩ := pre_ml (b := b) (s := s) hc (show d + 1 ≤ W * H from hd)
  rw [pre_s, if_pos h] at ht
  rw [ht]
  refine ⟨by simp only [List.length_append, List.length_singleton]; omega, ?_⟩
  rw [List.append_assoc, List.getD_eq_getElem?_getD, List.getElem?_append_right (Nat.le_refl _), Nat.sub_self]
  rfl
end LA
