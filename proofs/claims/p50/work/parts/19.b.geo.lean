/-! A board, told by coordinates: a piece is 0 (none), 1 to 6 white, 7 to 12 black; the cell x y is number x + W * y. -/
def sd (p : Int) : Int := if p = 0 then -1 else if p ≤ 6 then 0 else 1
def kd (p : Int) : Int := if p ≤ 6 then p else p - 6
def ab (z : Int) : Int := if 0 ≤ z then z else -z
def mx (a b : Int) : Int := if a < b then b else a
def sn (z : Int) : Int := if 0 < z then 1 else if z < 0 then -1 else 0
def ln (b : Nat → Int) (st : Int) : Nat → Int → Bool
  | 0, _ => true
  | n + 1, c => decide (b (c + st).toNat = 0) && ln b st n (c + st)
def opn (W : Nat) (b : Nat → Int) (x y X Y : Nat) : Bool := ln b (sn ((X : Int) - x) + W * sn ((Y : Int) - y)) ((mx (ab ((X : Int) - x)) (ab ((Y : Int) - y))).toNat - 1) ((x + W * y : Nat) : Int)
def rc (W : Nat) (b : Nat → Int) (p : Int) (x y X Y : Nat) (tk : Bool) : Bool :=
  if kd p = 1 then decide (mx (ab ((X : Int) - x)) (ab ((Y : Int) - y)) = 1)
  else if kd p = 2 then decide ((x = X ∧ ¬ y = Y) ∨ (¬ x = X ∧ y = Y) ∨ (ab ((X : Int) - x) = ab ((Y : Int) - y) ∧ ¬ x = X)) && opn W b x y X Y
  else if kd p = 3 then decide ((x = X ∧ ¬ y = Y) ∨ (¬ x = X ∧ y = Y)) && opn W b x y X Y
  else if kd p = 4 then decide (ab ((X : Int) - x) = ab ((Y : Int) - y) ∧ ¬ x = X) && opn W b x y X Y
  else if kd p = 5 then decide (ab ((X : Int) - x) * ab ((Y : Int) - y) = 2)
  else decide ((Y : Int) - y = (if sd p = 0 then 1 else -1) ∧ ab ((X : Int) - x) = (if tk = true then 1 else 0))
def mv (W : Nat) (b : Nat → Int) (s : Int) (x y X Y : Nat) : Bool :=
  decide (¬ (x = X ∧ y = Y) ∧ sd (b (x + W * y)) = s ∧ ¬ sd (b (X + W * Y)) = s) && rc W b (b (x + W * y)) x y X Y (decide (¬ b (X + W * Y) = 0))
def WH (W H : Nat) : Prop := 4 ≤ W ∧ W ≤ 8 ∧ 4 ≤ H ∧ H ≤ 8
def BD (W H : Nat) (b : Nat → Int) : Prop := ∀ x y, x < W → y < H → 0 ≤ b (x + W * y) ∧ b (x + W * y) ≤ 12
theorem cell_lt {W H x y : Nat} (hx : x < W) (hy : y < H) : x + W * y < W * H := by
  have h : W * (y + 1) ≤ W * H := Nat.mul_le_mul_left W hy
  rw [Nat.mul_add] at h
  omega
theorem cell_64 {W H x y : Nat} (h : WH W H) (hx : x < W) (hy : y < H) : x + W * y < 64 := by
  have h1 := cell_lt hx hy
  have h2 : W * H ≤ 8 * 8 := Nat.mul_le_mul h.2.1 h.2.2.2
  omega
theorem cell_md {W x y : Nat} (hx : x < W) : (x + W * y) % W = x ∧ (x + W * y) / W = y := by
  constructor
  · rw [Nat.add_mul_mod_self_left, Nat.mod_eq_of_lt hx]
  · rw [Nat.add_mul_div_left _ _ (by omega), Nat.div_eq_of_lt hx, Nat.zero_add]
theorem cell_in {W x y X Y : Nat} (hx : x < W) (hX : X < W) : x + W * y = X + W * Y ↔ x = X ∧ y = Y := by
  constructor
  · intro h
    have h1 := cell_md (y := y) hx
    rw [h] at h1
    have h2 := cell_md (y := Y) hX
    exact ⟨h1.1.symm.trans h2.1, h1.2.symm.trans h2.2⟩
  · rintro ⟨rfl, rfl⟩; rfl
theorem cell_of {W H c : Nat} (h : WH W H) (hc : c < W * H) : c % W < W ∧ c / W < H ∧ c % W + W * (c / W) = c :=
  ⟨Nat.mod_lt _ (by have := h.1; omega), Nat.div_lt_of_lt_mul hc, Nat.mod_add_div c W⟩
/-! folds -/
def fo {σ : Type} (f : Nat → σ → σ) : Nat → σ → σ
  | 0, s => s
  | n + 1, s => f n (fo f n s)
theorem fo_congr {σ : Type} {f g : Nat → σ → σ} : ∀ {n : Nat} {s : σ}, (∀ k, k < n → ∀ s, f k s = g k s) → fo f n s = fo g n s := by
  intro n
  induction n with
  | zero => intro s _; rfl
  | succ n ih => intro s h; unfold fo; rw [ih (fun k hk => h k (by omega)), h n (by omega)]
theorem fo_add {σ : Type} {f : Nat → σ → σ} {n : Nat} {s : σ} : ∀ {k : Nat}, fo f (n + k) s = fo (fun j => f (n + j)) k (fo f n s) := by
  intro k
  induction k with
  | zero => rfl
  | succ k ih => rw [← Nat.add_assoc]; unfold fo; rw [ih]
theorem fo_id {σ : Type} {f : Nat → σ → σ} : ∀ {n : Nat} {s : σ}, (∀ k, k < n → ∀ s, f k s = s) → fo f n s = s := by
  intro n
  induction n with
  | zero => intro s _; rfl
  | succ n ih => intro s h; unfold fo; rw [h n (by omega), ih (fun k hk => h k (by omega))]
theorem fo_mul {σ : Type} {f : Nat → σ → σ} {a : Nat} {s : σ} : ∀ {n : Nat}, fo f (a * n) s = fo (fun y => fo (fun x => f (x + a * y)) a) n s := by
  intro n
  induction n with
  | zero => rfl
  | succ n ih =>
    rw [Nat.mul_add, Nat.mul_one, fo_add, ih]
    show _ = fo (fun x => f (x + a * n)) a (fo _ n s)
    exact fo_congr (fun k _ s => by rw [Nat.add_comm])
theorem fo_trim {σ : Type} {f : Nat → σ → σ} {n k : Nat} {s : σ} (h : n ≤ k) (hf : ∀ j, n ≤ j → j < k → ∀ s, f j s = s) : fo f k s = fo f n s := by
  obtain ⟨d, rfl⟩ := Nat.exists_eq_add_of_le h
  rw [fo_add]
  exact fo_id (fun j hj s => hf _ (by omega) (by omega) s)
/-- a loop over 64 cells that does nothing off the board is one over the board's cells -/
theorem fo_io {σ : Type} {f g : Nat → σ → σ} {W H : Nat} {s : σ} (h : WH W H) (h1 : ∀ x y, x < W → y < H → ∀ s, f (x + 8 * y) s = g (x + W * y) s) (h2 : ∀ x y, x < 8 → y < 8 → ¬ (x < W ∧ y < H) → ∀ s, f (x + 8 * y) s = s) : fo f 64 s = fo g (W * H) s := by
  obtain ⟨a, a2, a3, a4⟩ := h
  rw [show 64 = 8 * 8 from rfl, fo_mul, fo_mul]
  rw [fo_trim (n := H) (by omega) (fun y hy1 hy2 s => fo_id (fun x hx s => h2 x y hx (by omega) (by omega) s))]
  refine fo_congr (fun y hy s => ?_)
  rw [fo_trim (n := W) (by omega) (fun x hx1 hx2 s => h2 x y (by omega) (by omega) (by omega) s)]
  exact fo_congr (fun x hx s => h1 x y hx hy s)
theorem it_l {σ ρ : Type} {f : σ → Option (σ ⊕ ρ)} {s s' : σ} {q : Option ρ} (h : f s = some (.inl s')) (k : it f s' = q) : it f s = q := by
  rw [it_eq, h]; exact k
theorem it_r {σ ρ : Type} {f : σ → Option (σ ⊕ ρ)} {s : σ} {r : ρ} (h : f s = some (.inr r)) : it f s = some r := by
  rw [it_eq, h]; rfl
/-- a counted loop is a fold -/
theorem it_fo {σ τ ρ : Type} {F : τ → Option (τ ⊕ ρ)} {mk : σ → Nat → τ} {out : σ → ρ} {f : Nat → σ → σ} {n : Nat} {s : σ} (P : Nat → σ → Prop) (h0 : P 0 s)
    (h1 : ∀ k, k < n → ∀ s, P k s → F (mk s k) = some (.inl (mk (f k s) (k + 1))) ∧ P (k + 1) (f k s))
    (h2 : ∀ s, P n s → F (mk s n) = some (.inr (out s))) : it F (mk s 0) = some (out (fo f n s)) ∧ P n (fo f n s) := by
  have hP : ∀ k, k ≤ n → P k (fo f k s) := by
    intro k
    induction k with
    | zero => intro _; exact h0
    | succ k ih => intro hk; exact (h1 k (by omega) _ (ih (by omega))).2
  exact ⟨it_row (f := F) (fun k => mk (fo f k s) k) (out (fo f n s)) n (fun k hk => (h1 k hk _ (hP k (by omega))).1) (h2 _ (hP n (Nat.le_refl _))), hP n (Nat.le_refl _)⟩
theorem it_ft {σ τ ρ : Type} {F : τ → Option (τ ⊕ ρ)} {mk : σ → Nat → τ} {out : σ → ρ} {f : Nat → σ → σ} {n : Nat} {s : σ}
    (h1 : ∀ k, k < n → ∀ s, F (mk s k) = some (.inl (mk (f k s) (k + 1)))) (h2 : ∀ s, F (mk s n) = some (.inr (out s))) : it F (mk s 0) = some (out (fo f n s)) :=
  (it_fo (fun _ _ => True) trivial (fun k hk s _ => ⟨h1 k hk s, trivial⟩) (fun s _ => h2 s)).1
/-- the first cell of 64 of which something is so, and the first one of the board's -/
theorem ff_io {p q : Nat → Bool} {W H : Nat} (h : WH W H) (h1 : ∀ x y, x < W → y < H → p (x + 8 * y) = q (x + W * y)) (h2 : ∀ x y, x < 8 → y < 8 → ¬ (x < W ∧ y < H) → p (x + 8 * y) = false) :
    (ff q (W * H) = W * H ∧ ff p 64 = 64) ∨ ∃ x y, x < W ∧ y < H ∧ ff q (W * H) = x + W * y ∧ ff p 64 = x + 8 * y := by
  obtain ⟨a, a2, a3, a4⟩ := h
  by_cases hc : ff q (W * H) < W * H
  · obtain ⟨b1, b2, b3⟩ := cell_of ⟨a, a2, a3, a4⟩ hc
    refine Or.inr ⟨_, _, b1, b2, b3.symm, ff_eq (fun j hj => ?_) (by omega) (fun _ => ?_)⟩
    · by_cases hj2 : j % 8 < W ∧ j / 8 < H
      · have e : j = j % 8 + 8 * (j / 8) := by omega
        rw [e, h1 _ _ hj2.1 hj2.2]
        refine ff_lt (n := W * H) ?_
        have : j / 8 ≤ ff q (W * H) / W := by omega
        rcases Nat.lt_or_eq_of_le this with h5 | h5
        · have : W * (j / 8 + 1) ≤ W * (ff q (W * H) / W) := Nat.mul_le_mul_left W h5
          rw [Nat.mul_add] at this
          omega
        · rw [h5]
          omega
      · have e : j = j % 8 + 8 * (j / 8) := by omega
        rw [e]
        exact h2 _ _ (by omega) (by omega) hj2
    · rw [h1 _ _ b1 b2, b3]
      exact ff_at hc
  · have e := ff_le q (W * H)
    have e2 : ff q (W * H) = W * H := by omega
    refine Or.inl ⟨e2, ff_eq (fun j hj => ?_) (Nat.le_refl _) (fun h => absurd h (Nat.lt_irrefl _))⟩
    have e : j = j % 8 + 8 * (j / 8) := by omega
    rw [e]
    by_cases hj2 : j % 8 < W ∧ j / 8 < H
    · rw [h1 _ _ hj2.1 hj2.2]
      exact ff_lt (n := W * H) (by rw [e2]; exact cell_lt hj2.1 hj2.2)
    · exact h2 _ _ (by omega) (by omega) hj2
