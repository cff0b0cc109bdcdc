/-! The lists of moves. -/
def mli (W H : Nat) (b : Nat → Int) (s : Int) (c : Nat) (l : List (Nat × Nat)) : List (Nat × Nat) := fo (fun d l => if mv W b s (c % W) (c / W) (d % W) (d / W) = true then l ++ [(c, d)] else l) (W * H) l
def ml (W H : Nat) (b : Nat → Int) (s : Int) : List (Nat × Nat) := fo (fun c l => mli W H b s c l) (W * H) []
def cnt (W H : Nat) (b : Nat → Int) (s : Int) : Nat := fo (fun c v => if sd (b c) = s then v + 1 else v) (W * H) 0
def lay (a1 a2 : Nat) (g : Nat → Int) (m : Mm) (l : List (Nat × Nat)) : Mm := fun j => if j = a1 then (fun i => if i < l.length then zI (g (l.getD i (0, 0)).1) else m a1 i) else if j = a2 then (fun i => if i < l.length then zI (g (l.getD i (0, 0)).2) else m a2 i) else m j
theorem lay_ne {a1 a2 j : Nat} {g : Nat → Int} {m : Mm} {l : List (Nat × Nat)} (h1 : j ≠ a1) (h2 : j ≠ a2) : lay a1 a2 g m l j = m j := by
  unfold lay; rw [if_neg h1, if_neg h2]
theorem lay_nil {a1 a2 : Nat} {g : Nat → Int} {m : Mm} : lay a1 a2 g m [] = m := by
  funext j i
  unfold lay
  by_cases h1 : j = a1
  · subst h1; rw [if_pos rfl]; rfl
  · rw [if_neg h1]
    by_cases h2 : j = a2
    · subst h2; rw [if_pos rfl]; rfl
    · rw [if_neg h2]
theorem lay_put {a1 a2 : Nat} (h : a1 ≠ a2) {g : Nat → Int} {m : Mm} {l : List (Nat × Nat)} {c d : Nat} : wr (wr (lay a1 a2 g m l) a1 l.length (zI (g c))) a2 l.length (zI (g d)) = lay a1 a2 g m (l ++ [(c, d)]) := by
  have key : ∀ i, i < l.length → (l ++ [(c, d)]).getD i (0, 0) = l.getD i (0, 0) := fun i hi => by
    rw [List.getD_eq_getElem?_getD, List.getD_eq_getElem?_getD, List.getElem?_append_left hi]
  have key2 : (l ++ [(c, d)]).getD l.length (0, 0) = (c, d) := by
    rw [List.getD_eq_getElem?_getD, List.getElem?_append_right (Nat.le_refl _), Nat.sub_self]; rfl
  have len : (l ++ [(c, d)]).length = l.length + 1 := by simp
  funext j i
  by_cases h2 : j = a2
  · subst h2
    rw [wr_at]
    by_cases q : i = l.length
    · subst q
      rw [if_pos rfl]
      unfold lay
      rw [if_neg h.symm, if_pos rfl, if_pos (by omega), key2]
    · rw [if_neg q, wr_ne h.symm]
      unfold lay
      rw [if_neg h.symm, if_pos rfl, if_neg h.symm, if_pos rfl]
      by_cases q2 : i < l.length
      · rw [if_pos q2, if_pos (by omega), key i q2]
      · rw [if_neg q2, if_neg (by omega)]
  · rw [wr_ne h2]
    by_cases h1 : j = a1
    · subst h1
      rw [wr_at]
      by_cases q : i = l.length
      · subst q
        rw [if_pos rfl]
        unfold lay
        rw [if_pos rfl, if_pos (by omega), key2]
      · rw [if_neg q]
        unfold lay
        rw [if_pos rfl, if_pos rfl]
        by_cases q2 : i < l.length
        · rw [if_pos q2, if_pos (by omega), key i q2]
        · rw [if_neg q2, if_neg (by omega)]
    · rw [wr_ne h1]
      unfold lay
      rw [if_neg h1, if_neg h2, if_neg h1, if_neg h2]
theorem fo_mono {α : Type} {f : Nat → List α → List α} (hf : ∀ k l, l.length ≤ (f k l).length) {l : List α} : ∀ {n k : Nat}, k ≤ n → (fo f k l).length ≤ (fo f n l).length := by
  intro n
  induction n with
  | zero => intro k h; rw [show k = 0 by omega]; exact Nat.le_refl _
  | succ n ih =>
    intro k h
    by_cases e : k = n + 1
    · rw [e]; exact Nat.le_refl _
    · exact Nat.le_trans (ih (by omega)) (hf n _)
theorem fo_len {α : Type} {f : Nat → List α → List α} (hf : ∀ k l, l.length ≤ (f k l).length) {l : List α} {n : Nat} : l.length ≤ (fo f n l).length := fo_mono hf (Nat.zero_le n)
theorem mli_len {W H : Nat} {b : Nat → Int} {s : Int} {c : Nat} {l : List (Nat × Nat)} : l.length ≤ (mli W H b s c l).length :=
  fo_len (fun d l => by split <;> simp)
theorem mli_no {W H : Nat} {b : Nat → Int} {s : Int} {x y : Nat} (hx : x < W) (h : ¬ sd (b (x + W * y)) = s) {l : List (Nat × Nat)} : mli W H b s (x + W * y) l = l := by
  unfold mli
  refine fo_id (fun d _ l => ?_)
  rw [(cell_md hx).1, (cell_md hx).2]
  unfold mv
  rw [decide_eq_false (fun q => h q.2.1), Bool.false_and, if_neg (by decide)]
/-! no more than 837 -/
theorem fo_s {σ : Type} {f : Nat → σ → σ} {n : Nat} {s : σ} : fo f (n + 1) s = f n (fo f n s) := rfl
def ctn (q : Nat → Bool) (n : Nat) : Nat := fo (fun d v => if q d = true then v + 1 else v) n 0
theorem ctn_le {q q' : Nat → Bool} : ∀ {n : Nat}, (∀ k, k < n → q k = true → q' k = true) → ctn q n ≤ ctn q' n := by
  intro n
  induction n with
  | zero => intro _; exact Nat.le_refl _
  | succ n ih =>
    intro h
    have i := ih (fun k hk => h k (by omega))
    unfold ctn at *
    rw [fo_s, fo_s]
    by_cases e : q n = true
    · rw [if_pos e, if_pos (h n (by omega) e)]
      omega
    · rw [if_neg e]
      split <;> omega
theorem fo_app {α : Type} (q : Nat → Bool) (g : Nat → α) : ∀ (n : Nat) (l : List α), (fo (fun d l => if q d = true then l ++ [g d] else l) n l).length = l.length + ctn q n := by
  intro n
  induction n with
  | zero => intro l; rfl
  | succ n ih =>
    intro l
    have i := ih l
    unfold ctn at *
    rw [fo_s, fo_s]
    by_cases e : q n = true
    · rw [if_pos e, if_pos e, List.length_append, i]; rfl
    · rw [if_neg e, if_neg e, i]
def gq (x y X Y : Nat) : Bool := decide ((x = X ∨ y = Y ∨ (X : Int) - x = (Y : Int) - y ∨ (X : Int) - x = -((Y : Int) - y)) ∧ ¬ (x = X ∧ y = Y))
def gk (x y X Y : Nat) : Bool := decide (((X : Int) - x) * ((Y : Int) - y) = 2 ∨ ((X : Int) - x) * ((Y : Int) - y) = -2)
theorem gq_27 : ∀ x, x < 8 → ∀ y, y < 8 → ctn (fun k => gq x y (k % 8) (k / 8)) 64 ≤ 27 := by decide +kernel
theorem gk_27 : ∀ x, x < 8 → ∀ y, y < 8 → ctn (fun k => gk x y (k % 8) (k / 8)) 64 ≤ 27 := by decide +kernel
theorem rc_g {W : Nat} {b : Nat → Int} {p : Int} {x y X Y : Nat} {tk : Bool} (h : rc W b p x y X Y tk = true) : (kd p = 5 ∧ gk x y X Y = true) ∨ (¬ kd p = 5 ∧ gq x y X Y = true) := by
  have a1 := ab_f ((X : Int) - x)
  have a2 := ab_f ((Y : Int) - y)
  have a3 := mx_f (ab ((X : Int) - x)) (ab ((Y : Int) - y))
  have a4 : ab ((X : Int) - x) * ab ((Y : Int) - y) = ((X : Int) - x) * ((Y : Int) - y) ∨ ab ((X : Int) - x) * ab ((Y : Int) - y) = -(((X : Int) - x) * ((Y : Int) - y)) := by
    rcases a1.2.2 with e | e <;> rcases a2.2.2 with e' | e' <;> rw [e, e']
    · exact Or.inl rfl
    · exact Or.inr (Int.mul_neg _ _)
    · exact Or.inr (Int.neg_mul _ _)
    · exact Or.inl (Int.neg_mul_neg _ _)
  unfold gk gq
  rw [decide_eq_true_eq, decide_eq_true_eq]
  unfold rc at h
  generalize ab ((X : Int) - x) = A at *
  generalize ab ((Y : Int) - y) = B at *
  generalize mx A B = M at *
  by_cases e1 : kd p = 1
  · rw [if_pos e1] at h
    have h := of_decide_eq_true h
    right
    omega
  rw [if_neg e1] at h
  by_cases e2 : kd p = 2
  · rw [if_pos e2, Bool.and_eq_true] at h
    have h := of_decide_eq_true h.1
    right
    omega
  rw [if_neg e2] at h
  by_cases e3 : kd p = 3
  · rw [if_pos e3, Bool.and_eq_true] at h
    have h := of_decide_eq_true h.1
    right
    omega
  rw [if_neg e3] at h
  by_cases e4 : kd p = 4
  · rw [if_pos e4, Bool.and_eq_true] at h
    have h := of_decide_eq_true h.1
    right
    omega
  rw [if_neg e4] at h
  by_cases e5 : kd p = 5
  · rw [if_pos e5] at h
    have h := of_decide_eq_true h
    left
    refine ⟨e5, ?_⟩
    omega
  · rw [if_neg e5] at h
    have h := of_decide_eq_true h
    right
    refine ⟨e5, ?_⟩
    obtain ⟨g1, g2⟩ := h
    have g3 : (Y : Int) - y = 1 ∨ (Y : Int) - y = -1 := by
      by_cases q : sd p = 0
      · rw [if_pos q] at g1; exact Or.inl g1
      · rw [if_neg q] at g1; exact Or.inr g1
    have g4 : A = 0 ∨ A = 1 := by
      cases tk
      · exact Or.inl g2
      · exact Or.inr g2
    omega
theorem ctn_fc {W H : Nat} (hw : WH W H) (G : Nat → Nat → Bool) : ctn (fun d => G (d % W) (d / W)) (W * H) ≤ ctn (fun k => G (k % 8) (k / 8)) 64 := by
  have e : ctn (fun k => decide (k % 8 < W ∧ k / 8 < H) && G (k % 8) (k / 8)) 64 = ctn (fun d => G (d % W) (d / W)) (W * H) := by
    unfold ctn
    rw [← fo_fc hw]
    refine fo_congr (fun k hk v => ?_)
    obtain ⟨x, y, hx, hy, rfl⟩ := xy_of hk
    simp only [show (x + 8 * y) % 8 = x by omega, show (x + 8 * y) / 8 = y by omega]
    by_cases q : x < W ∧ y < H
    · rw [fc_on hw q.1 q.2, decide_eq_true q, Bool.true_and]
      simp only [(cell_md q.1).1, (cell_md q.1).2]
    · rw [fc_off hx q, decide_eq_false q, Bool.false_and, if_neg (by decide)]
  rw [← e]
  refine ctn_le (fun k _ h => ?_)
  rw [Bool.and_eq_true] at h
  exact h.2
theorem mli_27 {W H : Nat} (hw : WH W H) {b : Nat → Int} {s : Int} {x y : Nat} (hx : x < W) (hy : y < H) {l : List (Nat × Nat)} : (mli W H b s (x + W * y) l).length ≤ l.length + 27 := by
  obtain ⟨a, a2, a3, a4⟩ := hw
  unfold mli
  rw [(cell_md hx).1, (cell_md hx).2, fo_app (fun d => mv W b s x y (d % W) (d / W)) (fun d => (x + W * y, d))]
  have key : ctn (fun d => mv W b s x y (d % W) (d / W)) (W * H) ≤ 27 := by
    by_cases e : kd (b (x + W * y)) = 5
    · refine Nat.le_trans (ctn_le (q' := fun d => gk x y (d % W) (d / W)) (fun d _ h => ?_)) (Nat.le_trans (ctn_fc ⟨a, a2, a3, a4⟩ (gk x y)) (gk_27 x (by omega) y (by omega)))
      unfold mv at h
      rw [Bool.and_eq_true] at h
      rcases rc_g h.2 with q | q
      · exact q.2
      · exact absurd e q.1
    · refine Nat.le_trans (ctn_le (q' := fun d => gq x y (d % W) (d / W)) (fun d _ h => ?_)) (Nat.le_trans (ctn_fc ⟨a, a2, a3, a4⟩ (gq x y)) (gq_27 x (by omega) y (by omega)))
      unfold mv at h
      rw [Bool.and_eq_true] at h
      rcases rc_g h.2 with q | q
      · exact absurd q.1 e
      · exact q.2
  omega
theorem ml_27 {W H : Nat} (hw : WH W H) {b : Nat → Int} {s : Int} : (ml W H b s).length ≤ 27 * cnt W H b s := by
  have key : ∀ n, n ≤ W * H → (fo (fun c l => mli W H b s c l) n []).length ≤ 27 * fo (fun c v => if sd (b c) = s then v + 1 else v) n 0 := by
    intro n
    induction n with
    | zero => intro _; exact Nat.le_refl _
    | succ n ih =>
      intro hn
      have i := ih (by omega)
      obtain ⟨x, y, hx, hy, rfl⟩ := mxy hw (k := n) (by omega)
      unfold fo
      by_cases e : sd (b (x + W * y)) = s
      · rw [if_pos e]
        have k := mli_27 hw (b := b) (s := s) hx hy (l := fo (fun c l => mli W H b s c l) (x + W * y) [])
        omega
      · rw [if_neg e, mli_no hx e]
        exact i
  exact key _ (Nat.le_refl _)
