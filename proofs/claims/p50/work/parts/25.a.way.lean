/-! The way of a piece: what both search. -/
section WA
variable {m : Mm} {W H : Nat} {b : Nat → Int} {g : Nat} {p : Int}
def opw (b : Nat → Int) (g : Nat) (p : Int) (c : Nat) : Bool := decide (b c = 0 ∨ (c = g ∧ ¬ sd (b c) = sd p))
def ent (W : Nat) (b : Nat → Int) (g : Nat) (p : Int) (u c : Nat) (S : (Nat → Int) × List Nat) : (Nat → Int) × List Nat := if opw b g p c = true ∧ S.1 c = -1 ∧ rc W b p (u % W) (u / W) (c % W) (c / W) (decide (¬ b c = 0)) = true then ((fun j => if j = c then S.1 u + 1 else S.1 j), if b c = 0 then S.2 ++ [c] else S.2) else S
def inn (W H : Nat) (b : Nat → Int) (g : Nat) (p : Int) (u : Nat) (S : (Nat → Int) × List Nat) : (Nat → Int) × List Nat := fo (ent W b g p u) (W * H) S
def bf (W H : Nat) (b : Nat → Int) (g : Nat) (p : Int) (f : Nat) : Nat → (Nat → Int) × List Nat
  | 0 => ((fun j => if j = f then 0 else -1), [f])
  | k + 1 => if k < (bf W H b g p f k).2.length then inn W H b g p ((bf W H b g p f k).2.getD k 0) (bf W H b g p f k) else bf W H b g p f k
def GI (N : Nat) (k : Int) (S : (Nat → Int) × List Nat) : Prop := (∀ c, -1 ≤ S.1 c ∧ S.1 c ≤ k) ∧ S.2.length ≤ ctn (fun c => decide (¬ S.1 c = -1)) N ∧ ∀ i, i < S.2.length → S.2.getD i 0 < N ∧ 0 ≤ S.1 (S.2.getD i 0)
theorem gdn_app {l : List Nat} {x : Nat} {i : Nat} (hi : i < l.length + 1) : (l ++ [x]).getD i 0 = if i = l.length then x else l.getD i 0 := by
  by_cases h : i = l.length
  · subst h; rw [if_pos rfl]; simp
  · rw [if_neg h]; simp [List.getD, List.getElem?_append_left (show i < l.length by omega)]
theorem GI.mo {N : Nat} {k k' : Int} {S : (Nat → Int) × List Nat} (h : GI N k S) (hk : k ≤ k') : GI N k' S := ⟨fun c => ⟨(h.1 c).1, Int.le_trans (h.1 c).2 hk⟩, h.2⟩
theorem GI.len {N : Nat} {k : Int} {S : (Nat → Int) × List Nat} (h : GI N k S) : S.2.length ≤ N := Nat.le_trans h.2.1 ctn_n
theorem ent_p {u c c' : Nat} {S : (Nat → Int) × List Nat} (h : S.1 c ≠ -1) : (ent W b g p u c' S).1 c = S.1 c := by
  unfold ent
  split
  · next q =>
    have : c ≠ c' := fun e => h (by rw [e]; exact q.2.1)
    exact if_neg this
  · rfl
/-- so many cells entered -/
theorem ent_ct {N : Nat} {k : Int} {u c : Nat} {S : (Nat → Int) × List Nat} (h : GI N k S) (hc : c < N) (e : S.1 c = -1) {v : Int} (hv : v ≠ -1) : ctn (fun j => decide (¬ S.1 j = -1)) N < ctn (fun j => decide (¬ (if j = c then v else S.1 j) = -1)) N := by
  refine ctn_lt (j := c) (fun j hj q => ?_) hc (decide_eq_false (fun q => q e)) (decide_eq_true (by rw [if_pos rfl]; exact hv))
  have q := of_decide_eq_true q
  refine decide_eq_true ?_
  by_cases ej : j = c
  · rw [if_pos ej]; exact hv
  · rw [if_neg ej]; exact q
theorem ent_G {N : Nat} {k : Int} {u c : Nat} {S : (Nat → Int) × List Nat} (h : GI N k S) (hc : c < N) (u0 : 0 ≤ S.1 u) (u1 : S.1 u + 1 ≤ k) : GI N k (ent W b g p u c S) := by
  have h' := h
  obtain ⟨h1, h2, h3⟩ := h
  unfold ent
  split
  · next q =>
    have ct := ent_ct h' (u := u) hc q.2.1 (v := S.1 u + 1) (by omega)
    refine ⟨fun j => ?_, ?_, fun i hi => ?_⟩
    · dsimp only
      by_cases ej : j = c
      · rw [if_pos ej]; omega
      · rw [if_neg ej]; exact h1 j
    · dsimp only
      split
      · rw [List.length_append, List.length_singleton]; omega
      · omega
    · dsimp only at hi ⊢
      have old : ∀ i, i < S.2.length → S.2.getD i 0 < N ∧ 0 ≤ (if S.2.getD i 0 = c then S.1 u + 1 else S.1 (S.2.getD i 0)) := fun i hi => by
        refine ⟨(h3 i hi).1, ?_⟩
        split
        · omega
        · exact (h3 i hi).2
      by_cases q0 : b c = 0
      · rw [if_pos q0] at hi ⊢
        rw [List.length_append, List.length_singleton] at hi
        rw [gdn_app hi]
        by_cases ei : i = S.2.length
        · rw [if_pos ei, if_pos rfl]; exact ⟨hc, by omega⟩
        · rw [if_neg ei]; exact old i (by omega)
      · rw [if_neg q0] at hi ⊢
        exact old i hi
  · exact h'
theorem fo_G {N : Nat} {k : Int} {u : Nat} {S : (Nat → Int) × List Nat} (h : GI N k S) (u0 : 0 ≤ S.1 u) (u1 : S.1 u + 1 ≤ k) : ∀ {j : Nat}, j ≤ N → GI N k (fo (ent W b g p u) j S) ∧ (fo (ent W b g p u) j S).1 u = S.1 u := by
  intro j
  induction j with
  | zero => intro _; exact ⟨h, rfl⟩
  | succ j ih =>
    intro hj
    obtain ⟨i1, i2⟩ := ih (by omega)
    rw [fo_s]
    exact ⟨ent_G i1 (by omega) (by rw [i2]; exact u0) (by rw [i2]; exact u1), by rw [ent_p (by rw [i2]; omega), i2]⟩
theorem fo_Gc {k : Int} {u : Nat} {S : (Nat → Int) × List Nat} (hw : WH W H) (h : GI (W * H) k S) (u0 : 0 ≤ S.1 u) (u1 : S.1 u + 1 ≤ k) : ∀ {j : Nat}, j ≤ 64 → GI (W * H) k (fo (fc W H (ent W b g p u)) j S) ∧ (fo (fc W H (ent W b g p u)) j S).1 u = S.1 u := by
  intro j
  induction j with
  | zero => intro _; exact ⟨h, rfl⟩
  | succ j ih =>
    intro hj
    obtain ⟨i1, i2⟩ := ih (by omega)
    rw [fo_s]
    obtain ⟨x, y, hx, hy, e⟩ := xy_of (k := j) (by omega)
    by_cases q : x < W ∧ y < H
    · rw [e, fc_on hw q.1 q.2, ← e]
      exact ⟨ent_G i1 (cell_lt q.1 q.2) (by rw [i2]; exact u0) (by rw [i2]; exact u1), by rw [ent_p (by rw [i2]; omega), i2]⟩
    · rw [e, fc_off hx q, ← e]
      exact ⟨i1, i2⟩
theorem fo_p {u c : Nat} {S : (Nat → Int) × List Nat} (h : S.1 c ≠ -1) : ∀ {j : Nat}, (fo (ent W b g p u) j S).1 c = S.1 c := by
  intro j
  induction j with
  | zero => rfl
  | succ j ih => rw [fo_s, ent_p (by rw [ih]; exact h), ih]
theorem bf_G {f : Nat} (hf : f < W * H) : ∀ {k : Nat}, GI (W * H) (k : Nat) (bf W H b g p f k) := by
  intro k
  induction k with
  | zero =>
    have ct := ctn_lt (q := fun _ => false) (q' := fun c => decide (¬ (if c = f then (0 : Int) else -1) = -1)) (n := W * H) (j := f) (fun _ _ q => Bool.noConfusion q) hf rfl (decide_eq_true (by rw [if_pos rfl]; decide))
    refine ⟨fun c => ?_, ?_, fun i hi => ?_⟩
    · show -1 ≤ (if c = f then (0 : Int) else -1) ∧ (if c = f then (0 : Int) else -1) ≤ ((0 : Nat) : Int)
      split <;> omega
    · show 1 ≤ _
      exact Nat.lt_of_le_of_lt (Nat.zero_le _) ct
    · have : i = 0 := Nat.lt_one_iff.mp hi
      subst this
      show f < W * H ∧ 0 ≤ (if f = f then (0 : Int) else -1)
      rw [if_pos rfl]
      exact ⟨hf, Int.le_refl _⟩
  | succ k ih =>
    unfold bf
    split
    · next q =>
      obtain ⟨q1, q2⟩ := ih.2.2 k q
      exact (fo_G (ih.mo (by omega)) q2 (by have := (ih.1 ((bf W H b g p f k).2.getD k 0)).2; omega) (Nat.le_refl _)).1
    · exact ih.mo (by omega)
theorem bf_st {f k : Nat} (h : ¬ k < (bf W H b g p f k).2.length) : ∀ {j : Nat}, bf W H b g p f (k + j) = bf W H b g p f k := by
  intro j
  induction j with
  | zero => rfl
  | succ j ih =>
    show (if k + j < (bf W H b g p f (k + j)).2.length then _ else bf W H b g p f (k + j)) = _
    rw [ih, if_neg (by omega)]
theorem bf_p {f c : Nat} {k : Nat} (h : (bf W H b g p f k).1 c ≠ -1) : ∀ {j : Nat}, (bf W H b g p f (k + j)).1 c = (bf W H b g p f k).1 c := by
  intro j
  induction j with
  | zero => rfl
  | succ j ih =>
    show (if k + j < (bf W H b g p f (k + j)).2.length then inn W H b g p _ (bf W H b g p f (k + j)) else bf W H b g p f (k + j)).1 c = _
    split
    · unfold inn
      rw [fo_p (by rw [ih]; exact h), ih]
    · exact ih
/-- what was entered on the way is answered -/
theorem bf_A {f k j : Nat} (hk : k < 64) (hq : k < (bf W H b g p f k).2.length) (hj : j ≤ W * H) (h : (fo (ent W b g p ((bf W H b g p f k).2.getD k 0)) j (bf W H b g p f k)).1 g ≠ -1) : (bf W H b g p f 64).1 g = (fo (ent W b g p ((bf W H b g p f k).2.getD k 0)) j (bf W H b g p f k)).1 g := by
  have e1 : (bf W H b g p f (k + 1)).1 g = (fo (ent W b g p ((bf W H b g p f k).2.getD k 0)) j (bf W H b g p f k)).1 g := by
    show (if k < (bf W H b g p f k).2.length then inn W H b g p ((bf W H b g p f k).2.getD k 0) (bf W H b g p f k) else bf W H b g p f k).1 g = _
    rw [if_pos hq]
    unfold inn
    obtain ⟨d, hd⟩ := Nat.exists_eq_add_of_le hj
    rw [hd, fo_add]
    have : ∀ {n : Nat} {S : (Nat → Int) × List Nat}, S.1 g ≠ -1 → (fo (fun i => ent W b g p ((bf W H b g p f k).2.getD k 0) (j + i)) n S).1 g = S.1 g := by
      intro n
      induction n with
      | zero => intro S _; rfl
      | succ n ih => intro S hS; rw [fo_s, ent_p (by rw [ih hS]; exact hS), ih hS]
    exact this h
  have e2 := bf_p (W := W) (H := H) (b := b) (g := g) (p := p) (f := f) (c := g) (k := k + 1) (by rw [e1]; exact h) (j := 64 - (k + 1))
  rw [show k + 1 + (64 - (k + 1)) = 64 by omega] at e2
  rw [e2, e1]
end WA
