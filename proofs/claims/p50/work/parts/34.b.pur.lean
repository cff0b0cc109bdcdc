/-! The text of the law, one statement behind the other. -/
theorem txt_ap (W H a b p w t : Nat) (R S : List Nat) : txt W H a b p w t (R ++ S) = txt W H a b p w t R ++ S := by
  unfold txt txB
  simp only [List.append_assoc]
theorem flP_s (ps : List (Nat × Nat × Nat × Nat)) (q : Nat × Nat × Nat × Nat) : flP (ps ++ [q]) = flP ps ++ txP q.1 q.2.1 q.2.2.1 q.2.2.2 := by
  induction ps with
  | nil => simp [flP]
  | cons a l ih => rw [List.cons_append, flP, flP, ih, List.append_assoc]
theorem flF_s (fs : List (Nat × Nat × Nat)) (q : Nat × Nat × Nat) : flF (fs ++ [q]) = flF fs ++ txF q.1 q.2.1 q.2.2 := by
  induction fs with
  | nil => simp [flF]
  | cons a l ih => rw [List.cons_append, flF, flF, ih, List.append_assoc]
theorem gsn {α : Type} {l : List α} {d q : α} {i : Nat} : (l ++ [q]).getD i d = if i < l.length then l.getD i d else if i = l.length then q else d := by
  rw [List.getD_eq_getElem?_getD, List.getD_eq_getElem?_getD]
  by_cases h : i < l.length
  · rw [if_pos h, List.getElem?_append_left h]
  · rw [if_neg h]
    by_cases h2 : i = l.length
    · subst h2
      rw [if_pos rfl, List.getElem?_append_right (Nat.le_refl _), Nat.sub_self]
      rfl
    · rw [if_neg h2, List.getElem?_eq_none (by simp only [List.length_append, List.length_cons, List.length_nil]; omega)]
      rfl
theorem okP_s {W H : Nat} {ps : List (Nat × Nat × Nat × Nat)} {q : Nat × Nat × Nat × Nat} (h : okP W H ps) (h1 : q.1 ≤ 1 ∧ 1 ≤ q.2.1 ∧ q.2.1 ≤ 5 ∧ q.2.2.1 < W ∧ q.2.2.2 < H) (h2 : pcl W q ≠ 0) (h3 : pcl W q ≠ W * H - 1) (h4 : ∀ i, i < ps.length → pcl W (ps.getD i (0, 0, 0, 0)) ≠ pcl W q) : okP W H (ps ++ [q]) := by
  intro i hi
  rw [List.length_append, List.length_cons, List.length_nil] at hi
  by_cases hl : i < ps.length
  · rw [gsn, if_pos hl]
    obtain ⟨a1, a2, a3, a4⟩ := h i hl
    exact ⟨a1, a2, a3, fun j hj => by rw [gsn, if_pos (by omega)]; exact a4 j hj⟩
  · have e : i = ps.length := by omega
    subst e
    rw [gsn, if_neg hl, if_pos rfl]
    exact ⟨h1, h2, h3, fun j hj => by rw [gsn, if_pos hj]; exact h4 j hj⟩
theorem okF_s {fs : List (Nat × Nat × Nat)} {q : Nat × Nat × Nat} (h : okF fs) (h1 : 100 * fs.length ≤ q.1 ∧ q.1 ≤ 100 * fs.length + 90) (h2 : 1 ≤ q.2.1 ∧ q.2.1 ≤ 40) (h3 : 1 ≤ q.2.2) (h4 : q.2.2 ≤ 9) : okF (fs ++ [q]) := by
  intro i hi
  rw [List.length_append, List.length_cons, List.length_nil] at hi
  by_cases hl : i < fs.length
  · rw [gsn, if_pos hl]
    exact h i hl
  · have e : i = fs.length := by omega
    subst e
    rw [gsn, if_neg hl, if_pos rfl]
    exact ⟨h1, h2, h3, h4⟩
/-- the builder's letters so far -/
def eb_U (l : List Nat) (K M : Nat) (f : Nat → Int32) : Prop := l.length ≤ K ∧ M ≤ 600 ∧ l.length ≤ M ∧ eb_ft M f ∧ ∀ j, j < l.length → f j = nI (l.getD j 0)
theorem eb_U.ap {l l2 : List Nat} {K M N : Nat} (K2 : Nat) {f fx : Nat → Int32} {u : eb_S} (h : eb_U l K M f) (ha : eb_ap l.length N f fx u) (hN : l2.length = N) (hf : ∀ j, j < N → fx j = nI (l2.getD j 0)) (hk : N ≤ K2) : eb_U (l ++ l2) (K + K2) u.2.2.1 u.2.2.2 := by
  obtain ⟨a1, a2, a3, a4, a5⟩ := h
  obtain ⟨b1, b2, b3, b4, b5⟩ := ha
  refine ⟨by rw [List.length_append]; omega, b2, by rw [List.length_append, hN]; exact b1, b5, fun j hj => ?_⟩
  rw [List.length_append, hN] at hj
  by_cases q : j < l.length
  · rw [b3 j q, a5 j q, gdl q]
  · obtain ⟨i, rfl⟩ := Nat.exists_eq_add_of_le (Nat.le_of_not_lt q)
    rw [b4 i (by omega), hf i (by omega), gdr]
theorem eb_U.mono {l : List Nat} {K K2 M : Nat} {f : Nat → Int32} (h : eb_U l K M f) (hk : K ≤ K2) : eb_U l K2 M f := ⟨Nat.le_trans h.1 hk, h.2⟩
/-- what setup answers -/
def eb_OK (l : List Nat) : Prop := ∃ (W H a b p w t : Nat) (ps : List (Nat × Nat × Nat × Nat)) (fs : List (Nat × Nat × Nat)), l = txt W H a b p w t (flP ps ++ flF fs) ∧ l.length ≤ 300 ∧ WH W H ∧ (60 ≤ a ∧ a ≤ 900) ∧ (60 ≤ b ∧ b ≤ 900) ∧ (1 ≤ p ∧ p ≤ 3) ∧ w ≤ 4 ∧ (1 ≤ t ∧ t ≤ 4) ∧ okP W H ps ∧ ps.length ≤ 6 ∧ okF fs ∧ fs.length ≤ 3
theorem eb_sz3 (k : Nat) : eb_sz k ≤ 3 := by
  unfold eb_sz
  split
  · decide
  · split <;> decide
theorem eb_dl {k : Nat} (hk : k < 1000) : (dg k).length = eb_sz k := (eb_dg k hk).1
