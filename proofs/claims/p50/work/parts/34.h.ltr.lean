/-! The letters of the law's text are small. -/
def eb_lo (l : List Nat) : Prop := ∀ x ∈ l, x < 128
theorem eb_lo.ap {a b : List Nat} (ha : eb_lo a) (hb : eb_lo b) : eb_lo (a ++ b) := fun x hx => (List.mem_append.mp hx).elim (ha x) (hb x)
theorem eb_lo_dg {v : Nat} (hv : v < 1000) : eb_lo (dg v) := by
  have key : ∀ v, v < 1000 → ∀ x ∈ dg v, x < 128 := by decide +kernel
  exact key v hv
theorem eb_lo_wd (k : Nat) : eb_lo (wd k) := by
  have key : ∀ k, k < 14 → ∀ x ∈ wd k, x < 128 := by decide +kernel
  by_cases h : k < 14
  · exact key k h
  · match k, h with
    | k + 14, _ => exact fun x hx => nomatch hx
theorem eb_lo_1 : eb_lo [32] := by unfold eb_lo; decide
theorem eb_lo_2 : eb_lo [59] := by unfold eb_lo; decide
theorem eb_lo_P {s κ x y : Nat} (hx : x < 1000) (hy : y < 1000) : eb_lo (txP s κ x y) := by
  unfold txP
  exact (eb_lo_wd _).ap (eb_lo_1.ap ((eb_lo_wd _).ap (eb_lo_1.ap ((eb_lo_dg hx).ap (eb_lo_1.ap ((eb_lo_dg hy).ap eb_lo_2))))))
theorem eb_lo_F {f l e : Nat} (hf : f < 1000) (hl : l < 1000) (he : e < 1000) : eb_lo (txF f l e) := by
  unfold txF
  exact (eb_lo_wd _).ap (eb_lo_1.ap ((eb_lo_dg hf).ap (eb_lo_1.ap ((eb_lo_dg hl).ap (eb_lo_1.ap ((eb_lo_dg he).ap eb_lo_2))))))
theorem eb_lo_flP : ∀ (ps : List (Nat × Nat × Nat × Nat)), (∀ p ∈ ps, p.2.2.1 < 1000 ∧ p.2.2.2 < 1000) → eb_lo (flP ps)
  | [], _ => fun x hx => nomatch hx
  | p :: l, h => (eb_lo_P (h p List.mem_cons_self).1 (h p List.mem_cons_self).2).ap (eb_lo_flP l (fun q hq => h q (List.mem_cons_of_mem _ hq)))
theorem eb_lo_flF : ∀ (fs : List (Nat × Nat × Nat)), (∀ p ∈ fs, p.1 < 1000 ∧ p.2.1 < 1000 ∧ p.2.2 < 1000) → eb_lo (flF fs)
  | [], _ => fun x hx => nomatch hx
  | p :: l, h => (eb_lo_F (h p List.mem_cons_self).1 (h p List.mem_cons_self).2.1 (h p List.mem_cons_self).2.2).ap (eb_lo_flF l (fun q hq => h q (List.mem_cons_of_mem _ hq)))
theorem eb_mem_getD {α : Type} {l : List α} {d q : α} (h : q ∈ l) : ∃ i, i < l.length ∧ l.getD i d = q := by
  obtain ⟨i, hi, e⟩ := List.mem_iff_getElem.mp h
  exact ⟨i, hi, by rw [List.getD_eq_getElem?_getD, List.getElem?_eq_getElem hi]; exact e⟩
theorem eb_OK.lo {l : List Nat} (h : eb_OK l) : eb_lo l := by
  obtain ⟨W, H, a, b, p, w, t, ps, fs, rfl, -, ⟨w1, w2, w3, w4⟩, ⟨a1, a2⟩, ⟨b1, b2⟩, ⟨p1, p2⟩, hw, ⟨t1, t2⟩, hP, hpl, hF, hfl⟩ := h
  have h1 : eb_lo (flP ps) := eb_lo_flP ps (fun q hq => by
    obtain ⟨i, hi, rfl⟩ := eb_mem_getD (d := (0, 0, 0, 0)) hq
    obtain ⟨⟨-, -, -, x1, x2⟩, -⟩ := hP i hi
    exact ⟨by omega, by omega⟩)
  have h2 : eb_lo (flF fs) := eb_lo_flF fs (fun q hq => by
    obtain ⟨i, hi, rfl⟩ := eb_mem_getD (d := (0, 0, 0)) hq
    obtain ⟨⟨-, x1⟩, ⟨-, x2⟩, -, x3⟩ := hF i hi
    exact ⟨by omega, by omega, by omega⟩)
  unfold txt txB
  exact (eb_lo_wd _).ap (eb_lo_1.ap ((eb_lo_dg (by omega)).ap (eb_lo_1.ap ((eb_lo_dg (by omega)).ap (eb_lo_2.ap ((eb_lo_wd _).ap (eb_lo_1.ap ((eb_lo_dg (by omega)).ap (eb_lo_1.ap ((eb_lo_dg (by omega)).ap (eb_lo_2.ap ((eb_lo_wd _).ap (eb_lo_1.ap ((eb_lo_dg (by omega)).ap (eb_lo_2.ap ((eb_lo_wd _).ap (eb_lo_1.ap ((eb_lo_dg (by omega)).ap (eb_lo_2.ap ((eb_lo_wd _).ap (eb_lo_1.ap ((eb_lo_dg (by omega)).ap (eb_lo_2.ap ((eb_lo_P (by decide) (by decide)).ap ((eb_lo_P (by omega) (by omega)).ap (h1.ap h2))))))))))))))))))))))))))
theorem eb_tb7 : ∀ c, c < 128 → ((nI c &&& 255).toUInt32 % 65536).toInt32 = nI c ∧ narrow .char (.int (nI c)) = .int (nI c) := by decide +kernel
theorem eb_lo.tbg {l : List Nat} (h : eb_lo l) (hl : l.length ≤ 300) : ev_tbg l.length (eb_fx l) := by
  refine ⟨by omega, fun j hj => eb_tb7 _ ?_⟩
  rw [List.getD_eq_getElem?_getD, List.getElem?_eq_getElem hj]
  exact h _ (List.getElem_mem hj)
