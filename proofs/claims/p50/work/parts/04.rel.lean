/-! The evaluator's numbers beside the machine's: values, locals, worlds. -/
def ev_v (ad : Nat → Nat) (v : Value) : Value := match v with
  | .ref a => .ref (ad a)
  | v => v
theorem ev_v_cat (ad : Nat → Nat) (v : Value) : (ev_v ad v).category = v.category := by cases v <;> rfl
theorem ev_v_rf (ad : Nat → Nat) (r : Option Nat) : ev_v ad (va_rf r) = va_rf (r.map ad) := by cases r <;> rfl
def ev_vl (n : Nat) (v : Value) : Prop := ∀ a, v = .ref a → a < n
theorem ev_v_up {ad : Nat → Nat} {n q : Nat} {v : Value} (h : ev_vl n v) : ev_v (va_up ad n q) v = ev_v ad v := by
  cases v with
  | ref a => show Value.ref (va_up ad n q a) = .ref (ad a); unfold va_up; rw [if_neg (Nat.ne_of_lt (h a rfl))]
  | _ => rfl
/-- the locals that are known, by their places -/
def ev_al (ad : Nat → Nat) : Nat → ev_L → List (Nat × Value)
  | _, [] => []
  | i, none :: l => ev_al ad (i + 1) l
  | i, some v :: l => (i, ev_v ad v) :: ev_al ad (i + 1) l
theorem ev_al_mem {ad : Nat → Nat} {q : Nat × Value} : ∀ {l : ev_L} {k : Nat}, q ∈ ev_al ad k l ↔ ∃ j w, q.1 = k + j ∧ l[j]? = some (some w) ∧ q.2 = ev_v ad w := by
  intro l
  induction l with
  | nil => intro k; simp [ev_al]
  | cons x l ih =>
    intro k
    cases x with
    | none =>
      rw [ev_al, ih]
      constructor
      · rintro ⟨j, w, h1, h2, h3⟩
        exact ⟨j + 1, w, by omega, by simpa using h2, h3⟩
      · rintro ⟨j, w, h1, h2, h3⟩
        cases j with
        | zero => simp at h2
        | succ j => exact ⟨j, w, by omega, by simpa using h2, h3⟩
    | some v =>
      rw [ev_al, List.mem_cons, ih]
      constructor
      · rintro (h | ⟨j, w, h1, h2, h3⟩)
        · exact ⟨0, v, by rw [h]; rfl, rfl, by rw [h]⟩
        · exact ⟨j + 1, w, by omega, by simpa using h2, h3⟩
      · rintro ⟨j, w, h1, h2, h3⟩
        cases j with
        | zero =>
          left
          simp only [List.getElem?_cons_zero, Option.some.injEq] at h2
          subst h2
          exact Prod.ext h1 h3
        | succ j => right; exact ⟨j, w, by omega, by simpa using h2, h3⟩
def ev_lr (ad : Nat → Nat) (ls : Array Slot) (lo : ev_L) : Prop := lv_has ls lo.length (ev_al ad 0 lo)
theorem ev_lr_get {ad : Nat → Nat} {ls : Array Slot} {lo : ev_L} {k : Nat} {w : Value} (h : ev_lr ad ls lo) (hk : (lo[k]?).join = some w) : ls[k]? = some (.val (ev_v ad w)) := by
  have h1 : lo[k]? = some (some w) := by
    cases hx : lo[k]? with
    | none => rw [hx] at hk; simp at hk
    | some y => rw [hx] at hk; simp at hk; rw [hk]
  exact h.2.2 (k, ev_v ad w) (ev_al_mem.mpr ⟨k, w, by simp, h1, rfl⟩)
theorem ev_join {lo : ev_L} {k : Nat} {w : Value} (hk : (lo[k]?).join = some w) : lo[k]? = some (some w) := by
  cases hx : lo[k]? with
  | none => rw [hx] at hk; simp at hk
  | some y => rw [hx] at hk; simp at hk; rw [hk]
theorem ev_kl_some {x : Option Value} {w : Value} (h : ev_kl x = some w) : x = some w ∧ w.category ≠ 2 := by
  cases x with
  | none => simp [ev_kl] at h
  | some v =>
    simp only [ev_kl] at h
    split at h
    · cases h
    · cases h; exact ⟨rfl, by assumption⟩
theorem ev_s1_len : ∀ (lo : ev_L) (k : Nat) (v : Value), (ev_s1 lo k v).length = lo.length := by
  intro lo
  induction lo with
  | nil => intro k v; simp [ev_s1]
  | cons x l ih => intro k v; cases k <;> simp [ev_s1, ih]
theorem ev_un_len : ∀ (lo : ev_L) (k : Nat), (ev_un lo k).length = lo.length := by
  intro lo
  induction lo with
  | nil => intro k; simp [ev_un]
  | cons x l ih => intro k; cases k <;> simp [ev_un, ih]
theorem ev_s2_len : ∀ (lo : ev_L) (k : Nat) (v : Value), (ev_s2 lo k v).length = lo.length := by
  intro lo
  induction lo with
  | nil => intro k v; simp [ev_s2]
  | cons x l ih =>
    intro k v
    cases k with
    | zero => cases l <;> simp [ev_s2]
    | succ k => simp [ev_s2, ih]
/-- what a store leaves of the others -/
theorem ev_s1_get : ∀ (lo : ev_L) (k : Nat) (v : Value) (j : Nat) (w : Value), (ev_s1 lo k v)[j]? = some (some w) → (j = k ∧ w = v) ∨ (j ≠ k ∧ lo[j]? = some (some w) ∧ ¬ (j + 1 = k ∧ w.category = 2)) := by
  intro lo
  induction lo with
  | nil => intro k v j w h; simp [ev_s1] at h
  | cons x l ih =>
    intro k v j w h
    cases k with
    | zero =>
      cases j with
      | zero => simp [ev_s1] at h; exact Or.inl ⟨rfl, h.symm⟩
      | succ j => simp [ev_s1] at h; exact Or.inr ⟨by omega, by simpa using h, by omega⟩
    | succ k =>
      cases j with
      | zero =>
        simp only [ev_s1, List.getElem?_cons_zero, Option.some.injEq] at h
        refine Or.inr ⟨by omega, ?_, ?_⟩
        · split at h
          · rw [(ev_kl_some h).1]; rfl
          · rw [h]; rfl
        · intro ⟨h1, h2⟩
          rw [if_pos (by omega)] at h
          exact (ev_kl_some h).2 h2
      | succ j =>
        simp only [ev_s1, List.getElem?_cons_succ] at h
        rcases ih k v j w h with ⟨h1, h2⟩ | ⟨h1, h2, h3⟩
        · exact Or.inl ⟨by omega, h2⟩
        · exact Or.inr ⟨by omega, by simpa using h2, fun ⟨a, b⟩ => h3 ⟨by omega, b⟩⟩
theorem ev_un_get : ∀ (lo : ev_L) (k : Nat) (j : Nat) (w : Value), (ev_un lo k)[j]? = some (some w) → j ≠ k ∧ lo[j]? = some (some w) ∧ ¬ (j + 1 = k ∧ w.category = 2) := by
  intro lo
  induction lo with
  | nil => intro k j w h; simp [ev_un] at h
  | cons x l ih =>
    intro k j w h
    cases k with
    | zero =>
      cases j with
      | zero => simp [ev_un] at h
      | succ j => simp [ev_un] at h; exact ⟨by omega, by simpa using h, by omega⟩
    | succ k =>
      cases j with
      | zero =>
        simp only [ev_un, List.getElem?_cons_zero, Option.some.injEq] at h
        refine ⟨by omega, ?_, ?_⟩
        · split at h
          · rw [(ev_kl_some h).1]; rfl
          · rw [h]; rfl
        · intro ⟨h1, h2⟩
          rw [if_pos (by omega)] at h
          exact (ev_kl_some h).2 h2
      | succ j =>
        simp only [ev_un, List.getElem?_cons_succ] at h
        obtain ⟨h1, h2, h3⟩ := ih k j w h
        exact ⟨by omega, by simpa using h2, fun ⟨a, b⟩ => h3 ⟨by omega, b⟩⟩
theorem ev_s2_get : ∀ (lo : ev_L) (k : Nat) (v : Value) (j : Nat) (w : Value), (ev_s2 lo k v)[j]? = some (some w) → (j = k ∧ w = v) ∨ (j ≠ k ∧ j ≠ k + 1 ∧ lo[j]? = some (some w) ∧ ¬ (j + 1 = k ∧ w.category = 2)) := by
  intro lo
  induction lo with
  | nil => intro k v j w h; simp [ev_s2] at h
  | cons x l ih =>
    intro k v j w h
    cases k with
    | zero =>
      cases l with
      | nil =>
        cases j with
        | zero => simp [ev_s2] at h; exact Or.inl ⟨rfl, h.symm⟩
        | succ j => simp [ev_s2] at h
      | cons y l =>
        match j with
        | 0 => simp [ev_s2] at h; exact Or.inl ⟨rfl, h.symm⟩
        | 1 => simp [ev_s2] at h
        | j + 2 => simp [ev_s2] at h; exact Or.inr ⟨by omega, by omega, by simpa using h, by omega⟩
    | succ k =>
      cases j with
      | zero =>
        simp only [ev_s2, List.getElem?_cons_zero, Option.some.injEq] at h
        refine Or.inr ⟨by omega, by omega, ?_, ?_⟩
        · split at h
          · rw [(ev_kl_some h).1]; rfl
          · rw [h]; rfl
        · intro ⟨h1, h2⟩
          rw [if_pos (by omega)] at h
          exact (ev_kl_some h).2 h2
      | succ j =>
        simp only [ev_s2, List.getElem?_cons_succ] at h
        rcases ih k v j w h with ⟨h1, h2⟩ | ⟨h1, h1', h2, h3⟩
        · exact Or.inl ⟨by omega, h2⟩
        · exact Or.inr ⟨by omega, by omega, by simpa using h2, fun ⟨a, b⟩ => h3 ⟨by omega, b⟩⟩
theorem ev_lr_s1 {ad : Nat → Nat} {ls : Array Slot} {lo : ev_L} {k : Nat} {v : Value} (h : lv_has ls lo.length ((k, ev_v ad v) :: (ev_al ad 0 lo).filter (fun q => !(q.1 == k) && !(q.1 + 1 == k && q.2.category == 2)))) : ev_lr ad ls (ev_s1 lo k v) := by
  refine ⟨by rw [ev_s1_len]; exact h.1, h.2.1, fun q hq => h.2.2 q ?_⟩
  obtain ⟨j, w, h1, h2, h3⟩ := ev_al_mem.mp hq
  rcases ev_s1_get lo k v j w h2 with ⟨a, b⟩ | ⟨a, b, c⟩
  · refine List.mem_cons.mpr (Or.inl (Prod.ext (by simp only; omega) (by rw [h3, b])))
  · refine List.mem_cons_of_mem _ (List.mem_filter.mpr ⟨ev_al_mem.mpr ⟨j, w, h1, b, h3⟩, ?_⟩)
    rw [h3, ev_v_cat]
    have e1 : ¬ q.1 = k := by omega
    have e2 : ¬ (q.1 + 1 = k ∧ w.category = 2) := by rw [h1]; intro ⟨x, y⟩; exact c ⟨by omega, y⟩
    simp [e1]
    exact Decidable.not_and_iff_or_not.mp e2
theorem ev_lr_un {ad : Nat → Nat} {ls : Array Slot} {lo : ev_L} {k : Nat} {v : Value} (h : lv_has ls lo.length ((k, v) :: (ev_al ad 0 lo).filter (fun q => !(q.1 == k) && !(q.1 + 1 == k && q.2.category == 2)))) : ev_lr ad ls (ev_un lo k) := by
  refine ⟨by rw [ev_un_len]; exact h.1, h.2.1, fun q hq => h.2.2 q ?_⟩
  obtain ⟨j, w, h1, h2, h3⟩ := ev_al_mem.mp hq
  obtain ⟨a, b, c⟩ := ev_un_get lo k j w h2
  refine List.mem_cons_of_mem _ (List.mem_filter.mpr ⟨ev_al_mem.mpr ⟨j, w, h1, b, h3⟩, ?_⟩)
  rw [h3, ev_v_cat]
  have e1 : ¬ q.1 = k := by omega
  have e2 : ¬ (q.1 + 1 = k ∧ w.category = 2) := by rw [h1]; intro ⟨x, y⟩; exact c ⟨by omega, y⟩
  simp [e1]
  exact Decidable.not_and_iff_or_not.mp e2
theorem ev_lr_s2 {ad : Nat → Nat} {ls : Array Slot} {lo : ev_L} {k : Nat} {v : Value} (h : lv_has ls lo.length ((k, ev_v ad v) :: (ev_al ad 0 lo).filter (fun q => !(q.1 == k) && (!(q.1 == k + 1) && !(q.1 + 1 == k && q.2.category == 2))))) : ev_lr ad ls (ev_s2 lo k v) := by
  refine ⟨by rw [ev_s2_len]; exact h.1, h.2.1, fun q hq => h.2.2 q ?_⟩
  obtain ⟨j, w, h1, h2, h3⟩ := ev_al_mem.mp hq
  rcases ev_s2_get lo k v j w h2 with ⟨a, b⟩ | ⟨a, a', b, c⟩
  · refine List.mem_cons.mpr (Or.inl (Prod.ext (by simp only; omega) (by rw [h3, b])))
  · refine List.mem_cons_of_mem _ (List.mem_filter.mpr ⟨ev_al_mem.mpr ⟨j, w, h1, b, h3⟩, ?_⟩)
    rw [h3, ev_v_cat]
    have e1 : ¬ q.1 = k := by omega
    have e3 : ¬ q.1 = k + 1 := by omega
    have e2 : ¬ (q.1 + 1 = k ∧ w.category = 2) := by rw [h1]; intro ⟨x, y⟩; exact c ⟨by omega, y⟩
    simp [e1, e3]
    exact Decidable.not_and_iff_or_not.mp e2
/-- locals stay known when something new gets an address -/
def ev_ll (n : Nat) (lo : ev_L) : Prop := ∀ (j : Nat) (w : Value), lo[j]? = some (some w) → ev_vl n w
def ev_sl (n : Nat) (st : List Value) : Prop := ∀ v ∈ st, ev_vl n v
theorem ev_lr_up {ad : Nat → Nat} {ls : Array Slot} {lo : ev_L} {n q : Nat} (h : ev_lr ad ls lo) (hl : ev_ll n lo) : ev_lr (va_up ad n q) ls lo := by
  refine ⟨h.1, h.2.1, fun x hx => h.2.2 x ?_⟩
  obtain ⟨j, w, h1, h2, h3⟩ := ev_al_mem.mp hx
  exact ev_al_mem.mpr ⟨j, w, h1, h2, by rw [h3, ev_v_up (hl j w h2)]⟩
theorem ev_st_up {ad : Nat → Nat} {st : List Value} {n q : Nat} (h : ev_sl n st) : st.map (ev_v (va_up ad n q)) = st.map (ev_v ad) := List.map_congr_left fun v hv => ev_v_up (h v hv)
theorem ev_vl_mono {n k : Nat} {v : Value} (h : ev_vl n v) (hk : n ≤ k) : ev_vl k v := fun a ha => Nat.lt_of_lt_of_le (h a ha) hk
/-- worlds -/
def ev_tys (cA : Nat → ClassId) : List (ClassId × FieldType) := [(cA 0, .int), (cA 1, .byte), (cA 2, .int), (cA 3, .object "LanternChess$Game")]
def ev_ce (ad : Nat → Nat) (cA : Nat → ClassId) (e : ev_E) : va_E := match e with
  | .inl (c, fs) => .inr (c, fs.map (ev_v ad))
  | .inr (.inl (t, n, f)) => .inl (cA t, n, .inl f)
  | .inr (.inr (.inl (n, f))) => .inl (cA 2, n, .inr (.inl f))
  | .inr (.inr (.inr (n, f))) => .inl (cA 3, n, .inr (.inr (.inr (.inr (fun i => (f i).map ad)))))
def ev_cw (ad : Nat → Nat) (cA : Nat → ClassId) (f : Nat → Option ev_E) (k : Nat) : Nat × va_E := (ad (k + ev_S), ((f (k + ev_S)).map (ev_ce ad cA)).getD (.inr (0, [])))
def ev_ws (ad : Nat → Nat) (cA : Nat → ClassId) (μ : ev_H) : va_W := (List.range (μ.1 - ev_S)).map (ev_cw ad cA μ.2)
def ev_el (n : Nat) (e : ev_E) : Prop := match e with
  | .inl (c, fs) => c < 12 ∧ fs.length = (ev_C c).2.2 ∧ ∀ v ∈ fs, ev_vl n v
  | .inr (.inl (t, _, _)) => t ≤ 1
  | .inr (.inr (.inl _)) => True
  | .inr (.inr (.inr (_, f))) => ∀ i b, f i = some b → b < n
def ev_mw (μ : ev_H) : Prop := ev_S ≤ μ.1 ∧ (∀ a e, ev_S ≤ a → μ.2 a = some e → a < μ.1 ∧ ev_el μ.1 e) ∧ ∀ a, ev_S ≤ a → a < μ.1 → (μ.2 a).isSome = true
theorem ev_ws_get {ad : Nat → Nat} {cA : Nat → ClassId} {μ : ev_H} {a : Nat} {e : ev_E} (hw : ev_mw μ) (h1 : ev_S ≤ a) (h2 : μ.2 a = some e) : (ev_ws ad cA μ)[a - ev_S]? = some (ad a, ev_ce ad cA e) := by
  have h3 := (hw.2.1 a e h1 h2).1
  unfold ev_ws
  rw [List.getElem?_map, List.getElem?_range (by omega)]
  simp only [Option.map_some, ev_cw, Nat.sub_add_cancel h1, h2, Option.getD_some]
theorem ev_ws_set {ad : Nat → Nat} {cA : Nat → ClassId} {μ : ev_H} {a : Nat} {e : ev_E} (h1 : ev_S ≤ a) (h2 : a < μ.1) : (ev_ws ad cA μ).set (a - ev_S) (ad a, ev_ce ad cA e) = ev_ws ad cA (μ.1, ev_up μ.2 a e) := by
  refine List.ext_getElem? fun i => ?_
  unfold ev_ws
  by_cases hi : i < μ.1 - ev_S
  · by_cases hia : i = a - ev_S
    · subst hia
      rw [List.getElem?_set_self (by simp; omega), List.getElem?_map, List.getElem?_range hi]
      simp [ev_cw, Nat.sub_add_cancel h1, ev_up]
    · rw [List.getElem?_set_ne (fun z => hia z.symm), List.getElem?_map, List.getElem?_map, List.getElem?_range hi]
      have h3 : ¬ i + ev_S = a := by omega
      simp [ev_cw, ev_up, h3]
  · rw [List.getElem?_eq_none (by simp; omega), List.getElem?_eq_none (by simp; omega)]
theorem ev_ce_up {ad : Nat → Nat} {cA : Nat → ClassId} {n q : Nat} {e : ev_E} (h : ev_el n e) : ev_ce (va_up ad n q) cA e = ev_ce ad cA e := by
  match e, h with
  | .inl (c, fs), h =>
    show (Sum.inr (c, fs.map (ev_v (va_up ad n q))) : va_E) = Sum.inr (c, fs.map (ev_v ad))
    rw [List.map_congr_left (fun v hv => ev_v_up (h.2.2 v hv))]
  | .inr (.inl (t, m, f)), h => rfl
  | .inr (.inr (.inl (m, f))), h => rfl
  | .inr (.inr (.inr (m, f))), h =>
    have h2 : (fun i => (f i).map (va_up ad n q)) = fun i => (f i).map ad := by
      funext i
      cases hf : f i with
      | none => rfl
      | some b => simp [va_up, Nat.ne_of_lt (h i b hf)]
    show (Sum.inl (cA 3, m, .inr (.inr (.inr (.inr (fun i => (f i).map (va_up ad n q)))))) : va_E) = _
    rw [h2]
    rfl
theorem ev_ws_push {ad : Nat → Nat} {cA : Nat → ClassId} {μ : ev_H} {q : Nat} {e : ev_E} (hw : ev_mw μ) (he : ev_el μ.1 e) : ev_ws ad cA μ ++ [(q, ev_ce ad cA e)] = ev_ws (va_up ad μ.1 q) cA (μ.1 + 1, ev_up μ.2 μ.1 e) := by
  have h1 : ev_S ≤ μ.1 := hw.1
  unfold ev_ws
  have h2 : (μ.1 + 1) - ev_S = (μ.1 - ev_S) + 1 := by omega
  show _ = (List.range ((μ.1 + 1) - ev_S)).map (ev_cw (va_up ad μ.1 q) cA (ev_up μ.2 μ.1 e))
  rw [h2, List.range_succ, List.map_append]
  congr 1
  · refine List.map_congr_left fun k hk => ?_
    rw [List.mem_range] at hk
    have h3 : ¬ k + ev_S = μ.1 := by omega
    unfold ev_cw
    have h4 : ev_up μ.2 μ.1 e (k + ev_S) = μ.2 (k + ev_S) := by unfold ev_up; rw [if_neg h3]
    have h5 : va_up ad μ.1 q (k + ev_S) = ad (k + ev_S) := by unfold va_up; rw [if_neg h3]
    rw [h4, h5]
    cases h6 : μ.2 (k + ev_S) with
    | none => rfl
    | some e0 =>
      have h7 := (hw.2.1 _ _ (Nat.le_add_left _ _) h6).2
      simp only [Option.map_some, Option.getD_some]
      rw [ev_ce_up h7]
  · have h3 : μ.1 - ev_S + ev_S = μ.1 := by omega
    simp only [List.map_cons, List.map_nil, ev_cw, h3, ev_up, va_up, if_true, Option.map_some, Option.getD_some]
    have h4 := ev_ce_up (ad := ad) (cA := cA) (q := q) he
    rw [h4]
theorem ev_el_mono {n k : Nat} {e : ev_E} (h : ev_el n e) (hk : n ≤ k) : ev_el k e := by
  match e, h with
  | .inl (c, fs), h => exact ⟨h.1, h.2.1, fun v hv => ev_vl_mono (h.2.2 v hv) hk⟩
  | .inr (.inl (t, m, f)), h => exact h
  | .inr (.inr (.inl (m, f))), h => trivial
  | .inr (.inr (.inr (m, f))), h => exact fun i b hb => Nat.lt_of_lt_of_le (h i b hb) hk
theorem ev_mw_set {μ : ev_H} {a : Nat} {e : ev_E} (hw : ev_mw μ) (h1 : ev_S ≤ a) (h2 : a < μ.1) (he : ev_el μ.1 e) : ev_mw (μ.1, ev_up μ.2 a e) := by
  refine ⟨hw.1, fun b e' hb h => ?_, fun b hb hl => ?_⟩
  · by_cases hba : b = a
    · subst hba
      simp only [ev_up, if_true, Option.some.injEq] at h
      subst h
      exact ⟨h2, he⟩
    · simp only [ev_up, hba, if_false] at h
      exact hw.2.1 b e' hb h
  · by_cases hba : b = a
    · simp [ev_up, hba]
    · simp only [ev_up, hba, if_false]
      exact hw.2.2 b hb hl
theorem ev_mw_push {μ : ev_H} {e : ev_E} (hw : ev_mw μ) (he : ev_el μ.1 e) : ev_mw (μ.1 + 1, ev_up μ.2 μ.1 e) := by
  refine ⟨Nat.le_succ_of_le hw.1, fun b e' hb h => ?_, fun b hb hl => ?_⟩
  · by_cases hba : b = μ.1
    · subst hba
      simp only [ev_up, if_true, Option.some.injEq] at h
      subst h
      exact ⟨Nat.lt_succ_self _, ev_el_mono he (Nat.le_succ _)⟩
    · simp only [ev_up, hba, if_false] at h
      have h3 := hw.2.1 b e' hb h
      exact ⟨Nat.lt_succ_of_lt h3.1, ev_el_mono h3.2 (Nat.le_succ _)⟩
  · by_cases hba : b = μ.1
    · simp [ev_up, hba]
    · simp only [ev_up, hba, if_false]
      exact hw.2.2 b hb (by have : b < μ.1 + 1 := hl; omega)
