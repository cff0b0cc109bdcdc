/-! What is there from the start; soundness of the evaluator's steps over memory. -/
/-- the words that a callee keeps -/
def ev_gw : List Cond := lw_tbl.filter goodWord
theorem ev_gm {w : Cond} {p : Nat} (h : ev_w p = some w) (hg : goodWord w = true) : w ∈ ev_gw := List.mem_filter.mpr ⟨ev_mem h, hg⟩
theorem ev_ginit {w : Cond} (h : w ∈ tables_1_1.take 31) (hg : goodWord w = true) : w ∈ ev_gw := List.mem_filter.mpr ⟨ev_init h, hg⟩
theorem ev_gws {c : Nat} (h : c < 12) : ∀ w ∈ u_ws (ev_C c).1 (ev_C c).2.1 (ev_C c).2.2, w ∈ ev_gw := fun w hw => List.mem_filter.mpr ⟨ev_wsin h w hw, by
  obtain ⟨k, -, rfl⟩ := List.mem_map.mp hw
  unfold u_lay
  split <;> rfl⟩
def ev_sf (L : Nat) (xs : Nat → Int32) (a : Nat) : Option ev_E :=
  if a = 0 then some (ev_ia 0 6 (fun j => ([100, 9, 5, 3, 3, 1] : List Int32).getD j 0))
  else if a = 1 then some (ev_ia 0 6 (fun j => ([100, 9, 5, 3, 3, 1] : List Int32).getD j 0))
  else if a = 2 then some (ev_ia 0 L xs)
  else if a < ev_S then some (ev_ia 9 (ev_tb (a - 3)).length (fun j => (ev_tb (a - 3)).getD j 0))
  else none
/-- a text: its object, its bytes -/
def ev_St (k a : Nat) (A : Nat → Prop) (U : State) (H : Heap) : Prop := ∃ v : Nat, va_O "java/lang/String" a A U H ∧ va_OF "java/lang/String" "coder" "B" (.int 0) a A U H ∧ va_OF "java/lang/String" "value" "[B" (.ref v) a A U H ∧ va_T .byte v (ev_tb k).length (fun j => .int ((ev_tb k).getD j 0)) A U H
def ev_SH (L : Nat) (xs : Nat → Int32) (ad : Nat → Nat) (A : Nat → Prop) (U : State) (H : Heap) : Prop :=
  (∀ a N f, a < 3 → ev_sf L xs a = some (ev_ia 0 N f) → va_T .int (ad a) N (fun j => .int (f j)) A U H) ∧
  va_Z "LanternChess$Field" "VALUES" "[I" (.ref (ad 0)) A U H ∧ va_Z "LanternChess$Field" "VALUES" "[I" (.ref (ad 1)) A U H ∧
  (∀ k, k < 17 → ev_St k (ad (3 + k)) A U H) ∧
  va_Z "java/lang/String" "COMPACT_STRINGS" "Z" (.int 1) A U H ∧ va_Zq "jdk/internal/util/Preconditions" "SIOOBE_FORMATTER" "Ljava/util/function/BiFunction;" A U H
def ev_SU (ad : Nat → Nat) (U : State) : Prop :=
  (∀ e ∈ ev_sr, vk_R (ev_own e.1) e.2.1 e.2.2.1 (ad e.2.2.2.1) U) ∧ va_AO "LanternChess$Game" U
theorem ev_SH.moved {L : Nat} {xs : Nat → Int32} {ad : Nat → Nat} {A : Nat → Prop} {u U : State} {H : Heap} (hvm : u.vm.Alike U.vm) (h : ev_SH L xs ad A u H) : ev_SH L xs ad A U H := by
  obtain ⟨h1, h2, h3, h4, h5, h6⟩ := h
  exact ⟨fun a N f ha hf => (h1 a N f ha hf).moved hvm, h2.moved hvm, h3.moved hvm, fun k hk => by
    obtain ⟨v, q1, q2, q3, q4⟩ := h4 k hk
    exact ⟨v, q1.moved hvm, q2.moved hvm, q3.moved hvm, q4.moved hvm⟩, h5.moved hvm, h6.moved hvm⟩
theorem ev_SH.kept {L : Nat} {xs : Nat → Int32} {ad : Nat → Nat} {A : Nat → Prop} {U : State} {H H1 : Heap} (h : ev_SH L xs ad A U H) (hq : ∀ a : Nat, a < H.size → ¬ A a → H1[a]? = H[a]?) : ev_SH L xs ad A U H1 := by
  obtain ⟨h1, h2, h3, h4, h5, h6⟩ := h
  exact ⟨fun a N f ha hf => (h1 a N f ha hf).kept hq, h2.kept hq, h3.kept hq, fun k hk => by
    obtain ⟨v, q1, q2, q3, q4⟩ := h4 k hk
    exact ⟨v, q1.kept hq, q2.kept hq, q3.kept hq, q4.kept hq⟩, h5.kept hq, h6.kept hq⟩
theorem ev_SH.narrow {L : Nat} {xs : Nat → Int32} {ad : Nat → Nat} {A B : Nat → Prop} {U : State} {H : Heap} (h : ev_SH L xs ad A U H) (hAB : ∀ q, B q → A q) : ev_SH L xs ad B U H := by
  obtain ⟨h1, h2, h3, h4, h5, h6⟩ := h
  exact ⟨fun a N f ha hf => (h1 a N f ha hf).narrow hAB, h2.narrow hAB, h3.narrow hAB, fun k hk => by
    obtain ⟨v, q1, q2, q3, q4⟩ := h4 k hk
    exact ⟨v, q1.narrow hAB, q2.narrow hAB, q3.narrow hAB, q4.narrow hAB⟩, h5.narrow hAB, h6.narrow hAB⟩
theorem ev_SH.ad {L : Nat} {xs : Nat → Int32} {ad ad' : Nat → Nat} {A : Nat → Prop} {U : State} {H : Heap} (h : ev_SH L xs ad A U H) (he : ∀ a, a < ev_S → ad' a = ad a) : ev_SH L xs ad' A U H := by
  obtain ⟨h1, h2, h3, h4, h5⟩ := h
  have hS : ev_S = 20 := rfl
  exact ⟨fun a N f ha hf => by rw [he a (by omega)]; exact h1 a N f ha hf, by rw [he 0 (by omega)]; exact h2, by rw [he 1 (by omega)]; exact h3, fun k hk => by rw [he (3 + k) (by omega)]; exact h4 k hk, h5⟩
theorem ev_SU.warm {ad : Nat → Nat} {s U : State} (hW : s.WarmedH U.vm) (h : ev_SU ad s) : ev_SU ad U :=
  ⟨fun e he => (h.1 e he).warm hW, h.2.moved hW.alike⟩
theorem ev_SU.ad {ad ad' : Nat → Nat} {U : State} (h : ev_SU ad U) (he : ∀ a, a < ev_S → ad' a = ad a) : ev_SU ad' U := by
  have hb : ∀ e ∈ ev_sr, e.2.2.2.1 < ev_S := by decide +kernel
  exact ⟨fun e hm => by rw [he _ (hb e hm)]; exact h.1 e hm, h.2⟩
/-- memory and heap at one place of a walk -/
def ev_I (L : Nat) (xs : Nat → Int32) (D : va_G) (cA : Nat → ClassId) (A : Nat → Prop) (s : State) (ad : Nat → Nat) (μ : ev_H) (H : Heap) (locs : List Loc) : Prop :=
  ev_mw μ ∧ (∀ a, a < ev_S → μ.2 a = ev_sf L xs a) ∧ va_K D ev_cl (ev_tys cA) s ∧ va_P D ev_cl (ev_ws ad cA μ) H ∧ va_D A (ev_ws ad cA μ) ∧ va_S A s.heap H locs ∧ (∀ q, s.heap.size ≤ q → A q) ∧ ev_SH L xs ad A s s.heap ∧ ev_SU ad s
theorem ev_fl_ok {c idx ci k t p : Nat} (h : ev_fl c idx = some (ci, k, t, p)) : (c, idx, ci, k, t, p) ∈ ev_ft := by
  unfold ev_fl at h
  cases hf : ev_ft.find? (fun e => e.1 == c && e.2.1 == idx) with
  | none => rw [hf] at h; cases h
  | some e =>
    rw [hf] at h
    have h1 := List.find?_some hf
    have h2 := List.mem_of_find?_eq_some hf
    obtain ⟨e1, e2, e3⟩ := e
    simp only [Option.map_some, Option.some.injEq] at h
    simp only [Bool.and_eq_true, beq_iff_eq] at h1
    rw [← h1.1, ← h1.2, ← h]
    exact h2
theorem ev_ks_ok {c idx p : Nat} {v : Value} (h : ev_ks c idx = some (v, p)) : (c, idx, v, p) ∈ ev_kt := by
  unfold ev_ks at h
  cases hf : ev_kt.find? (fun e => e.1 == c && e.2.1 == idx) with
  | none => rw [hf] at h; cases h
  | some e =>
    rw [hf] at h
    have h1 := List.find?_some hf
    have h2 := List.mem_of_find?_eq_some hf
    obtain ⟨e1, e2, e3⟩ := e
    simp only [Option.map_some, Option.some.injEq] at h
    simp only [Bool.and_eq_true, beq_iff_eq] at h1
    rw [← h1.1, ← h1.2, ← h]
    exact h2
theorem ev_tx_ok {c idx a p : Nat} {t : String} (h : ev_tx c idx = some (t, a, p)) : (c, idx, t, a, p) ∈ ev_sr := by
  unfold ev_tx at h
  cases hf : ev_sr.find? (fun e => e.1 == c && e.2.1 == idx) with
  | none => rw [hf] at h; cases h
  | some e =>
    rw [hf] at h
    have h1 := List.find?_some hf
    have h2 := List.mem_of_find?_eq_some hf
    obtain ⟨e1, e2, e3⟩ := e
    simp only [Option.map_some, Option.some.injEq] at h
    simp only [Bool.and_eq_true, beq_iff_eq] at h1
    rw [← h1.1, ← h1.2, ← h]
    exact h2
theorem ev_nw_ok {c idx ci p : Nat} (h : ev_nw c idx = some (ci, p)) : (c, idx, ci, p) ∈ ev_nt := by
  unfold ev_nw at h
  cases hf : ev_nt.find? (fun e => e.1 == c && e.2.1 == idx) with
  | none => rw [hf] at h; cases h
  | some e =>
    rw [hf] at h
    have h1 := List.find?_some hf
    have h2 := List.mem_of_find?_eq_some hf
    obtain ⟨e1, e2, e3⟩ := e
    simp only [Option.map_some, Option.some.injEq] at h
    simp only [Bool.and_eq_true, beq_iff_eq] at h1
    rw [← h1.1, ← h1.2, ← h]
    exact h2
theorem ev_clget {c : Nat} (h : c < 12) : ev_cl[c]? = some ((ev_C c).1, (ev_C c).2.1, (ev_C c).2.2) := by
  have h1 : ∀ c, c < 12 → ev_cl[c]? = some (ev_C c) := fun c h => by
    unfold ev_C
    rw [List.getD_eq_getElem?_getD, List.getElem?_eq_getElem (show c < ev_cl.length from h)]
    rfl
  exact h1 c h
theorem ev_in_ok {i : Int32} {n : Nat} (h : ev_in i n = true) : vp_in i n := by unfold ev_in at h; unfold vp_in; exact of_decide_eq_true h
theorem ev_vl_nil {n : Nat} {v : Value} (h : ∀ a, v ≠ .ref a) : ev_vl n v := fun a ha => absurd ha (h a)
theorem ev_sl_cons {n : Nat} {v : Value} {st : List Value} (hv : ev_vl n v) (hs : ev_sl n st) : ev_sl n (v :: st) := fun w hw => by
  rcases List.mem_cons.mp hw with rfl | hw
  · exact hv
  · exact hs w hw
theorem ev_sl_tail {n : Nat} {v : Value} {st : List Value} (hs : ev_sl n (v :: st)) : ev_sl n st := fun w hw => hs w (List.mem_cons_of_mem _ hw)
theorem ev_sl_mono {n k : Nat} {st : List Value} (hs : ev_sl n st) (hk : n ≤ k) : ev_sl k st := fun w hw => ev_vl_mono (hs w hw) hk
theorem ev_ll_mono {n k : Nat} {lo : ev_L} (hs : ev_ll n lo) (hk : n ≤ k) : ev_ll k lo := fun j w hw => ev_vl_mono (hs j w hw) hk
/-- one cell is set: what stands then -/
theorem ev_I.set {L : Nat} {xs : Nat → Int32} {D : va_G} {cA : Nat → ClassId} {A : Nat → Prop} {s : State} {ad : Nat → Nat} {μ : ev_H} {H H1 : Heap} {locs locs1 : List Loc} {a : Nat} {e : ev_E} (h : ev_I L xs D cA A s ad μ H locs) (h1 : ev_S ≤ a) (h2 : a < μ.1) (he : ev_el μ.1 e)
    (hP : va_P D ev_cl ((ev_ws ad cA μ).set (a - ev_S) (ad a, ev_ce ad cA e)) H1) (hD : va_D A ((ev_ws ad cA μ).set (a - ev_S) (ad a, ev_ce ad cA e))) (hS : va_S A s.heap H1 locs1) : ev_I L xs D cA A s ad (μ.1, ev_up μ.2 a e) H1 locs1 := by
  rw [ev_ws_set h1 h2] at hP hD
  obtain ⟨q1, q2, q3, q4, q5, q6, q7, q8, q9⟩ := h
  exact ⟨ev_mw_set q1 h1 h2 he, fun b hb => by
    have : ¬ b = a := by omega
    simp only [ev_up, this, if_false]
    exact q2 b hb, q3, hP, hD, hS, q7, q8, q9⟩
/-- something is made: what stands then -/
theorem ev_I.push {L : Nat} {xs : Nat → Int32} {D : va_G} {cA : Nat → ClassId} {A : Nat → Prop} {s : State} {ad : Nat → Nat} {μ : ev_H} {H H1 : Heap} {locs locs1 : List Loc} {q : Nat} {e : ev_E} (h : ev_I L xs D cA A s ad μ H locs) (he : ev_el μ.1 e)
    (hP : va_P D ev_cl (ev_ws ad cA μ ++ [(q, ev_ce ad cA e)]) H1) (hD : va_D A (ev_ws ad cA μ ++ [(q, ev_ce ad cA e)])) (hS : va_S A s.heap H1 locs1) : ev_I L xs D cA A s (va_up ad μ.1 q) (μ.1 + 1, ev_up μ.2 μ.1 e) H1 locs1 := by
  obtain ⟨q1, q2, q3, q4, q5, q6, q7, q8, q9⟩ := h
  rw [ev_ws_push q1 he] at hP hD
  have h0 := q1.1
  have hag : ∀ a, a < ev_S → va_up ad μ.1 q a = ad a := fun a ha => by unfold va_up; rw [if_neg (by omega)]
  exact ⟨ev_mw_push q1 he, fun b hb => by
    have : ¬ b = μ.1 := by omega
    simp only [ev_up, this, if_false]
    exact q2 b hb, q3, hP, hD, hS, q7, q8.ad hag, q9.ad hag⟩
theorem ev_lr_ag {ad ad' : Nat → Nat} {ls : Array Slot} {lo : ev_L} {n : Nat} (h : ev_lr ad ls lo) (hl : ev_ll n lo) (hag : ∀ a, a < n → ad' a = ad a) : ev_lr ad' ls lo := by
  have hv : ∀ v, ev_vl n v → ev_v ad' v = ev_v ad v := fun v hv => by
    cases v with
    | ref a => show Value.ref (ad' a) = .ref (ad a); rw [hag a (hv a rfl)]
    | _ => rfl
  refine ⟨h.1, h.2.1, fun x hx => h.2.2 x ?_⟩
  obtain ⟨j, w, h1, h2, h3⟩ := ev_al_mem.mp hx
  exact ev_al_mem.mpr ⟨j, w, h1, h2, by rw [h3, hv w (hl j w h2)]⟩
theorem ev_st_ag {ad ad' : Nat → Nat} {st : List Value} {n : Nat} (h : ev_sl n st) (hag : ∀ a, a < n → ad' a = ad a) : st.map (ev_v ad') = st.map (ev_v ad) := List.map_congr_left fun v hv => by
  have h1 := h v hv
  cases v with
  | ref a => show Value.ref (ad' a) = .ref (ad a); rw [hag a (h1 a rfl)]
  | _ => rfl
theorem ev_new_lt : ∀ c, c < 12 → (ev_new c).length = (ev_C c).2.2 ∧ ∀ v ∈ ev_new c, (match v with | .ref _ => false | _ => true) = true := by decide +kernel
theorem ev_arrK {D : va_G} {cA : Nat → ClassId} {s : State} {t : Nat} {c1 : ClassId} {ty : FieldType} (h0 : va_K D ev_cl (ev_tys cA) s) (ht : (ev_tys cA)[t]? = some (cA t, ty)) (h1 : va_K D ev_cl (ev_tys cA ++ [(c1, ty)]) s) : c1 = cA t := by
  have a := (h0.2 t _ ht).2
  have b := (h1.2 4 (c1, ty) (by simp [ev_tys])).2
  cases ty with
  | object C =>
    obtain ⟨-, -, -, -, -, a4⟩ := a
    obtain ⟨-, -, -, -, -, b4⟩ := b
    exact Option.some.inj (b4.symm.trans a4)
  | _ => exact Option.some.inj (Eq.trans (Eq.symm b) a)
