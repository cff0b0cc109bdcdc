/-! How a method is entered and left. -/
theorem ev_ar_al (ad : Nat → Nat) : ∀ (av : List Value) (k n : Nat), ev_al ad k (ev_ar av ++ List.replicate n none) = lv_args k (av.map (ev_v ad)) := by
  intro av
  induction av with
  | nil =>
    intro k n
    have h : ∀ (n k : Nat), ev_al ad k (List.replicate n none) = [] := by
      intro n
      induction n with
      | zero => intro k; rfl
      | succ n ih => intro k; rw [List.replicate_succ]; exact ih (k + 1)
    exact h n k
  | cons v r ih =>
    intro k n
    rw [List.map_cons, lv_args, ev_ar, ev_v_cat]
    by_cases hc : v.category = 2
    · rw [if_pos hc, if_pos hc]
      show (k, ev_v ad v) :: ev_al ad (k + 1 + 1) (ev_ar r ++ List.replicate n none) = _
      rw [ih]
    · rw [if_neg hc, if_neg hc]
      show (k, ev_v ad v) :: ev_al ad (k + 1) (ev_ar r ++ List.replicate n none) = _
      rw [ih]
theorem ev_ar_len (ad : Nat → Nat) : ∀ av : List Value, (lg_sl (av.map (ev_v ad))).length = (ev_ar av).length := by
  intro av
  induction av with
  | nil => rfl
  | cons v r ih =>
    have h1 : lg_sl ((v :: r).map (ev_v ad)) = (if v.category = 2 then [.val (ev_v ad v), .second] else [.val (ev_v ad v)]) ++ lg_sl (r.map (ev_v ad)) := by
      show (List.flatMap _ (ev_v ad v :: r.map (ev_v ad))) = _
      rw [List.flatMap_cons, ev_v_cat]
      rfl
    rw [h1, List.length_append, ih, ev_ar]
    by_cases hc : v.category = 2
    · rw [if_pos hc, if_pos hc]; simp only [List.length_cons, List.length_nil]; omega
    · rw [if_neg hc, if_neg hc]; simp only [List.length_cons, List.length_nil]; omega
theorem ev_en_len {M : Nat} {av : List Value} (h : (ev_ar av).length ≤ ev_ml M) : (ev_en M av).length = ev_ml M := by
  unfold ev_en
  rw [List.length_append, List.length_replicate]
  omega
theorem ev_ll_ar {N : Nat} : ∀ {av : List Value}, ev_sl N av → ∀ n, ev_ll N (ev_ar av ++ List.replicate n none) := by
  intro av
  induction av with
  | nil =>
    intro _ n j w h
    have h0 : (List.replicate n (none : Option Value))[j]? = some (some w) := h
    rw [List.getElem?_replicate] at h0
    split at h0 <;> cases h0
  | cons v r ih =>
    intro hs n j w h
    have hr : ev_sl N r := ev_sl_tail hs
    rw [ev_ar] at h
    by_cases hc : v.category = 2
    · rw [if_pos hc] at h
      match j, h with
      | 0, h =>
        have h1 : some (some v) = some (some w) := h
        cases h1
        exact hs _ List.mem_cons_self
      | 1, h => cases h
      | j + 2, h => exact ih hr n j w h
    · rw [if_neg hc] at h
      match j, h with
      | 0, h =>
        have h1 : some (some v) = some (some w) := h
        cases h1
        exact hs _ List.mem_cons_self
      | j + 1, h => exact ih hr n j w h
/-- the words of a method's contract -/
def ev_wd (M : Nat) : Cond := if ev_hh M = [] then .code (ev_y M) (ev_cd M) (ev_ml M) (ev_rt M) else .codeWith (ev_y M) (ev_cd M) (ev_ml M) (ev_rt M) (ev_hh M)
def ev_rm (M : Nat) : Room := { frames := ev_dp M, cells := ev_k1 M, slots := ev_k2 M, locals := ev_lc M }
theorem ev_wd_in {M : Nat} (h : M < ev_nm) (hl : M ≠ ev_lawM) : ev_wd M ∈ ev_gw := by
  have h1 := ev_okM_all h hl
  unfold ev_okM at h1
  split at h1
  · rename_i y b mm r hw
    obtain ⟨e1, e2, e3, e4⟩ := of_decide_eq_true h1
    have hb : ev_cd M = b := by unfold ev_cd; rw [if_neg hl, hw]
    unfold ev_wd
    rw [if_pos e4, hb, ← e1, ← e2, ← e3]
    exact ev_gm hw rfl
  · rename_i y b mm r hh hw
    obtain ⟨e1, e2, e3, e4, e5⟩ := of_decide_eq_true h1
    have hb : ev_cd M = b := by unfold ev_cd; rw [if_neg hl, hw]
    unfold ev_wd
    rw [if_neg (by rw [e4]; exact e5), hb, ← e1, ← e2, ← e3, e4]
    exact ev_gm hw rfl
  · cases h1
/-- what a call leaves: its memory, seen from its own cells -/
def ev_Jn (L : Nat) (xs : Nat → Int32) (D : va_G) (cA : Nat → ClassId) (A : Nat → Prop) (ad ad' : Nat → Nat) (n0 : Nat) (μ1 : ev_H) (t : State) : Prop :=
  (∀ a, a < n0 → ad' a = ad a) ∧ n0 ≤ μ1.1 ∧ ev_mw μ1 ∧ (∀ a, a < ev_S → μ1.2 a = ev_sf L xs a) ∧ va_P D ev_cl (ev_ws ad' cA μ1) t.heap ∧ va_D A (ev_ws ad' cA μ1)
def ev_Pc (L : Nat) (xs : Nat → Int32) (D : va_G) (cA : Nat → ClassId) (ad : Nat → Nat) (μ : ev_H) (av : List Value) (sz : Nat) : Array Value → State → Prop :=
  va_Pc (av.map (ev_v ad)) (fun U => U.heap.size = sz ∧ ev_I L xs D cA (va_A (ev_ws ad cA μ) sz) U ad μ U.heap [])
def ev_Qc (L : Nat) (xs : Nat → Int32) (D : va_G) (cA : Nat → ClassId) (A : Nat → Prop) (ad : Nat → Nat) (n0 : Nat) (o : Option Value ⊕ Nat) (μ1 : ev_H) : Array Value → State → Outcome → State → Prop := fun _ st oc t =>
  (∃ (v : Option Value) (ad' : Nat → Nat), o = .inl v ∧ oc = .returned (v.map (ev_v ad')) ∧ (∀ w, v = some w → ev_vl μ1.1 w) ∧ ev_Jn L xs D cA A ad ad' n0 μ1 t) ∧ va_F A st t
def ev_XC (L : Nat) (xs : Nat → Int32) (D : va_G) (cA : Nat → ClassId) (A : Nat → Prop) (ad : Nat → Nat) (n0 : Nat) (o : Option Value ⊕ Nat) (μ1 : ev_H) : String → State → State → Prop := fun E st t =>
  (∃ (ex : Nat) (ad' : Nat → Nat), o = .inr ex ∧ ex < 4 ∧ E = ev_X.getD ex "" ∧ ev_Jn L xs D cA A ad ad' n0 μ1 t) ∧ va_F A st t
def ev_Ct (l : Launch) (n : Nat) : Prop := ∀ (M : Nat) (av : List Value) (μ : ev_H) (o : Option Value ⊕ Nat) (μ1 : ev_H) (ad : Nat → Nat) (L : Nat) (xs : Nat → Int32) (D : va_G) (cA : Nat → ClassId) (sz : Nat),
  M < ev_nm → M ≠ ev_lawM → ev_run n (ev_k1 M) (ev_k2 M) M 0 (ev_en M av) [] μ = some (o, μ1) → ev_sl μ.1 av → (ev_ar av).length ≤ ev_ml M →
  vx_Met l (ev_y M) (ev_wd M :: ev_gw) (ev_rm M) (ev_Pc L xs D cA ad μ av sz) (ev_Qc L xs D cA (va_A (ev_ws ad cA μ) sz) ad μ.1 o μ1) (ev_XC L xs D cA (va_A (ev_ws ad cA μ) sz) ad μ.1 o μ1) (ev_k1 M) (ev_k2 M) (va_A (ev_ws ad cA μ) sz)
theorem ev_Pc_blind {L : Nat} {xs : Nat → Int32} {D : va_G} {cA : Nat → ClassId} {ad : Nat → Nat} {μ : ev_H} {av : List Value} {sz : Nat} : FrameBlind (ev_Pc L xs D cA ad μ av sz) := by
  intro a U g mk q
  obtain ⟨q1, q2, h1, h2, h3, h4, h5, h6, h7, h8, h9⟩ := q
  exact ⟨q1, q2, h1, h2, h3.moved (u := U) (U := U.calling g mk a) (Vm.Alike.refl U.vm), h4, h5, h6, h7, h8.moved (u := U) (U := U.calling g mk a) (Vm.Alike.refl U.vm), h9.warm (U := U.calling g mk a) (State.WarmedH.refl U)⟩
/-- handlers: the table, and what the evaluator has of it -/
def ev_xl (ct : Nat) : Option Nat := (ev_xt.find? (fun e => e.1 == 12 && e.2.1 == ct)).map (fun e => e.2.2.1)
def ev_hck (M : Nat) : Bool := decide ((ev_hh M).length = (ev_eh M).length) && ((ev_hh M).zip (ev_eh M)).all (fun q =>
  decide (q.1.1 = q.2.1 ∧ q.1.2.1 = q.2.2.1 ∧ q.1.2.2.2 ≠ 0 ∧ ev_xl q.1.2.2.2 = some q.2.2.2.1 ∧ q.2.2.2.1 < 4 ∧ ev_ci M = 12 ∧ q.2.2.2.2.2 < ev_ml M) &&
  (decide (decode (ev_cd M) q.1.2.2.1 = .ok (.astore q.2.2.2.2.2, 2) ∧ q.2.2.2.2.1 = q.1.2.2.1 + 2) || (decide (q.2.2.2.2.1 = q.1.2.2.1 + 1) && (List.range 4).any (fun j => decide (j = q.2.2.2.2.2) && decide (decode (ev_cd M) q.1.2.2.1 = .ok (.astore_n (Fin.ofNat 4 j), 1))))))
set_option maxRecDepth 100000 in
theorem ev_hck_0 : ∀ r, r < 25 → (ev_hck (25 * 0 + r) || decide (25 * 0 + r = ev_lawM ∨ ev_nm ≤ 25 * 0 + r)) = true := by decide +kernel
set_option maxRecDepth 100000 in
theorem ev_hck_1 : ∀ r, r < 25 → (ev_hck (25 * 1 + r) || decide (25 * 1 + r = ev_lawM ∨ ev_nm ≤ 25 * 1 + r)) = true := by decide +kernel
set_option maxRecDepth 100000 in
theorem ev_hck_2 : ∀ r, r < 25 → (ev_hck (25 * 2 + r) || decide (25 * 2 + r = ev_lawM ∨ ev_nm ≤ 25 * 2 + r)) = true := by decide +kernel
set_option maxRecDepth 100000 in
theorem ev_hck_3 : ∀ r, r < 25 → (ev_hck (25 * 3 + r) || decide (25 * 3 + r = ev_lawM ∨ ev_nm ≤ 25 * 3 + r)) = true := by decide +kernel
set_option maxRecDepth 100000 in
theorem ev_hck_4 : ∀ r, r < 25 → (ev_hck (25 * 4 + r) || decide (25 * 4 + r = ev_lawM ∨ ev_nm ≤ 25 * 4 + r)) = true := by decide +kernel
set_option maxRecDepth 100000 in
theorem ev_hck_5 : ∀ r, r < 25 → (ev_hck (25 * 5 + r) || decide (25 * 5 + r = ev_lawM ∨ ev_nm ≤ 25 * 5 + r)) = true := by decide +kernel
set_option maxRecDepth 100000 in
theorem ev_hck_6 : ∀ r, r < 25 → (ev_hck (25 * 6 + r) || decide (25 * 6 + r = ev_lawM ∨ ev_nm ≤ 25 * 6 + r)) = true := by decide +kernel
set_option maxRecDepth 100000 in
theorem ev_hck_7 : ∀ r, r < 25 → (ev_hck (25 * 7 + r) || decide (25 * 7 + r = ev_lawM ∨ ev_nm ≤ 25 * 7 + r)) = true := by decide +kernel
theorem ev_hck_all {k : Nat} (h : k < ev_nm) (hl : k ≠ ev_lawM) : ev_hck k = true := by
  have e : 25 * (k / 25) + k % 25 = k := Nat.div_add_mod k 25
  have hr : k % 25 < 25 := Nat.mod_lt _ (by decide)
  have hg : k / 25 < 8 := by have : ev_nm = 189 := rfl; omega
  have key : (ev_hck k || decide (k = ev_lawM ∨ ev_nm ≤ k)) = true := by
    rw [← e]
    generalize k / 25 = g at hg
    generalize k % 25 = r at hr
    match g, hg with
    | 0, _ => exact ev_hck_0 r hr
    | 1, _ => exact ev_hck_1 r hr
    | 2, _ => exact ev_hck_2 r hr
    | 3, _ => exact ev_hck_3 r hr
    | 4, _ => exact ev_hck_4 r hr
    | 5, _ => exact ev_hck_5 r hr
    | 6, _ => exact ev_hck_6 r hr
    | 7, _ => exact ev_hck_7 r hr
  rw [Bool.or_eq_true] at key
  rcases key with q | q
  · exact q
  · rcases of_decide_eq_true q with q | q
    · exact absurd q hl
    · omega
def ev_okE (k : Nat) : Bool := (parseMethodDescriptor (ev_y k).desc).isSome && decide ((ev_kd k ≠ 0 → ev_hh k = [] ∧ ev_ci k < 12) ∧ (ev_kd k = 2 → ev_rt k = none) ∧ ev_kd k ≤ 2)
set_option maxRecDepth 100000 in
theorem ev_okE_0 : ∀ r, r < 25 → (ev_okE (25 * 0 + r) || decide (25 * 0 + r = ev_lawM ∨ ev_nm ≤ 25 * 0 + r)) = true := by decide +kernel
set_option maxRecDepth 100000 in
theorem ev_okE_1 : ∀ r, r < 25 → (ev_okE (25 * 1 + r) || decide (25 * 1 + r = ev_lawM ∨ ev_nm ≤ 25 * 1 + r)) = true := by decide +kernel
set_option maxRecDepth 100000 in
theorem ev_okE_2 : ∀ r, r < 25 → (ev_okE (25 * 2 + r) || decide (25 * 2 + r = ev_lawM ∨ ev_nm ≤ 25 * 2 + r)) = true := by decide +kernel
set_option maxRecDepth 100000 in
theorem ev_okE_3 : ∀ r, r < 25 → (ev_okE (25 * 3 + r) || decide (25 * 3 + r = ev_lawM ∨ ev_nm ≤ 25 * 3 + r)) = true := by decide +kernel
set_option maxRecDepth 100000 in
theorem ev_okE_4 : ∀ r, r < 25 → (ev_okE (25 * 4 + r) || decide (25 * 4 + r = ev_lawM ∨ ev_nm ≤ 25 * 4 + r)) = true := by decide +kernel
set_option maxRecDepth 100000 in
theorem ev_okE_5 : ∀ r, r < 25 → (ev_okE (25 * 5 + r) || decide (25 * 5 + r = ev_lawM ∨ ev_nm ≤ 25 * 5 + r)) = true := by decide +kernel
set_option maxRecDepth 100000 in
theorem ev_okE_6 : ∀ r, r < 25 → (ev_okE (25 * 6 + r) || decide (25 * 6 + r = ev_lawM ∨ ev_nm ≤ 25 * 6 + r)) = true := by decide +kernel
set_option maxRecDepth 100000 in
theorem ev_okE_7 : ∀ r, r < 25 → (ev_okE (25 * 7 + r) || decide (25 * 7 + r = ev_lawM ∨ ev_nm ≤ 25 * 7 + r)) = true := by decide +kernel
theorem ev_okE_all {k : Nat} (h : k < ev_nm) (hl : k ≠ ev_lawM) : ev_okE k = true := by
  have e : 25 * (k / 25) + k % 25 = k := Nat.div_add_mod k 25
  have hr : k % 25 < 25 := Nat.mod_lt _ (by decide)
  have hg : k / 25 < 8 := by have : ev_nm = 189 := rfl; omega
  have key : (ev_okE k || decide (k = ev_lawM ∨ ev_nm ≤ k)) = true := by
    rw [← e]
    generalize k / 25 = g at hg
    generalize k % 25 = r at hr
    match g, hg with
    | 0, _ => exact ev_okE_0 r hr
    | 1, _ => exact ev_okE_1 r hr
    | 2, _ => exact ev_okE_2 r hr
    | 3, _ => exact ev_okE_3 r hr
    | 4, _ => exact ev_okE_4 r hr
    | 5, _ => exact ev_okE_5 r hr
    | 6, _ => exact ev_okE_6 r hr
    | 7, _ => exact ev_okE_7 r hr
  rw [Bool.or_eq_true] at key
  rcases key with q | q
  · exact q
  · rcases of_decide_eq_true q with q | q
    · exact absurd q hl
    · omega
theorem ev_ct_law : ∀ e ∈ ev_ct, e.2.2.1 ≠ ev_lawM := by decide +kernel
