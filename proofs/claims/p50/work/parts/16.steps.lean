/-! Steps of the evaluator as equations, an instruction a row: what the rows of every method are made of. -/
section NST
variable {b z M pc n : Nat} {i : Instr} {lo lo' : ev_L} {st st' : List Value} {μ : ev_H} {a : Nat} {v : Value} {x y : Int32}
abbrev ev_F1 (M pc : Nat) (i : Instr) (n : Nat) : Prop := ev_f M pc = some (i, n) ∧ ev_th2 M pc = none
theorem ev_stuck (h : ev_x M pc lo st μ = none) : ev_dn b z M pc lo st μ = none := by
  cases hd : ev_dn b z M pc lo st μ with
  | none => rfl
  | some r =>
    obtain ⟨k, hk⟩ := ev_dn_some.mp hd
    cases k with
    | zero => cases hk
    | succ k => rw [ev_run, h] at hk; cases hk
theorem n_pu (hf : ev_F1 M pc i n) (h : ev_pu i n st = some st') : ev_dn b z M pc lo st μ = ev_dn b z M (pc + n) lo st' μ :=
  ev_next0 (by unfold ev_x; simp only [hf.1, hf.2, h])
theorem n_br {pc' : Nat} (hf : ev_F1 M pc i n) (hp : ev_pu i n st = none) (h : ev_br i n pc st = some (pc', st')) : ev_dn b z M pc lo st μ = ev_dn b z M pc' lo st' μ :=
  ev_next0 (by unfold ev_x; simp only [hf.1, hf.2, hp, h])
theorem n_if {t : Nat} {off : Int} {p : Prop} [Decidable p] {c : ClassFile.Cond} (hf : ev_F1 M pc (.ifCond c off) 3) (ht : ev_tg pc off = some t) (hc : ev_c1 c x = decide p) : ev_dn b z M pc lo (.int x :: st) μ = if p then ev_dn b z M t lo st μ else ev_dn b z M (pc + 3) lo st μ := by
  by_cases hp : p
  · rw [if_pos hp]
    exact n_br hf rfl (by unfold ev_br; simp only [ht, hc, hp, decide_true, if_true])
  · rw [if_neg hp]
    exact n_br hf rfl (by unfold ev_br; simp only [ht, hc, hp, decide_false, if_false, Bool.false_eq_true])
theorem n_ic {t : Nat} {off : Int} {p : Prop} [Decidable p] {c : ClassFile.Cond} (hf : ev_F1 M pc (.if_icmp c off) 3) (ht : ev_tg pc off = some t) (hc : ev_c2 c x y = decide p) : ev_dn b z M pc lo (.int y :: .int x :: st) μ = if p then ev_dn b z M t lo st μ else ev_dn b z M (pc + 3) lo st μ := by
  by_cases hp : p
  · rw [if_pos hp]
    exact n_br hf rfl (by unfold ev_br; simp only [ht, hc, hp, decide_true, if_true])
  · rw [if_neg hp]
    exact n_br hf rfl (by unfold ev_br; simp only [ht, hc, hp, decide_false, if_false, Bool.false_eq_true])
theorem n_go {t : Nat} {off : Int} (hf : ev_F1 M pc (.goto off) 3) (ht : ev_tg pc off = some t) : ev_dn b z M pc lo st μ = ev_dn b z M t lo st μ :=
  n_br hf rfl (by unfold ev_br; simp only [ht, Option.map_some])
theorem n_nn {off : Int} (hf : ev_F1 M pc (.ifnull off) 3) : ev_dn b z M pc lo (.ref a :: st) μ = ev_dn b z M (pc + 3) lo st μ := n_br hf rfl rfl
theorem n_ld (hf : ev_F1 M pc i n) (hp : ev_pu i n st = none) (hb : ev_br i n pc st = none) (h : ev_ld i n lo = some v) : ev_dn b z M pc lo st μ = ev_dn b z M (pc + n) lo (v :: st) μ :=
  ev_next0 (by unfold ev_x; simp only [hf.1, hf.2, hp, hb, h])
theorem n_so (hf : ev_F1 M pc i n) (hp : ev_pu i n st = none) (hb : ev_br i n pc st = none) (hl : ev_ld i n lo = none) (h : ev_so i n lo st = some (lo', st')) : ev_dn b z M pc lo st μ = ev_dn b z M (pc + n) lo' st' μ :=
  ev_next0 (by unfold ev_x; simp only [hf.1, hf.2, hp, hb, hl, h])
theorem n_div (hf : ev_F1 M pc .idiv 1) : ev_dn b z M pc lo (.int y :: .int x :: st) μ = if y = 0 then none else ev_dn b z M (pc + 1) lo (.int (x / y) :: st) μ := by
  by_cases h : y = 0
  · rw [if_pos h]
    refine ev_stuck ?_
    have e1 : ev_pu .idiv 1 (.int y :: .int x :: st) = none := if_pos h
    have e2 : ev_me (ev_ci M) (ev_kd M) .idiv 1 (.int y :: .int x :: st) μ = none := rfl
    unfold ev_x
    simp only [hf.1, hf.2, e1, show ev_br .idiv 1 pc (.int y :: .int x :: st) = none from rfl, show ev_ld .idiv 1 lo = none from rfl, show ev_so .idiv 1 lo (.int y :: .int x :: st) = none from rfl, e2, show ev_iv M .idiv 1 = none from rfl, show ev_rv (ev_rt M) .idiv 1 (.int y :: .int x :: st) = none from rfl, Option.map_none]
  · rw [if_neg h]
    exact n_pu hf (if_neg h)
theorem n_rem (hf : ev_F1 M pc .irem 1) : ev_dn b z M pc lo (.int y :: .int x :: st) μ = if y = 0 then none else ev_dn b z M (pc + 1) lo (.int (x - x / y * y) :: st) μ := by
  by_cases h : y = 0
  · rw [if_pos h]
    refine ev_stuck ?_
    have e1 : ev_pu .irem 1 (.int y :: .int x :: st) = none := if_pos h
    have e2 : ev_me (ev_ci M) (ev_kd M) .irem 1 (.int y :: .int x :: st) μ = none := rfl
    unfold ev_x
    simp only [hf.1, hf.2, e1, show ev_br .irem 1 pc (.int y :: .int x :: st) = none from rfl, show ev_ld .irem 1 lo = none from rfl, show ev_so .irem 1 lo (.int y :: .int x :: st) = none from rfl, e2, show ev_iv M .irem 1 = none from rfl, show ev_rv (ev_rt M) .irem 1 (.int y :: .int x :: st) = none from rfl, Option.map_none]
  · rw [if_neg h]
    exact n_pu hf (if_neg h)
theorem n_me {c s : Nat} {μ' : ev_H} (hf : ev_F1 M pc i n) (hp : ev_pu i n st = none) (hb : ev_br i n pc st = none) (hl : ev_ld i n lo = none) (hs : ev_so i n lo st = none) (h : ev_me (ev_ci M) (ev_kd M) i n st μ = some (c, s, st', μ')) (hz : c ≤ b ∧ s ≤ z) : ev_dn b z M pc lo st μ = ev_dn (b - c) (z - s) M (pc + n) lo st' μ' :=
  ev_next (by unfold ev_x; simp only [hf.1, hf.2, hp, hb, hl, hs, h]) hz
theorem n_mn (hf : ev_F1 M pc i n) (hp : ev_pu i n st = none) (hb : ev_br i n pc st = none) (hl : ev_ld i n lo = none) (hs : ev_so i n lo st = none) (h : ev_me (ev_ci M) (ev_kd M) i n st μ = none) (hi : ev_iv M i n = none) (hr : ev_rv (ev_rt M) i n st = none) : ev_dn b z M pc lo st μ = none :=
  ev_stuck (by unfold ev_x; simp only [hf.1, hf.2, hp, hb, hl, hs, h, hi, hr, Option.map_none])
/-! what a read or a write of memory goes on to -/
noncomputable def eg_v (o : Option Value) (b z M pc : Nat) (lo : ev_L) (st : List Value) (μ : ev_H) : ev_Q := match o with
  | some v => ev_dn b z M pc lo (v :: st) μ
  | none => none
noncomputable def eg_gf (e : Option ev_E) (ci k a b z M pc : Nat) (lo : ev_L) (st : List Value) (μ : ev_H) : ev_Q := match e with
  | some (.inl (c2, fs)) => if c2 = ci ∧ ev_S ≤ a then eg_v fs[k]? b z M pc lo st μ else none
  | _ => none
noncomputable def eg_pf (e : Option ev_E) (ci k : Nat) (v : Value) (a b z M pc : Nat) (lo : ev_L) (st : List Value) (μ : ev_H) : ev_Q := match e with
  | some (.inl (c2, fs)) => if c2 = ci ∧ ev_S ≤ a ∧ k < fs.length then ev_dn b z M pc lo st (μ.1, ev_up μ.2 a (ev_ob ci (fs.set k v))) else none
  | _ => none
noncomputable def eg_pz (e : Option ev_E) (ci k : Nat) (x : Int32) (a b z M pc : Nat) (lo : ev_L) (st : List Value) (μ : ev_H) : ev_Q := match e with
  | some (.inl (c2, fs)) => if (c2 = ci ∧ ev_S ≤ a ∧ k < fs.length) ∧ (x = 0 ∨ x = 1) then ev_dn b z M pc lo st (μ.1, ev_up μ.2 a (ev_ob ci (fs.set k (.int x)))) else none
  | _ => none
noncomputable def eg_al (e : Option ev_E) (t : Nat) (x : Int32) (a b z M pc : Nat) (lo : ev_L) (st : List Value) (μ : ev_H) : ev_Q := match e with
  | some (.inr (.inl (t2, m, f))) => if t2 = t ∧ ev_in x m = true ∧ (t = 1 → ev_S ≤ a) then ev_dn b z M pc lo (.int (f x.toNatClampNeg) :: st) μ else none
  | _ => none
noncomputable def eg_as (e : Option ev_E) (t : Nat) (x y : Int32) (a b z M pc : Nat) (lo : ev_L) (st : List Value) (μ : ev_H) : ev_Q := match e with
  | some (.inr (.inl (t2, m, f))) => if t2 = t ∧ ev_in x m = true ∧ ev_S ≤ a then ev_dn b z M pc lo st (μ.1, ev_up μ.2 a (ev_ia t m (upd f x.toNatClampNeg y))) else none
  | _ => none
noncomputable def eg_ll (e : Option ev_E) (x : Int32) (a b z M pc : Nat) (lo : ev_L) (st : List Value) (μ : ev_H) : ev_Q := match e with
  | some (.inr (.inr (.inl (m, f)))) => if ev_in x m = true ∧ ev_S ≤ a then ev_dn b z M pc lo (.long (f x.toNatClampNeg) :: st) μ else none
  | _ => none
noncomputable def eg_ls (e : Option ev_E) (x : Int32) (y : Int64) (a b z M pc : Nat) (lo : ev_L) (st : List Value) (μ : ev_H) : ev_Q := match e with
  | some (.inr (.inr (.inl (m, f)))) => if ev_in x m = true ∧ ev_S ≤ a then ev_dn b z M pc lo st (μ.1, ev_up μ.2 a (ev_la m (vp_updL f x.toNatClampNeg y))) else none
  | _ => none
noncomputable def eg_rl (e : Option ev_E) (x : Int32) (a b z M pc : Nat) (lo : ev_L) (st : List Value) (μ : ev_H) : ev_Q := match e with
  | some (.inr (.inr (.inr (m, f)))) => if ev_in x m = true ∧ ev_S ≤ a then ev_dn b z M pc lo (va_rf (f x.toNatClampNeg) :: st) μ else none
  | _ => none
noncomputable def eg_rs (e : Option ev_E) (e2 : Option ev_E) (x : Int32) (v a b z M pc : Nat) (lo : ev_L) (st : List Value) (μ : ev_H) : ev_Q := match e, e2 with
  | some (.inr (.inr (.inr (m, f)))), some (.inl (c2, _)) => if c2 = 3 ∧ ev_in x m = true ∧ ev_S ≤ a ∧ ev_S ≤ v then ev_dn b z M pc lo st (μ.1, ev_up μ.2 a (ev_ra m (va_up f x.toNatClampNeg (some v)))) else none
  | _, _ => none
noncomputable def eg_ln (e : Option ev_E) (b z M pc : Nat) (lo : ev_L) (st : List Value) (μ : ev_H) : ev_Q := match e with
  | some (.inr (.inl (t, m, _))) => if t ≤ 1 then ev_dn b z M pc lo (.int (Int32.ofNat m) :: st) μ else none
  | _ => none
noncomputable def eg_ac (e e2 : Option ev_E) (sp dp k : Int32) (a a2 b z M pc : Nat) (lo : ev_L) (st : List Value) (μ : ev_H) : ev_Q := match e, e2 with
  | some (.inr (.inl (t0, m0, f))), some (.inr (.inl (t1, m1, g))) =>
    if t0 = 0 ∧ t1 = 0 ∧ ¬ sp < 0 ∧ ¬ dp < 0 ∧ ¬ k < 0 ∧ sp.toNatClampNeg + k.toNatClampNeg ≤ m0 ∧ dp.toNatClampNeg + k.toNatClampNeg ≤ m1 ∧ ev_S ≤ a ∧ ev_S ≤ a2 then
      ev_dn b z M pc lo st (μ.1, ev_up μ.2 a2 (ev_ia 0 m1 (va_cpy f g sp.toNatClampNeg dp.toNatClampNeg k.toNatClampNeg)))
    else none
  | _, _ => none
noncomputable def eg_sl (e : Option ev_E) (b z M pc : Nat) (lo : ev_L) (st : List Value) (μ : ev_H) : ev_Q := match e with
  | some (.inr (.inl (t, m, _))) => if t = 9 then ev_dn b z M pc lo (.int (Int32.ofNat m) :: st) μ else none
  | _ => none
noncomputable def eg_sc (e : Option ev_E) (x : Int32) (b z M pc : Nat) (lo : ev_L) (st : List Value) (μ : ev_H) : ev_Q := match e with
  | some (.inr (.inl (t, m, f))) => if t = 9 ∧ ev_in x m = true then ev_dn b z M pc lo (.int (f x.toNatClampNeg) :: st) μ else none
  | _ => none
noncomputable def eg_rc (e : Option ev_E) (ci a : Nat) (q : ev_Q) : ev_Q := match e with
  | some (.inl (c, _)) => if c = ci ∧ ev_S ≤ a then q else none
  | _ => none
theorem n_mk (hf : ev_F1 M pc i n) (hp : ev_pu i n st = none) (hb : ev_br i n pc st = none) (hl : ev_ld i n lo = none) (hs : ev_so i n lo st = none) (hi : ev_iv M i n = none) (hr : ev_rv (ev_rt M) i n st = none) : ev_dn b z M pc lo st μ = match ev_me (ev_ci M) (ev_kd M) i n st μ with
    | some (c, s, st', μ') => if c ≤ b ∧ s ≤ z then ev_dn (b - c) (z - s) M (pc + n) lo st' μ' else none
    | none => none := by
  cases h : ev_me (ev_ci M) (ev_kd M) i n st μ with
  | none => exact n_mn hf hp hb hl hs h hi hr
  | some r =>
    obtain ⟨c, s, st', μ'⟩ := r
    dsimp only
    by_cases hz : c ≤ b ∧ s ≤ z
    · rw [if_pos hz]; exact n_me hf hp hb hl hs h hz
    · rw [if_neg hz]
      have hx : ev_x M pc lo st μ = some (.inl (c, s, pc + n, lo, st', μ')) := by unfold ev_x; simp only [hf.1, hf.2, hp, hb, hl, hs, h]
      cases hd : ev_dn b z M pc lo st μ with
      | none => rfl
      | some r =>
        obtain ⟨k, hk⟩ := ev_dn_some.mp hd
        cases k with
        | zero => cases hk
        | succ k =>
          rw [ev_run, hx] at hk
          simp only [if_neg hz] at hk
          cases hk
theorem n_00 {q : ev_Q} : (if 0 ≤ b ∧ 0 ≤ z then q else none) = q := if_pos ⟨Nat.zero_le _, Nat.zero_le _⟩
theorem n_gf {idx ci k t p : Nat} (hf : ev_F1 M pc (.getfield idx) 3) (hl : ev_fl (ev_ci M) idx = some (ci, k, t, p)) : ev_dn b z M pc lo (.ref a :: st) μ = eg_gf (μ.2 a) ci k a b z M (pc + 3) lo st μ := by
  rw [n_mk hf rfl rfl rfl rfl rfl rfl]
  simp only [ev_me, hl]
  match μ.2 a with
  | none => rfl
  | some (.inr _) => rfl
  | some (.inl (c2, fs)) =>
    unfold eg_gf
    dsimp only
    by_cases h : c2 = ci ∧ ev_S ≤ a
    · rw [if_pos h, if_pos h]
      cases fs[k]? with
      | none => rfl
      | some v => exact n_00
    · rw [if_neg h, if_neg h]
theorem n_pf {idx ci k t p : Nat} (hf : ev_F1 M pc (.putfield idx) 3) (hl : ev_fl (ev_ci M) idx = some (ci, k, t, p)) (hfit : ev_fit t v = true) (hfin : ((ev_C ci).2.1 k).2.2.2 = false ∨ (ev_kd M = 2 ∧ ev_ci M = ci)) : ev_dn b z M pc lo (v :: .ref a :: st) μ = eg_pf (μ.2 a) ci k v a b z M (pc + 3) lo st μ := by
  rw [n_mk hf rfl rfl rfl rfl rfl rfl]
  simp only [ev_me, hl]
  match μ.2 a with
  | none => rfl
  | some (.inr _) => rfl
  | some (.inl (c2, fs)) =>
    unfold eg_pf
    dsimp only
    by_cases h : c2 = ci ∧ ev_S ≤ a ∧ k < fs.length
    · rw [if_pos ⟨h.1, h.2.1, h.2.2, hfit, hfin⟩, if_pos h]; exact n_00
    · rw [if_neg (fun q => h ⟨q.1, q.2.1, q.2.2.1⟩), if_neg h]
theorem n_pz {idx ci k p : Nat} (hf : ev_F1 M pc (.putfield idx) 3) (hl : ev_fl (ev_ci M) idx = some (ci, k, 1, p)) (hfin : ((ev_C ci).2.1 k).2.2.2 = false ∨ (ev_kd M = 2 ∧ ev_ci M = ci)) : ev_dn b z M pc lo (.int x :: .ref a :: st) μ = eg_pz (μ.2 a) ci k x a b z M (pc + 3) lo st μ := by
  rw [n_mk hf rfl rfl rfl rfl rfl rfl]
  simp only [ev_me, hl]
  match μ.2 a with
  | none => rfl
  | some (.inr _) => rfl
  | some (.inl (c2, fs)) =>
    unfold eg_pz ev_fit
    dsimp only
    by_cases h : c2 = ci ∧ ev_S ≤ a ∧ k < fs.length
    · by_cases h2 : x = 0 ∨ x = 1
      · rw [if_pos ⟨h.1, h.2.1, h.2.2, decide_eq_true h2, hfin⟩, if_pos ⟨h, h2⟩]; exact n_00
      · rw [if_neg (fun q => h2 (of_decide_eq_true q.2.2.2.1)), if_neg (fun q => h2 q.2)]
    · rw [if_neg (fun q => h ⟨q.1, q.2.1, q.2.2.1⟩), if_neg (fun q => h q.1)]
theorem n_al (hf : ev_F1 M pc .iaload 1) : ev_dn b z M pc lo (.int x :: .ref a :: st) μ = eg_al (μ.2 a) 0 x a b z M (pc + 1) lo st μ := by
  rw [n_mk hf rfl rfl rfl rfl rfl rfl]
  simp only [ev_me]
  match μ.2 a with
  | none => rfl
  | some (.inl _) => rfl
  | some (.inr (.inr _)) => rfl
  | some (.inr (.inl (t, m, f))) =>
    unfold eg_al
    dsimp only
    by_cases h : t = 0 ∧ ev_in x m = true
    · rw [if_pos h, if_pos ⟨h.1, h.2, fun q => by cases q⟩]; exact n_00
    · rw [if_neg h, if_neg (fun q => h ⟨q.1, q.2.1⟩)]
theorem n_bl (hf : ev_F1 M pc .baload 1) : ev_dn b z M pc lo (.int x :: .ref a :: st) μ = eg_al (μ.2 a) 1 x a b z M (pc + 1) lo st μ := by
  rw [n_mk hf rfl rfl rfl rfl rfl rfl]
  simp only [ev_me]
  match μ.2 a with
  | none => rfl
  | some (.inl _) => rfl
  | some (.inr (.inr _)) => rfl
  | some (.inr (.inl (t, m, f))) =>
    unfold eg_al
    dsimp only
    by_cases h : t = 1 ∧ ev_in x m = true ∧ ev_S ≤ a
    · rw [if_pos h, if_pos ⟨h.1, h.2.1, fun _ => h.2.2⟩]; exact n_00
    · rw [if_neg h, if_neg (fun q => h ⟨q.1, q.2.1, q.2.2 rfl⟩)]
theorem n_as (hf : ev_F1 M pc .iastore 1) : ev_dn b z M pc lo (.int y :: .int x :: .ref a :: st) μ = eg_as (μ.2 a) 0 x y a b z M (pc + 1) lo st μ := by
  rw [n_mk hf rfl rfl rfl rfl rfl rfl]
  simp only [ev_me]
  match μ.2 a with
  | none => rfl
  | some (.inl _) => rfl
  | some (.inr (.inr _)) => rfl
  | some (.inr (.inl (t, m, f))) =>
    unfold eg_as
    dsimp only
    by_cases h : t = 0 ∧ ev_in x m = true ∧ ev_S ≤ a
    · rw [if_pos h, if_pos h]; exact n_00
    · rw [if_neg h, if_neg h]
theorem n_bs (hf : ev_F1 M pc .bastore 1) : ev_dn b z M pc lo (.int y :: .int x :: .ref a :: st) μ = eg_as (μ.2 a) 1 x y.toInt8.toInt32 a b z M (pc + 1) lo st μ := by
  rw [n_mk hf rfl rfl rfl rfl rfl rfl]
  simp only [ev_me]
  match μ.2 a with
  | none => rfl
  | some (.inl _) => rfl
  | some (.inr (.inr _)) => rfl
  | some (.inr (.inl (t, m, f))) =>
    unfold eg_as
    dsimp only
    by_cases h : t = 1 ∧ ev_in x m = true ∧ ev_S ≤ a
    · rw [if_pos h, if_pos h]; exact n_00
    · rw [if_neg h, if_neg h]
theorem n_rl (hf : ev_F1 M pc .aaload 1) : ev_dn b z M pc lo (.int x :: .ref a :: st) μ = eg_rl (μ.2 a) x a b z M (pc + 1) lo st μ := by
  rw [n_mk hf rfl rfl rfl rfl rfl rfl]
  simp only [ev_me]
  match μ.2 a with
  | none => rfl
  | some (.inl _) => rfl
  | some (.inr (.inl _)) => rfl
  | some (.inr (.inr (.inl _))) => rfl
  | some (.inr (.inr (.inr (m, f)))) =>
    unfold eg_rl
    dsimp only
    by_cases h : ev_in x m = true ∧ ev_S ≤ a
    · rw [if_pos h, if_pos h]; exact n_00
    · rw [if_neg h, if_neg h]
theorem n_rs {w : Nat} (hf : ev_F1 M pc .aastore 1) : ev_dn b z M pc lo (.ref w :: .int x :: .ref a :: st) μ = eg_rs (μ.2 a) (μ.2 w) x w a b z M (pc + 1) lo st μ := by
  rw [n_mk hf rfl rfl rfl rfl rfl rfl]
  simp only [ev_me]
  match μ.2 a, μ.2 w with
  | none, _ => rfl
  | some (.inl _), _ => rfl
  | some (.inr (.inl _)), _ => rfl
  | some (.inr (.inr (.inl _))), _ => rfl
  | some (.inr (.inr (.inr (m, f)))), none => rfl
  | some (.inr (.inr (.inr (m, f)))), some (.inr _) => rfl
  | some (.inr (.inr (.inr (m, f)))), some (.inl (c2, fs)) =>
    unfold eg_rs
    dsimp only
    by_cases h : c2 = 3 ∧ ev_in x m = true ∧ ev_S ≤ a ∧ ev_S ≤ w
    · rw [if_pos h, if_pos h]; exact n_00
    · rw [if_neg h, if_neg h]
theorem n_ln (hf : ev_F1 M pc .arraylength 1) : ev_dn b z M pc lo (.ref a :: st) μ = eg_ln (μ.2 a) b z M (pc + 1) lo st μ := by
  rw [n_mk hf rfl rfl rfl rfl rfl rfl]
  simp only [ev_me]
  match μ.2 a with
  | none => rfl
  | some (.inl _) => rfl
  | some (.inr (.inr _)) => rfl
  | some (.inr (.inl (t, m, f))) =>
    unfold eg_ln
    dsimp only
    by_cases h : t ≤ 1
    · rw [if_pos h, if_pos h]; exact n_00
    · rw [if_neg h, if_neg h]
theorem n_gs {idx w : Nat} (hf : ev_F1 M pc (.getstatic idx) 3) (h : ev_ci M = 1 ∧ idx = 34 ∧ w = 0) : ev_dn b z M pc lo st μ = ev_dn b z M (pc + 3) lo (.ref w :: st) μ := by
  obtain ⟨h1, h2, rfl⟩ := h
  rw [n_mk hf rfl rfl rfl rfl rfl rfl]
  simp only [ev_me]
  rw [if_pos ⟨h1, h2⟩]; exact n_00
theorem n_lc {idx p : Nat} (hf : ev_F1 M pc (.ldc idx) 2) (h : ev_ks (ev_ci M) idx = some (.int x, p)) : ev_dn b z M pc lo st μ = ev_dn b z M (pc + 2) lo (.int x :: st) μ := by
  rw [n_mk hf rfl rfl rfl rfl rfl rfl]
  simp only [ev_me, h]
  exact n_00
theorem n_lcw {idx p : Nat} (hf : ev_F1 M pc (.ldc_w idx) 3) (h : ev_ks (ev_ci M) idx = some (.int x, p)) : ev_dn b z M pc lo st μ = ev_dn b z M (pc + 3) lo (.int x :: st) μ := by
  rw [n_mk hf rfl rfl rfl rfl rfl rfl]
  simp only [ev_me, h]
  exact n_00
theorem n_lt {idx p w : Nat} {tx : String} (hf : ev_F1 M pc (.ldc idx) 2) (h : ev_ks (ev_ci M) idx = none) (h2 : ev_tx (ev_ci M) idx = some (tx, w, p)) : ev_dn b z M pc lo st μ = ev_dn b z M (pc + 2) lo (.ref w :: st) μ := by
  rw [n_mk hf rfl rfl rfl rfl rfl rfl]
  simp only [ev_me, h, h2]
  exact n_00
theorem n_ltw {idx p w : Nat} {tx : String} (hf : ev_F1 M pc (.ldc_w idx) 3) (h : ev_ks (ev_ci M) idx = none) (h2 : ev_tx (ev_ci M) idx = some (tx, w, p)) : ev_dn b z M pc lo st μ = ev_dn b z M (pc + 3) lo (.ref w :: st) μ := by
  rw [n_mk hf rfl rfl rfl rfl rfl rfl]
  simp only [ev_me, h, h2]
  exact n_00
theorem n_l2 {idx p : Nat} {w : Int64} (hf : ev_F1 M pc (.ldc2_w idx) 3) (h : ev_ks (ev_ci M) idx = some (.long w, p)) : ev_dn b z M pc lo st μ = ev_dn b z M (pc + 3) lo (.long w :: st) μ := by
  rw [n_mk hf rfl rfl rfl rfl rfl rfl]
  simp only [ev_me, h]
  exact n_00
theorem n_nw {idx ci p k : Nat} {fs : List Value} (hf : ev_F1 M pc (.new idx) 3) (h : ev_nw (ev_ci M) idx = some (ci, p)) (hk : (ev_C ci).2.2 = k) (hn : ev_new ci = fs) : ev_dn b z M pc lo st μ = if 1 ≤ b ∧ k ≤ z then ev_dn (b - 1) (z - k) M (pc + 3) lo (.ref μ.1 :: st) (μ.1 + 1, ev_up μ.2 μ.1 (ev_ob ci fs)) else none := by
  subst hk; subst hn
  rw [n_mk hf rfl rfl rfl rfl rfl rfl]
  simp only [ev_me, h]
theorem n_ni {k : Nat} (hf : ev_F1 M pc (.newarray .int) 2) (hx : x.toNatClampNeg = k) (h0 : ¬ (x < 0 ∨ 5000 < x.toNatClampNeg)) : ev_dn b z M pc lo (.int x :: st) μ = if 1 ≤ b ∧ k ≤ z then ev_dn (b - 1) (z - k) M (pc + 2) lo (.ref μ.1 :: st) (μ.1 + 1, ev_up μ.2 μ.1 (ev_ia 0 k (fun _ => 0))) else none := by
  subst hx
  rw [n_mk hf rfl rfl rfl rfl rfl rfl]
  simp only [ev_me, if_neg h0]
theorem n_nb {k : Nat} (hf : ev_F1 M pc (.newarray .byte) 2) (hx : x.toNatClampNeg = k) (h0 : ¬ (x < 0 ∨ 5000 < x.toNatClampNeg)) : ev_dn b z M pc lo (.int x :: st) μ = if 1 ≤ b ∧ k ≤ z then ev_dn (b - 1) (z - k) M (pc + 2) lo (.ref μ.1 :: st) (μ.1 + 1, ev_up μ.2 μ.1 (ev_ia 1 k (fun _ => 0))) else none := by
  subst hx
  rw [n_mk hf rfl rfl rfl rfl rfl rfl]
  simp only [ev_me, if_neg h0]
theorem n_na {k : Nat} (hf : ev_F1 M pc (.anewarray 9) 3) (hc : ev_ci M = 4) (hx : x.toNatClampNeg = k) (h0 : ¬ (x < 0 ∨ 5000 < x.toNatClampNeg)) : ev_dn b z M pc lo (.int x :: st) μ = if 1 ≤ b ∧ k ≤ z then ev_dn (b - 1) (z - k) M (pc + 3) lo (.ref μ.1 :: st) (μ.1 + 1, ev_up μ.2 μ.1 (ev_ra k (fun _ => none))) else none := by
  subst hx
  rw [n_mk hf rfl rfl rfl rfl rfl rfl]
  simp only [ev_me, hc, h0, and_self, if_true, not_false_eq_true]
/-- a method's end -/
theorem n_rt (hf : ev_F1 M pc i n) (hp : ev_pu i n st = none) (hb : ev_br i n pc st = none) (hl : ev_ld i n lo = none) (hs : ev_so i n lo st = none) (h : ev_me (ev_ci M) (ev_kd M) i n st μ = none) (hi : ev_iv M i n = none) : ev_dn b z M pc lo st μ = (ev_rv (ev_rt M) i n st).map (fun w => (.inl w, μ)) := by
  have hx : ev_x M pc lo st μ = (ev_rv (ev_rt M) i n st).map (fun v => .inr (.inl v)) := by unfold ev_x; simp only [hf.1, hf.2, hp, hb, hl, hs, h, hi]
  cases hr : ev_rv (ev_rt M) i n st with
  | none => rw [hr] at hx; exact ev_stuck hx
  | some w => rw [hr] at hx; exact ev_ret hx
theorem n_rv (hf : ev_F1 M pc .return_ 1) (h : ev_rt M = none) : ev_dn b z M pc lo [] μ = some (.inl none, μ) := by
  rw [n_rt hf rfl rfl rfl rfl rfl rfl, h]; rfl
theorem n_ri (hf : ev_F1 M pc .ireturn 1) (h : ev_rt M = some .int) : ev_dn b z M pc lo [.int x] μ = some (.inl (some (.int x)), μ) := by
  rw [n_rt hf rfl rfl rfl rfl rfl rfl, h]
  simp only [ev_rv]
  rw [if_pos (show narrow .int (.int x) = .int x from rfl)]; rfl
theorem n_rz (hf : ev_F1 M pc .ireturn 1) (h : ev_rt M = some .boolean) : ev_dn b z M pc lo [.int x] μ = if narrow .boolean (.int x) = .int x then some (.inl (some (.int x)), μ) else none := by
  rw [n_rt hf rfl rfl rfl rfl rfl rfl, h]
  simp only [ev_rv]
  split <;> rfl
theorem n_ra {cn : String} (hf : ev_F1 M pc .areturn 1) (h : ev_rt M = some (.object cn)) : ev_dn b z M pc lo [.ref a] μ = some (.inl (some (.ref a)), μ) := by
  rw [n_rt hf rfl rfl rfl rfl rfl rfl, h]; rfl
theorem n_rf {w : UInt32} (hf : ev_F1 M pc .freturn 1) (h : ev_rt M = some .float) : ev_dn b z M pc lo [.float w] μ = some (.inl (some (.float w)), μ) := by
  rw [n_rt hf rfl rfl rfl rfl rfl rfl, h]; rfl
theorem n_rd {w : UInt64} (hf : ev_F1 M pc .dreturn 1) (h : ev_rt M = some .double) : ev_dn b z M pc lo [.double w] μ = some (.inl (some (.double w)), μ) := by
  rw [n_rt hf rfl rfl rfl rfl rfl rfl, h]; rfl
/-- a throw -/
theorem n_th {e : Nat} {i : Instr} {k : Nat} (hf : ev_f M pc = some (i, k) ∧ ev_th2 M pc = some e) (h1 : 8 ≤ ev_dp M ∧ 130 ≤ ev_lc M) : ev_dn b z M pc lo [] μ = if 1 ≤ b ∧ 6 ≤ z then some (.inr e, μ) else none := by
  have hx : ev_x M pc lo [] μ = some (.inr (.inr (.inr e))) := by
    unfold ev_x
    simp only [hf.1, hf.2]
    exact if_pos ⟨rfl, h1⟩
  by_cases hz : 1 ≤ b ∧ 6 ≤ z
  · rw [if_pos hz]; exact ev_thr hx hz
  · rw [if_neg hz]
    cases hd : ev_dn b z M pc lo [] μ with
    | none => rfl
    | some r =>
      obtain ⟨k, hk⟩ := ev_dn_some.mp hd
      cases k with
      | zero => cases hk
      | succ k =>
        rw [ev_run, hx] at hk
        simp only [if_neg hz] at hk
        cases hk
/-- a call -/
def ev_kc (M t k : Nat) (st : List Value) : Prop := ev_kd t = k ∧ ev_na t ≤ st.length ∧ ((st.drop (ev_na t)).map Value.category).sum ≤ 8 ∧ ev_dp t + 1 ≤ ev_dp M ∧ 8 + (ev_ml t + 11) + ev_lc t ≤ ev_lc M ∧ (ev_ar (st.take (ev_na t)).reverse).length ≤ ev_ml t
theorem n_ck {t k k1 k2 : Nat} {av : List Value} {en : ev_L} (hf : ev_F1 M pc i 3) (hp : ev_pu i 3 st = none) (hb : ev_br i 3 pc st = none) (hl : ev_ld i 3 lo = none) (hs : ev_so i 3 lo st = none) (hm : ev_me (ev_ci M) (ev_kd M) i 3 st μ = none) (hi : ev_iv M i 3 = some (t, k)) (ht : t < 1000)
    (hc : ev_kc M t k st) (hav : (st.take (ev_na t)).reverse = av) (hst : st.drop (ev_na t) = st') (hen : ev_en t av = en) (hk1 : ev_k1 t = k1) (hk2 : ev_k2 t = k2) :
    ev_dn b z M pc lo st μ = if ev_rc t k av μ = true then (if k1 ≤ b ∧ k2 ≤ z then ev_bh k (b - k1) (z - k2) M pc lo st' (ev_dn k1 k2 t 0 en [] μ) else none) else none := by
  subst hav; subst hst; subst hen; subst hk1; subst hk2
  obtain ⟨c1, c2, c3, c4, c5, c6⟩ := hc
  by_cases hr : ev_rc t k (st.take (ev_na t)).reverse μ = true
  · rw [if_pos hr]
    have hx : ev_x M pc lo st μ = some (.inr (.inr (.inl (t, (st.take (ev_na t)).reverse, st.drop (ev_na t))))) := by
      unfold ev_x
      simp only [hf.1, hf.2, hp, hb, hl, hs, hm, hi, if_neg (Nat.not_le.mpr ht)]
      exact if_pos ⟨c1, c2, c3, c4, c5, c6, hr⟩
    by_cases hz : ev_k1 t ≤ b ∧ ev_k2 t ≤ z
    · rw [if_pos hz, ← c1]; exact ev_cal hx hz
    · rw [if_neg hz]
      cases hd : ev_dn b z M pc lo st μ with
      | none => rfl
      | some r =>
        obtain ⟨k, hk⟩ := ev_dn_some.mp hd
        cases k with
        | zero => cases hk
        | succ k =>
          rw [ev_run, hx] at hk
          simp only [if_neg hz] at hk
          cases hk
  · rw [if_neg hr]
    refine ev_stuck ?_
    unfold ev_x
    simp only [hf.1, hf.2, hp, hb, hl, hs, hm, hi, if_neg (Nat.not_le.mpr ht)]
    exact if_neg (fun q => hr q.2.2.2.2.2.2)
theorem n_cs {t k1 k2 idx : Nat} {av : List Value} {en : ev_L} (hf : ev_F1 M pc (.invokestatic idx) 3) (hi : ev_iv M (.invokestatic idx) 3 = some (t, 0)) (ht : t < 1000) (hc : ev_kc M t 0 st) (hav : (st.take (ev_na t)).reverse = av) (hst : st.drop (ev_na t) = st') (hen : ev_en t av = en) (hk1 : ev_k1 t = k1) (hk2 : ev_k2 t = k2) :
    ev_dn b z M pc lo st μ = if k1 ≤ b ∧ k2 ≤ z then ev_bh 0 (b - k1) (z - k2) M pc lo st' (ev_dn k1 k2 t 0 en [] μ) else none := by
  rw [n_ck hf rfl rfl rfl rfl rfl hi ht hc hav hst hen hk1 hk2]
  exact if_pos rfl
theorem n_cs0 {t idx : Nat} {av : List Value} {en : ev_L} (hf : ev_F1 M pc (.invokestatic idx) 3) (hi : ev_iv M (.invokestatic idx) 3 = some (t, 0)) (ht : t < 1000) (hc : ev_kc M t 0 st) (hav : (st.take (ev_na t)).reverse = av) (hst : st.drop (ev_na t) = st') (hen : ev_en t av = en) (hk1 : ev_k1 t = 0) (hk2 : ev_k2 t = 0) :
    ev_dn b z M pc lo st μ = ev_bh 0 b z M pc lo st' (ev_dn 0 0 t 0 en [] μ) := by
  rw [n_cs hf hi ht hc hav hst hen hk1 hk2]
  exact n_00
theorem n_rcE {t k ci : Nat} {av : List Value} {q : ev_Q} (hk : k = 1 ∨ k = 2) (hci : ev_ci t = ci) : (if ev_rc t k (.ref a :: av) μ = true then q else none) = eg_rc (μ.2 a) ci a q := by
  subst hci
  have key : ∀ e : Option ev_E, (if (match e with
      | some (.inl (c, _)) => decide (c = ev_ci t ∧ ev_S ≤ a)
      | _ => false) = true then q else none) = eg_rc e (ev_ci t) a q := by
    intro e
    match e with
    | none => rfl
    | some (.inr _) => rfl
    | some (.inl (c, fs)) =>
      unfold eg_rc
      dsimp only
      by_cases h : c = ev_ci t ∧ ev_S ≤ a
      · rw [if_pos h, if_pos (decide_eq_true h)]
      · rw [if_neg h, if_neg (fun z => h (of_decide_eq_true z))]
  rcases hk with rfl | rfl
  · simp only [ev_rc]; exact key _
  · simp only [ev_rc]; exact key _
theorem n_cv {t k1 k2 idx ci : Nat} {av : List Value} {en : ev_L} (hf : ev_F1 M pc (.invokevirtual idx) 3) (hi : ev_iv M (.invokevirtual idx) 3 = some (t, 1)) (ht : t < 1000) (hc : ev_kc M t 1 st) (hav : (st.take (ev_na t)).reverse = .ref a :: av) (hst : st.drop (ev_na t) = st') (hen : ev_en t (.ref a :: av) = en) (hk1 : ev_k1 t = k1) (hk2 : ev_k2 t = k2) (hci : ev_ci t = ci) :
    ev_dn b z M pc lo st μ = eg_rc (μ.2 a) ci a (if k1 ≤ b ∧ k2 ≤ z then ev_bh 1 (b - k1) (z - k2) M pc lo st' (ev_dn k1 k2 t 0 en [] μ) else none) := by
  rw [n_ck hf rfl rfl rfl rfl rfl hi ht hc hav hst hen hk1 hk2]
  exact n_rcE (Or.inl rfl) hci
theorem n_cv0 {t idx ci : Nat} {av : List Value} {en : ev_L} (hf : ev_F1 M pc (.invokevirtual idx) 3) (hi : ev_iv M (.invokevirtual idx) 3 = some (t, 1)) (ht : t < 1000) (hc : ev_kc M t 1 st) (hav : (st.take (ev_na t)).reverse = .ref a :: av) (hst : st.drop (ev_na t) = st') (hen : ev_en t (.ref a :: av) = en) (hk1 : ev_k1 t = 0) (hk2 : ev_k2 t = 0) (hci : ev_ci t = ci) :
    ev_dn b z M pc lo st μ = eg_rc (μ.2 a) ci a (ev_bh 1 b z M pc lo st' (ev_dn 0 0 t 0 en [] μ)) := by
  rw [n_cv hf hi ht hc hav hst hen hk1 hk2 hci]
  exact congrArg _ n_00
theorem n_ci {t k1 k2 idx ci : Nat} {av : List Value} {en : ev_L} (hf : ev_F1 M pc (.invokespecial idx) 3) (hi : ev_iv M (.invokespecial idx) 3 = some (t, 2)) (ht : t < 1000) (hc : ev_kc M t 2 st) (hav : (st.take (ev_na t)).reverse = .ref a :: av) (hst : st.drop (ev_na t) = st') (hen : ev_en t (.ref a :: av) = en) (hk1 : ev_k1 t = k1) (hk2 : ev_k2 t = k2) (hci : ev_ci t = ci) :
    ev_dn b z M pc lo st μ = eg_rc (μ.2 a) ci a (if k1 ≤ b ∧ k2 ≤ z then ev_bh 2 (b - k1) (z - k2) M pc lo st' (ev_dn k1 k2 t 0 en [] μ) else none) := by
  rw [n_ck hf rfl rfl rfl rfl rfl hi ht hc hav hst hen hk1 hk2]
  exact n_rcE (Or.inr rfl) hci
/-- the JDK's own -/
theorem n_jd {t k : Nat} {st' : List Value} {μ' : ev_H} (hf : ev_F1 M pc i 3) (hp : ev_pu i 3 st = none) (hb : ev_br i 3 pc st = none) (hl : ev_ld i 3 lo = none) (hs : ev_so i 3 lo st = none) (hm : ev_me (ev_ci M) (ev_kd M) i 3 st μ = none) (hi : ev_iv M i 3 = some (t, k)) (ht : 1000 ≤ t)
    (hc : ev_jk t = k ∧ (st.map Value.category).sum ≤ 9 ∧ ev_jf t ≤ ev_dp M ∧ ev_jl t ≤ ev_lc M) (hj : ev_jd t st μ = some (st', μ')) : ev_dn b z M pc lo st μ = ev_dn b z M (pc + 3) lo st' μ' :=
  ev_next0 (by unfold ev_x; simp only [hf.1, hf.2, hp, hb, hl, hs, hm, hi, if_pos ht, if_pos hc, hj, Option.map_some])
theorem n_jn {t k : Nat} (hf : ev_F1 M pc i 3) (hp : ev_pu i 3 st = none) (hb : ev_br i 3 pc st = none) (hl : ev_ld i 3 lo = none) (hs : ev_so i 3 lo st = none) (hm : ev_me (ev_ci M) (ev_kd M) i 3 st μ = none) (hi : ev_iv M i 3 = some (t, k)) (ht : 1000 ≤ t)
    (hc : ev_jk t = k ∧ (st.map Value.category).sum ≤ 9 ∧ ev_jf t ≤ ev_dp M ∧ ev_jl t ≤ ev_lc M) (hj : ev_jd t st μ = none) : ev_dn b z M pc lo st μ = none :=
  ev_stuck (by unfold ev_x; simp only [hf.1, hf.2, hp, hb, hl, hs, hm, hi, if_pos ht, if_pos hc, hj, Option.map_none])
abbrev ev_jc (M t k : Nat) (st : List Value) : Prop := ev_jk t = k ∧ (st.map Value.category).sum ≤ 9 ∧ ev_jf t ≤ ev_dp M ∧ ev_jl t ≤ ev_lc M
theorem n_abs {idx : Nat} (hf : ev_F1 M pc (.invokestatic idx) 3) (hi : ev_iv M (.invokestatic idx) 3 = some (1001, 0)) (hc : ev_jc M 1001 0 (.int x :: st)) : ev_dn b z M pc lo (.int x :: st) μ = ev_dn b z M (pc + 3) lo (.int (if 0 ≤ x then x else 0 - x) :: st) μ :=
  n_jd hf rfl rfl rfl rfl rfl hi (by decide) hc rfl
theorem n_max {idx : Nat} (hf : ev_F1 M pc (.invokestatic idx) 3) (hi : ev_iv M (.invokestatic idx) 3 = some (1002, 0)) (hc : ev_jc M 1002 0 (.int y :: .int x :: st)) : ev_dn b z M pc lo (.int y :: .int x :: st) μ = ev_dn b z M (pc + 3) lo (.int (if x < y then y else x) :: st) μ :=
  n_jd hf rfl rfl rfl rfl rfl hi (by decide) hc rfl
theorem n_min {idx : Nat} (hf : ev_F1 M pc (.invokestatic idx) 3) (hi : ev_iv M (.invokestatic idx) 3 = some (1003, 0)) (hc : ev_jc M 1003 0 (.int y :: .int x :: st)) : ev_dn b z M pc lo (.int y :: .int x :: st) μ = ev_dn b z M (pc + 3) lo (.int (if y < x then y else x) :: st) μ :=
  n_jd hf rfl rfl rfl rfl rfl hi (by decide) hc rfl
theorem n_obj {idx : Nat} (hf : ev_F1 M pc (.invokespecial idx) 3) (hi : ev_iv M (.invokespecial idx) 3 = some (1006, 2)) (hc : ev_jc M 1006 2 (.ref a :: st)) : ev_dn b z M pc lo (.ref a :: st) μ = ev_dn b z M (pc + 3) lo st μ :=
  n_jd hf rfl rfl rfl rfl rfl hi (by decide) hc rfl
theorem n_ac {idx a2 : Nat} {w x y : Int32} (hf : ev_F1 M pc (.invokestatic idx) 3) (hi : ev_iv M (.invokestatic idx) 3 = some (1000, 0)) (hc : ev_jc M 1000 0 (.int w :: .int y :: .ref a2 :: .int x :: .ref a :: st)) : ev_dn b z M pc lo (.int w :: .int y :: .ref a2 :: .int x :: .ref a :: st) μ = eg_ac (μ.2 a) (μ.2 a2) x y w a a2 b z M (pc + 3) lo st μ := by
  cases hj : ev_jd 1000 (.int w :: .int y :: .ref a2 :: .int x :: .ref a :: st) μ with
  | none =>
    rw [n_jn hf rfl rfl rfl rfl rfl hi (by decide) hc hj]
    simp only [ev_jd] at hj
    unfold eg_ac
    split
    · rename_i e1 e2
      rw [e1, e2] at hj
      dsimp only at hj
      split at hj
      · cases hj
      · rename_i h; rw [if_neg h]
    · rfl
  | some r =>
    obtain ⟨st', μ'⟩ := r
    rw [n_jd hf rfl rfl rfl rfl rfl hi (by decide) hc hj]
    simp only [ev_jd] at hj
    unfold eg_ac
    split at hj
    · rename_i e1 e2
      rw [e1, e2]
      dsimp only
      split at hj
      · rename_i h
        rw [if_pos h]
        cases hj
        rfl
      · cases hj
    · cases hj
theorem n_sl {idx : Nat} (hf : ev_F1 M pc (.invokevirtual idx) 3) (hi : ev_iv M (.invokevirtual idx) 3 = some (1004, 1)) (hc : ev_jc M 1004 1 (.ref a :: st)) : ev_dn b z M pc lo (.ref a :: st) μ = eg_sl (μ.2 a) b z M (pc + 3) lo st μ := by
  cases hj : ev_jd 1004 (.ref a :: st) μ with
  | none =>
    rw [n_jn hf rfl rfl rfl rfl rfl hi (by decide) hc hj]
    simp only [ev_jd] at hj
    unfold eg_sl
    split
    · rename_i t m f e1
      by_cases h : t = 9
      · subst h; rw [e1] at hj; cases hj
      · rw [if_neg h]
    · rfl
  | some r =>
    obtain ⟨st', μ'⟩ := r
    rw [n_jd hf rfl rfl rfl rfl rfl hi (by decide) hc hj]
    simp only [ev_jd] at hj
    unfold eg_sl
    split at hj
    · rename_i e1
      rw [e1]
      cases hj
      rfl
    · cases hj
theorem n_sc {idx : Nat} (hf : ev_F1 M pc (.invokevirtual idx) 3) (hi : ev_iv M (.invokevirtual idx) 3 = some (1005, 1)) (hc : ev_jc M 1005 1 (.int x :: .ref a :: st)) : ev_dn b z M pc lo (.int x :: .ref a :: st) μ = eg_sc (μ.2 a) x b z M (pc + 3) lo st μ := by
  cases hj : ev_jd 1005 (.int x :: .ref a :: st) μ with
  | none =>
    rw [n_jn hf rfl rfl rfl rfl rfl hi (by decide) hc hj]
    simp only [ev_jd] at hj
    unfold eg_sc
    split
    · rename_i t m f e1
      by_cases h : t = 9 ∧ ev_in x m = true
      · obtain ⟨rfl, h2⟩ := h
        rw [e1] at hj
        replace hj : (if ev_in x m = true then some ((.int (f x.toNatClampNeg) : Value) :: st, μ) else none) = none := hj
        rw [if_pos h2] at hj
        cases hj
      · rw [if_neg h]
    · rfl
  | some r =>
    obtain ⟨st', μ'⟩ := r
    rw [n_jd hf rfl rfl rfl rfl rfl hi (by decide) hc hj]
    simp only [ev_jd] at hj
    unfold eg_sc
    split at hj
    · rename_i e1
      rw [e1]
      dsimp only
      split at hj
      · rename_i h
        rw [if_pos ⟨rfl, h⟩]
        cases hj
        rfl
      · cases hj
    · cases hj
end NST
