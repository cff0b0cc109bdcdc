/-! Soundness of the evaluator: a frame, by induction on the evaluator's fuel. -/
theorem ev_Jn.agree {L : Nat} {xs : Nat → Int32} {D : va_G} {cA : Nat → ClassId} {A : Nat → Prop} {ad ad1 ad2 : Nat → Nat} {n0 n1 : Nat} (h1 : ∀ a, a < n0 → ad1 a = ad a) (h2 : ∀ a, a < n1 → ad2 a = ad1 a) (h : n0 ≤ n1) : ∀ a, a < n0 → ad2 a = ad a := fun a ha => (h2 a (Nat.lt_of_lt_of_le ha h)).trans (h1 a ha)
section EVS
/-- what a frame's end must give -/
def ev_Hr (p : Program) (l : Launch) (e : Env) (R : Room) (s : State) (m : MethodId) (args : Array Value) (below : List Frame) (meth : Method) (c : Code) (Q : State → Prop) (M L : Nat) (xs : Nat → Int32) (D : va_G) (cA : Nat → ClassId) (A : Nat → Prop) (ad : Nat → Nat) (n0 : Nat) (o : Option Value ⊕ Nat) (μ1 : ev_H) : Prop :=
  ∀ (v : Option Value) (ad' : Nat → Nat) (H' : Heap) (locs' : List Loc) (pc' : Nat) (ls' : Array Slot) (i : Instr) (n : Nat) (st' : List Value), o = .inl v → (∀ a, a < n0 → ad' a = ad a) → n0 ≤ μ1.1 → ev_I L xs D cA A s ad' μ1 H' locs' → ev_rv (ev_rt M) i n st' = some v → decode (ev_cd M) pc' = .ok (i, n) → ev_sl μ1.1 st' → W p l e R s m args below meth c H' locs' R.cells R.slots Q (F0 m pc' ls' (st'.map (ev_v ad')))
def ev_Ht (p : Program) (l : Launch) (e : Env) (R : Room) (s : State) (m : MethodId) (args : Array Value) (below : List Frame) (meth : Method) (c : Code) (Q : State → Prop) (M L : Nat) (xs : Nat → Int32) (D : va_G) (cA : Nat → ClassId) (A : Nat → Prop) (ad : Nat → Nat) (n0 : Nat) (o : Option Value ⊕ Nat) (μ1 : ev_H) : Prop :=
  ∀ (ex : Nat) (ad' : Nat → Nat) (H' : Heap) (locs' : List Loc) (cells' slots' pc' : Nat) (ls' : Array Slot), o = .inr ex → ev_th2 M pc' = some ex → (∀ a, a < n0 → ad' a = ad a) → n0 ≤ μ1.1 → ev_I L xs D cA A s ad' μ1 H' locs' → cells' + 1 ≤ R.cells → slots' + 6 ≤ R.slots → ls'.size = c.maxLocals → 8 ≤ ev_dp M → 130 ≤ ev_lc M → W p l e R s m args below meth c H' locs' cells' slots' Q (F0 m pc' ls' [])
def ev_Hp (p : Program) (l : Launch) (e : Env) (R : Room) (s : State) (m : MethodId) (args : Array Value) (below : List Frame) (meth : Method) (c : Code) (Q : State → Prop) (M L : Nat) (xs : Nat → Int32) (D : va_G) (cA : Nat → ClassId) (A : Nat → Prop) (ad : Nat → Nat) (n0 : Nat) (o : Option Value ⊕ Nat) (μ1 : ev_H) : Prop :=
  ∀ (ex : Nat) (ad' : Nat → Nat) (H' : Heap) (locs' : List Loc) (cells' slots' pc' : Nat) (ls' : Array Slot) (rest : List Value) (q : Addr) (ce : Cell), o = .inr ex → ev_eh M = [] → (∀ a, a < n0 → ad' a = ad a) → n0 ≤ μ1.1 → ev_I L xs D cA A s ad' μ1 H' locs' → cells' ≤ R.cells → slots' ≤ R.slots → ex < 4 → H'[q]? = some ce → ce.vm = .none → s.vm.findClass (ev_X.getD ex "") = some ce.cls → vx_W p l e R s m args below meth c H' locs' cells' slots' Q (F0 m pc' ls' rest) q
def ev_P (l : Launch) (n : Nat) : Prop := ∀ (p : Program) (e : Env) (R : Room) (s : State) (m : MethodId) (args : Array Value) (below : List Frame) (meth : Method) (c : Code) (M b z pc : Nat) (lo : ev_L) (st : List Value) (μ : ev_H) (o : Option Value ⊕ Nat) (μ1 : ev_H) (H : Heap) (locs : List Loc) (cells slots : Nat) (ls : Array Slot) (ad : Nat → Nat) (L : Nat) (xs : Nat → Int32) (D : va_G) (cA : Nat → ClassId) (A : Nat → Prop) (Q : State → Prop),
  ev_run n b z M pc lo st μ = some (o, μ1) → M < ev_nm → p.tables.exec = Jvm.exec → c.code = ev_cd M → c.maxLocals = ev_ml M → s.vm.findClass (ev_own (ev_ci M)) = some m.cls → (∀ w ∈ ev_gw, w.before args s = true) → (ev_kd M = 2 → meth.name = "<init>") → ev_dp M ≤ R.frames → ev_lc M ≤ R.locals → (M ≠ ev_lawM → c.exceptionTable.toList = tableOf (ev_hh M)) → meth.locks = false →
  ev_I L xs D cA A s ad μ H locs → ev_sl μ.1 st → ev_ll μ.1 lo → lo.length = ev_ml M → ev_lr ad ls lo → cells + b ≤ R.cells → slots + z ≤ R.slots →
  ev_Hr p l e R s m args below meth c Q M L xs D cA A ad μ.1 o μ1 → ev_Ht p l e R s m args below meth c Q M L xs D cA A ad μ.1 o μ1 → ev_Hp p l e R s m args below meth c Q M L xs D cA A ad μ.1 o μ1 →
  W p l e R s m args below meth c H locs cells slots Q (F0 m pc ls (st.map (ev_v ad)))
variable {p : Program} {l : Launch} {e : Env} {R : Room} {s : State} {m : MethodId} {args : Array Value} {below : List Frame} {meth : Method} {c : Code} {Q : State → Prop} {M L : Nat} {xs : Nat → Int32} {D : va_G} {cA : Nat → ClassId} {A : Nat → Prop} {ad ad1 : Nat → Nat} {n0 n1 : Nat} {o : Option Value ⊕ Nat} {μ1 : ev_H}
theorem ev_Hr.on (h : ev_Hr p l e R s m args below meth c Q M L xs D cA A ad n0 o μ1) (h1 : ∀ a, a < n0 → ad1 a = ad a) (h2 : n0 ≤ n1) : ev_Hr p l e R s m args below meth c Q M L xs D cA A ad1 n1 o μ1 :=
  fun v ad' H' locs' pc' ls' i n st' a1 a2 a3 => h v ad' H' locs' pc' ls' i n st' a1 (fun a ha => (a2 a (Nat.lt_of_lt_of_le ha h2)).trans (h1 a ha)) (Nat.le_trans h2 a3)
theorem ev_Ht.on (h : ev_Ht p l e R s m args below meth c Q M L xs D cA A ad n0 o μ1) (h1 : ∀ a, a < n0 → ad1 a = ad a) (h2 : n0 ≤ n1) : ev_Ht p l e R s m args below meth c Q M L xs D cA A ad1 n1 o μ1 :=
  fun ex ad' H' locs' cells' slots' pc' ls' a0 a1 a2 a3 => h ex ad' H' locs' cells' slots' pc' ls' a0 a1 (fun a ha => (a2 a (Nat.lt_of_lt_of_le ha h2)).trans (h1 a ha)) (Nat.le_trans h2 a3)
theorem ev_Hp.on (h : ev_Hp p l e R s m args below meth c Q M L xs D cA A ad n0 o μ1) (h1 : ∀ a, a < n0 → ad1 a = ad a) (h2 : n0 ≤ n1) : ev_Hp p l e R s m args below meth c Q M L xs D cA A ad1 n1 o μ1 :=
  fun ex ad' H' locs' cells' slots' pc' ls' rest q ce a0 a1 a2 a3 => h ex ad' H' locs' cells' slots' pc' ls' rest q ce a0 a1 (fun a ha => (a2 a (Nat.lt_of_lt_of_le ha h2)).trans (h1 a ha)) (Nat.le_trans h2 a3)
theorem ev_narrow {H : Heap} {locs : List Loc} {μ : ev_H} (hI : ev_I L xs D cA A s ad μ H locs) : ∀ q, va_A (ev_ws ad cA μ) H.size q → A q := by
  obtain ⟨-, -, -, -, hD, hS, hA, -, -⟩ := hI
  intro q hq
  rcases hq with ⟨k, e1, hk⟩ | hq
  · exact hD.2 k _ hk
  · exact hA q (Nat.le_trans hS.1 hq)
theorem ev_pre {H : Heap} {locs : List Loc} {μ : ev_H} {av : List Value} (hI : ev_I L xs D cA A s ad μ H locs) {U : State} (hU : U.heap = H) (hW : s.WarmedH U.vm) : ev_Pc L xs D cA ad μ av H.size (av.map (ev_v ad)).toArray U := by
  have hn := ev_narrow hI
  obtain ⟨i1, i2, hK, hP, hD, hS, hA, i8, i9⟩ := hI
  exact ⟨rfl, by rw [hU], i1, i2, hK.moved hW.alike, by rw [hU]; exact hP, hD.self, va_S.rf, fun q hq => Or.inr (by rw [hU] at hq; exact hq), by rw [hU]; exact ((i8.kept hS.2.1).narrow hn).moved hW.alike, i9.warm hW⟩
theorem ev_met {y : MethodName} {ws : List Cond} {rm : Room} {Pc : Array Value → State → Prop} {mc ms : Nat} {free : Addr → Prop} {A1 : Nat → Prop} {v : Option Value} (h : vx_Met l y ws rm Pc (ev_Qc L xs D cA A1 ad n0 (.inl v) μ1) (ev_XC L xs D cA A1 ad n0 (.inl v) μ1) mc ms free) : Met l y ws rm Pc (ev_Qc L xs D cA A1 ad n0 (.inl v) μ1) mc ms free := by
  intro p e ha hc hk s m args below hf happ hP hT
  obtain ⟨t, o1, h1, h2, h3, h4⟩ := h p e ha hc hk s m args below hf happ hP hT
  refine ⟨t, o1, h1, h2, h3, ?_⟩
  rcases h4 with h4 | ⟨q, hq, hx⟩
  · exact h4
  · obtain ⟨E, ce, LL, ⟨⟨ex, ad', h9, -⟩, -⟩, -⟩ := hx
    cases h9
/-- a call's words out of the tables, with what its contract asks -/
theorem ev_call {H : Heap} {locs : List Loc} {cells slots n pc : Nat} {ls : Array Slot} {st : List Value} {μ : ev_H} {t k : Nat} {i : Instr} (hC : ev_Ct l n) (hx : p.tables.exec = Jvm.exec) (hb : c.code = ev_cd M) (hml : c.maxLocals = ev_ml M) (hown : s.vm.findClass (ev_own (ev_ci M)) = some m.cls) (hts : ∀ w ∈ ev_gw, w.before args s = true) (hdp : ev_dp M ≤ R.frames) (hlc : ev_lc M ≤ R.locals)
    (hI : ev_I L xs D cA A s ad μ H locs) (hs : ev_sl μ.1 st) (hls : ls.size = ev_ml M) (hiv : ev_iv M i 3 = some (t, k)) (ht : t < 1000) (hdg : decode (ev_cd M) pc = .ok (i, 3))
    (hc : ev_kd t = k ∧ ev_na t ≤ st.length ∧ ((st.drop (ev_na t)).map Value.category).sum ≤ 8 ∧ ev_dp t + 1 ≤ ev_dp M ∧ 8 + (ev_ml t + 11) + ev_lc t ≤ ev_lc M ∧ (ev_ar (st.take (ev_na t)).reverse).length ≤ ev_ml t ∧ ev_rc t k (st.take (ev_na t)).reverse μ = true)
    (hko : ev_kd t = 2 → ∃ v, o = .inl v) (hr : ev_run n (ev_k1 t) (ev_k2 t) t 0 (ev_en t (st.take (ev_na t)).reverse) [] μ = some (o, μ1)) (hR : cells + ev_k1 t ≤ R.cells ∧ slots + ev_k2 t ≤ R.slots) :
    ∃ a0 : Array Value, vx_Run p l e R s m args below meth c H locs cells slots (ev_k1 t) (ev_k2 t) (F0 m pc ls (st.map (ev_v ad))) ((st.drop (ev_na t)).map (ev_v ad)) (ev_Qc L xs D cA (va_A (ev_ws ad cA μ) H.size) ad μ.1 o μ1 a0) (ev_XC L xs D cA (va_A (ev_ws ad cA μ) H.size) ad μ.1 o μ1) (va_A (ev_ws ad cA μ) H.size) := by
  obtain ⟨-, idx, pp, hcl, hi⟩ := ev_iv_ok hiv
  have hmem := ev_cl2_ok hcl
  have htl : t ≠ ev_lawM := ev_ct_law _ hmem
  obtain ⟨htn, hlw⟩ : t < ev_nm ∧ ev_w pp = some (.methodLink (ev_own (ev_ci M)) idx (ev_y t)) := by
    rcases ev_ct_ok _ hmem with q | q
    · exact absurd ht (Nat.not_lt.mpr q)
    · exact q
  have hlink := ev_gm hlw rfl
  obtain ⟨hkd, hna, hsum, hd1, hd2, hal, hrc⟩ := hc
  have hN := ev_okN_all htn htl
  unfold ev_okN at hN
  simp only [Bool.and_eq_true, decide_eq_true_eq] at hN
  obtain ⟨⟨⟨⟨⟨hN1, hN2⟩, hN3⟩, hN4⟩, hN5⟩, hN6⟩ := hN
  have hinit := ev_ginit hN6 rfl
  have hE := ev_okE_all htn htl
  unfold ev_okE at hE
  simp only [Bool.and_eq_true, decide_eq_true_eq] at hE
  obtain ⟨hE1, hE2, hE3, -⟩ := hE
  obtain ⟨sg, hsg⟩ := Option.isSome_iff_exists.mp hE1
  have hOI := ev_okI_all htn htl
  have hwd := ev_wd_in htn htl
  have hsav : ev_sl μ.1 (st.take (ev_na t)).reverse := fun v hv => hs v (List.mem_of_mem_take (List.mem_reverse.mp hv))
  have hM := hC t (st.take (ev_na t)).reverse μ o μ1 ad L xs D cA H.size htn htl hr hsav hal
  have hroom : (ev_rm t).frames + 1 ≤ R.frames ∧ 8 + (ev_ml t + 11) + (ev_rm t).locals ≤ R.locals := ⟨Nat.le_trans hd1 hdp, Nat.le_trans hd2 hlc⟩
  have hcat : (((st.drop (ev_na t)).map (ev_v ad)).map fun v => v.category).sum = ((st.drop (ev_na t)).map Value.category).sum := by
    rw [List.map_map]
    exact congrArg List.sum (List.map_congr_left fun v _ => ev_v_cat ad v)
  have hW8 : 2 * (F0 m pc ls (st.map (ev_v ad))).monitorRoom + (((st.drop (ev_na t)).map (ev_v ad)).map fun v => v.category).sum ≤ 8 := by
    show 2 * 0 + _ ≤ 8
    rw [hcat, Nat.mul_zero, Nat.zero_add]; exact hsum
  have hstk : st.map (ev_v ad) = ((st.take (ev_na t)).reverse.map (ev_v ad)).reverse ++ (st.drop (ev_na t)).map (ev_v ad) := by
    rw [← List.map_reverse, List.reverse_reverse, ← List.map_append, List.take_append_drop]
  have hlen : (st.take (ev_na t)).reverse.length = ev_na t := by rw [List.length_reverse, List.length_take]; omega
  have hna2 : ev_na t = sg.parameters.length + (if ev_kd t = 0 then 0 else 1) := by unfold ev_na; rw [hsg]; rfl
  generalize hav : (st.take (ev_na t)).reverse = av at *
  have hS : CallFix p m c (ev_cd M) (ev_ml M) s args ev_gw (ev_own (ev_ci M)) := ⟨hx, hb, hml, hown, hts⟩
  have gR : ∀ w ∈ ev_gw, ((w.onTables && w.keeps) = true ∨ ∃ ty, w = .arrayClass ty) := fun w hw => ev_gwg hw
  refine ⟨(av.map (ev_v ad)).toArray, ?_⟩
  rcases hi with ⟨hk0, hi⟩ | ⟨hk1, hi⟩ | ⟨hk2, hi⟩
  · -- static
    subst hi
    have hk00 : ev_kd t = 0 := hkd.trans hk0
    have hst : Cond.static (ev_y t) ∈ ev_gw := by
      unfold ev_okI at hOI
      rw [hk00] at hOI
      exact ev_gm (of_decide_eq_true hOI) rfl
    have hn : (av.map (ev_v ad)).length = sg.parameters.length := by rw [List.length_map, hlen, hna2, if_pos hk00]; rfl
    have hd : (ev_y t).cls ≠ "java/lang/invoke/MethodHandle" ∧ (ev_y t).cls ≠ "java/lang/invoke/VarHandle" ∧ (parseMethodDescriptor (ev_y t).desc).map (fun d => d.parameters.length) = some sg.parameters.length := ⟨hN2, hN3, by rw [hsg]; rfl⟩
    have hpre : PreS s H (ev_Pc L xs D cA ad μ av H.size) (av.map (ev_v ad)) := ⟨ev_Pc_blind, fun U hU hW => ev_pre hI hU hW⟩
    by_cases hhh : ev_hh t = []
    · have hwe : ev_wd t = .code (ev_y t) (ev_cd t) (ev_ml t) (ev_rt t) := by unfold ev_wd; rw [if_pos hhh]
      rw [hwe] at hM hwd
      exact vx_runS hS hM (va_cwS sg.parameters.length hts (ev_gS hlink hst hinit hwd) rfl rfl rfl hd hroom) hpre rfl hn hls hstk hW8 hdg hR
    · have hwe : ev_wd t = .codeWith (ev_y t) (ev_cd t) (ev_ml t) (ev_rt t) (ev_hh t) := by unfold ev_wd; rw [if_neg hhh]
      rw [hwe] at hM hwd
      have hG : GoodIn ev_gw (va_wsS (ev_own (ev_ci M)) idx (ev_y t) (Cond.codeWith (ev_y t) (ev_cd t) (ev_ml t) (ev_rt t) (ev_hh t) :: ev_gw)) := by
        intro x hx
        unfold va_wsS at hx
        simp only [List.cons_append, List.nil_append, List.mem_cons] at hx
        rcases hx with rfl | rfl | rfl | rfl | hx
        · exact ⟨hlink, ev_gwg hlink⟩
        · exact ⟨hst, ev_gwg hst⟩
        · exact ⟨hinit, ev_gwg hinit⟩
        · exact ⟨hwd, ev_gwg hwd⟩
        · exact ⟨hx, ev_gwg hx⟩
      exact vx_runSX hS hM (vx_cwSW sg.parameters.length hts hG rfl rfl rfl hd hroom) hpre rfl hn hls hstk hW8 hdg hR
  · -- of an object
    subst hi
    have hk11 : ev_kd t = 1 := hkd.trans hk1
    obtain ⟨hh0, hci⟩ := hE2 (by rw [hk11]; decide)
    unfold ev_okI at hOI
    rw [hk11] at hOI
    simp only [Bool.and_eq_true, decide_eq_true_eq] at hOI
    have hinst := ev_gm hOI.1 rfl
    have hsel := ev_gm hOI.2 rfl
    have hwe : ev_wd t = .code (ev_y t) (ev_cd t) (ev_ml t) (ev_rt t) := by unfold ev_wd; rw [if_pos hh0]
    rw [hwe] at hM hwd
    rw [hk1] at hrc
    unfold ev_rc at hrc
    split at hrc
    · rename_i hz; exact absurd hz (by decide)
    · rename_i a r _
      split at hrc
      · rename_i c1 fs hm
        obtain ⟨hc1, ha⟩ := of_decide_eq_true hrc
        subst hc1
        have hrecv := va_recv hI.2.2.1 hI.2.2.2.1 (ev_clget hci) (ev_ws_get (ad := ad) (cA := cA) hI.1 ha hm)
        have hC1 : (ev_C (ev_ci t)).1 = (ev_y t).cls := by rw [(ev_lay _ hci).2.2.1, hN1]
        rw [hC1] at hrecv
        have hn : (r.map (ev_v ad)).length = sg.parameters.length := by
          rw [List.length_map]
          have h1 : (Value.ref a :: r).length = ev_na t := hlen
          rw [List.length_cons, hna2, if_neg (by rw [hk11]; decide)] at h1
          omega
        have hstk2 : st.map (ev_v ad) = (r.map (ev_v ad)).reverse ++ .ref (ad a) :: (st.drop (ev_na t)).map (ev_v ad) := by
          rw [hstk, List.map_cons, List.reverse_cons, List.append_assoc]
          rfl
        exact vx_runV (C := (ev_y t).cls) (b := ad a) (As := r.map (ev_v ad)) hS hM (cwV sg.parameters.length hts (ev_gV (w0 := .tt) hlink hinst hsel hinit hwd) rfl rfl rfl ⟨rfl, hN2, hN3, by rw [hsg]; rfl⟩ hroom) ⟨ev_Pc_blind, hrecv, fun U hU hW => ev_pre hI hU hW⟩ rfl hn hls hstk2 hW8 hdg hR
      · cases hrc
    · cases hrc
  · -- a constructor
    subst hi
    have hk22 : ev_kd t = 2 := hkd.trans hk2
    obtain ⟨hh0, hci⟩ := hE2 (by rw [hk22]; decide)
    unfold ev_okI at hOI
    rw [hk22] at hOI
    have hinst := ev_gm (of_decide_eq_true hOI) rfl
    have hwe : ev_wd t = .code (ev_y t) (ev_cd t) (ev_ml t) none := by unfold ev_wd; rw [if_pos hh0, hE3 hk22]
    rw [hwe] at hM hwd
    rw [hk2] at hrc
    obtain ⟨v, rfl⟩ := hko hk22
    have hMm := ev_met hM
    unfold ev_rc at hrc
    split at hrc
    · rename_i hz; exact absurd hz (by decide)
    · rename_i a r _
      split at hrc
      · rename_i c1 fs hm
        have hn : (r.map (ev_v ad)).length = sg.parameters.length := by
          rw [List.length_map]
          have h1 : (Value.ref a :: r).length = ev_na t := hlen
          rw [List.length_cons, hna2, if_neg (by rw [hk22]; decide)] at h1
          omega
        have hstk2 : st.map (ev_v ad) = (r.map (ev_v ad)).reverse ++ .ref (ad a) :: (st.drop (ev_na t)).map (ev_v ad) := by
          rw [hstk, List.map_cons, List.reverse_cons, List.append_assoc]
          rfl
        have hG : GoodIn ev_gw (Cond.code (ev_y t) (ev_cd t) (ev_ml t) none :: ev_gw) := fun x hx => by
          rcases List.mem_cons.mp hx with rfl | hx
          · exact ⟨hwd, ev_gwg hwd⟩
          · exact ⟨hx, ev_gwg hx⟩
        have run : va_Run p l e R s m args below meth c H locs cells slots (ev_k1 t) (ev_k2 t) (F0 m pc ls (st.map (ev_v ad))) ((st.drop (ev_na t)).map (ev_v ad)) (ev_Qc L xs D cA (va_A (ev_ws ad cA μ) H.size) ad μ.1 (.inl v) μ1 (Value.ref (ad a) :: r.map (ev_v ad)).toArray) (va_A (ev_ws ad cA μ) H.size) := va_runI (b := ad a) (As := r.map (ev_v ad)) hS hMm (cwI sg.parameters.length hts hG rfl rfl rfl (hts _ hinit) (hts _ hlink) (hts _ hinst) (hN5 hk22) ⟨hN2, hN3, by rw [hsg]; rfl⟩ hroom) ⟨ev_Pc_blind, fun U hU hW => ev_pre hI hU hW⟩ rfl hn hls hstk2 hW8 hdg hR
        exact fun T hT X => Or.inl (run T hT X)
      · cases hrc
    · cases hrc
theorem ev_f_ok {pc n : Nat} {i : Instr} (h : ev_f M pc = some (i, n)) : decode (ev_cd M) pc = .ok (i, n) := by
  unfold ev_f at h
  split at h
  · rename_i r hr; cases h; exact hr
  · cases h
/-- a step, by what it is -/
theorem ev_x_inl {pc c0 s0 pc' : Nat} {lo lo' : ev_L} {st st' : List Value} {μ μ' : ev_H} (h : ev_x M pc lo st μ = some (.inl (c0, s0, pc', lo', st', μ'))) : ∃ i n, decode (ev_cd M) pc = .ok (i, n) ∧
    ((ev_pu i n st = some st' ∧ c0 = 0 ∧ s0 = 0 ∧ pc' = pc + n ∧ lo' = lo ∧ μ' = μ) ∨
     (ev_br i n pc st = some (pc', st') ∧ c0 = 0 ∧ s0 = 0 ∧ lo' = lo ∧ μ' = μ) ∨
     (∃ v, ev_ld i n lo = some v ∧ st' = v :: st ∧ c0 = 0 ∧ s0 = 0 ∧ pc' = pc + n ∧ lo' = lo ∧ μ' = μ) ∨
     (ev_so i n lo st = some (lo', st') ∧ c0 = 0 ∧ s0 = 0 ∧ pc' = pc + n ∧ μ' = μ) ∨
     (ev_me (ev_ci M) (ev_kd M) i n st μ = some (c0, s0, st', μ') ∧ pc' = pc + n ∧ lo' = lo) ∨
     (∃ t k, ev_iv M i n = some (t, k) ∧ 1000 ≤ t ∧ ev_jk t = k ∧ (st.map Value.category).sum ≤ 9 ∧ ev_jf t ≤ ev_dp M ∧ ev_jl t ≤ ev_lc M ∧ ev_jd t st μ = some (st', μ') ∧ c0 = 0 ∧ s0 = 0 ∧ pc' = pc + n ∧ lo' = lo)) := by
  unfold ev_x at h
  split at h
  · cases h
  · rename_i i n hf
    refine ⟨i, n, ev_f_ok hf, ?_⟩
    split at h
    · split at h <;> cases h
    · split at h
      · rename_i hp; cases h; exact Or.inl ⟨hp, rfl, rfl, rfl, rfl, rfl⟩
      · split at h
        · rename_i hp; cases h; exact Or.inr (Or.inl ⟨hp, rfl, rfl, rfl, rfl⟩)
        · split at h
          · rename_i hp; cases h; exact Or.inr (Or.inr (Or.inl ⟨_, hp, rfl, rfl, rfl, rfl, rfl, rfl⟩))
          · split at h
            · rename_i hp; cases h; exact Or.inr (Or.inr (Or.inr (Or.inl ⟨hp, rfl, rfl, rfl, rfl⟩)))
            · split at h
              · rename_i hp; cases h; exact Or.inr (Or.inr (Or.inr (Or.inr (Or.inl ⟨hp, rfl, rfl⟩))))
              · split at h
                · rename_i t k hp
                  split at h
                  · rename_i ht
                    split at h
                    · rename_i hc
                      cases hj : ev_jd t st μ with
                      | none => rw [hj] at h; cases h
                      | some r =>
                        rw [hj] at h
                        cases h
                        exact Or.inr (Or.inr (Or.inr (Or.inr (Or.inr ⟨t, k, hp, ht, hc.1, hc.2.1, hc.2.2.1, hc.2.2.2, hj, rfl, rfl, rfl, rfl⟩))))
                    · cases h
                  · split at h <;> cases h
                · cases hv : ev_rv (ev_rt M) i n st with
                  | none => rw [hv] at h; cases h
                  | some r => rw [hv] at h; cases h
theorem ev_x_ret {pc : Nat} {lo : ev_L} {st : List Value} {μ : ev_H} {v : Option Value} (h : ev_x M pc lo st μ = some (.inr (.inl v))) : ∃ i n, decode (ev_cd M) pc = .ok (i, n) ∧ ev_rv (ev_rt M) i n st = some v := by
  unfold ev_x at h
  split at h
  · cases h
  · rename_i i n hf
    refine ⟨i, n, ev_f_ok hf, ?_⟩
    split at h
    · split at h <;> cases h
    · split at h
      · cases h
      · split at h
        · cases h
        · split at h
          · cases h
          · split at h
            · cases h
            · split at h
              · cases h
              · split at h
                · rename_i t k hp
                  split at h
                  · split at h
                    · cases hj : ev_jd t st μ with
                      | none => rw [hj] at h; cases h
                      | some r => rw [hj] at h; cases h
                    · cases h
                  · split at h <;> cases h
                · cases hv : ev_rv (ev_rt M) i n st with
                  | none => rw [hv] at h; cases h
                  | some r => rw [hv] at h; cases h; rfl
theorem ev_x_call {pc t : Nat} {lo : ev_L} {st av st' : List Value} {μ : ev_H} (h : ev_x M pc lo st μ = some (.inr (.inr (.inl (t, av, st'))))) : ∃ i k, decode (ev_cd M) pc = .ok (i, 3) ∧ ev_iv M i 3 = some (t, k) ∧ t < 1000 ∧ av = (st.take (ev_na t)).reverse ∧ st' = st.drop (ev_na t) ∧ (ev_kd t = k ∧ ev_na t ≤ st.length ∧ ((st.drop (ev_na t)).map Value.category).sum ≤ 8 ∧ ev_dp t + 1 ≤ ev_dp M ∧ 8 + (ev_ml t + 11) + ev_lc t ≤ ev_lc M ∧ (ev_ar (st.take (ev_na t)).reverse).length ≤ ev_ml t ∧ ev_rc t k (st.take (ev_na t)).reverse μ = true) := by
  unfold ev_x at h
  split at h
  · cases h
  · rename_i i n hf
    have hd := ev_f_ok hf
    split at h
    · split at h <;> cases h
    · split at h
      · cases h
      · split at h
        · cases h
        · split at h
          · cases h
          · split at h
            · cases h
            · split at h
              · cases h
              · split at h
                · rename_i t k hp
                  split at h
                  · split at h
                    · cases hj : ev_jd t st μ with
                      | none => rw [hj] at h; cases h
                      | some r => rw [hj] at h; cases h
                    · cases h
                  · rename_i ht
                    split at h
                    · rename_i hc
                      cases h
                      obtain ⟨rfl, -⟩ := ev_iv_ok hp
                      exact ⟨i, k, hd, hp, Nat.lt_of_not_le ht, rfl, rfl, hc⟩
                    · cases h
                · cases hv : ev_rv (ev_rt M) i n st with
                  | none => rw [hv] at h; cases h
                  | some r => rw [hv] at h; cases h
theorem ev_x_thr {pc ex : Nat} {lo : ev_L} {st : List Value} {μ : ev_H} (h : ev_x M pc lo st μ = some (.inr (.inr (.inr ex)))) : ev_th2 M pc = some ex ∧ st = [] ∧ 8 ≤ ev_dp M ∧ 130 ≤ ev_lc M := by
  unfold ev_x at h
  split at h
  · cases h
  · rename_i i n hf
    split at h
    · rename_i e1 h1
      split at h
      · rename_i hc
        cases h
        refine ⟨h1, ?_, hc.2.1, hc.2.2⟩
        cases st with
        | nil => rfl
        | cons a b => exact absurd hc.1 (by simp)
      · cases h
    · split at h
      · cases h
      · split at h
        · cases h
        · split at h
          · cases h
          · split at h
            · cases h
            · split at h
              · cases h
              · split at h
                · rename_i t k hp
                  split at h
                  · split at h
                    · cases hj : ev_jd t st μ with
                      | none => rw [hj] at h; cases h
                      | some r => rw [hj] at h; cases h
                    · cases h
                  · split at h <;> cases h
                · cases hv : ev_rv (ev_rt M) i n st with
                  | none => rw [hv] at h; cases h
                  | some r => rw [hv] at h; cases h
end EVS
