/-! The law's own frame (the first words: the kit's starting text). -/
def R_law : String := "LanternChessLaw"
def lw_P (b : Addr) (xs : List Int32) (args : Array Value) (s : State) : Prop := args = #[.ref b] ∧ s.IntsAt b xs ∧ xs.length ≤ 260 ∧ (Jvm.Cond.and given_1 narrow_1).before args s = true
/-- what a walk over the start with the record d0 says of its end, said of the start itself -/
theorem lw_closed {s t : State} {o : Outcome} {d0 : Drawn} {L : List Loc} {k n : Nat} (hd0 : s.drawn.sameBut d0 lw_cs) (hv : ∃ v, o = .returned v) (hW : (s.setDrawn d0).WarmedH t.vm) (hs : (s.setDrawn d0).sameButNew ({ t with vm := s.vm } : State) L k n) : State.butDraws s t lw_cs (fun t1 => Framed s o t1 L k n) := by
  have h2 : t.drawn = d0 := congrArg State.drawn hs.1
  refine ⟨⟨hv, hW, State.sameButNew.setDrawn hs s.drawn⟩, ?_, by decide⟩
  rw [h2]
  exact hd0
def lw_Q (_ : Array Value) (s : State) (o : Outcome) (t : State) : Prop := o = .returned (some (.int 1)) ∧ State.butDraws s t lw_cs (fun t1 => Framed s o t1 [] 600074 7301550)
def lw_Z (below : List Frame) (a : Array Value) (s : State) : State → Prop := fun t => ∃ o, t.status = .running ∧ Ended t below o ∧ lw_Q a s o t
/-- the law's own end, with 1 on the stack, nothing written that was there before, its room as the claim has it; d0: the record of draws at this point (at the entry s.drawn: begin with 'refine W.base ?_' and 'have hd0 := Drawn.sameBut.refl s.drawn lw_cs') -/
theorem lw_ret {p : Program} {l : Launch} {e : Env} {s : State} {m : MethodId} {below : List Frame} {meth : Method} {c : Code} {b : Nat} {d0 : Drawn} (hd0 : s.drawn.sameBut d0 lw_cs) (hx : p.tables.exec = Jvm.exec) (hb : c.code = code) (hr : meth.sig.returnType = ret) (hlocks : meth.locks = false) {pc : Nat} {H : Heap} {ls : Array Slot} (hdg : decode code pc = .ok (.ireturn, 1)) : W p l e room_1 (s.setDrawn d0) m #[Value.ref b] below meth c H [] 600074 7301550 (lw_Z below #[Value.ref b] s) (F0 m pc ls [.int 1]) := by
  intro T hT X
  obtain ⟨fs, hret, hrun, hended, hW, hframe⟩ := X.leave (v := some (.int 1)) (hlocks := hlocks) (fun h => by rw [hr] at h; cases h)
  have hmeth' : T.vm.method? m = some meth := X.method'
  refine ⟨T.setFrames fs, ?_, .returned (some (.int 1)), hrun, hended, rfl, lw_closed hd0 ⟨_, rfl⟩ hW hframe⟩
  jvm_step X.here [X.here.top, hx, hb, hdg, hmeth', hr, ret, narrow_b1]
  (try refine ⟨rfl, ?_⟩); (try refine ⟨rfl, ?_⟩)
  first | (intro acts; rw [hret _ acts rfl rfl rfl]) | rw [hret _ _ rfl rfl rfl]
  exact Steps.refl _
/-- what holds at the law's entry: the machine, the code, the tables' words (any of lw_tbl by 'hts w (by decide +kernel)'), the script of L ints xs at the cell b, what the Statement gives of the start (any of its parts by flat_of_before) -/
def lw_At (p : Program) (s : State) (m : MethodId) (meth : Method) (c : Code) (b L : Nat) (xs : Nat → Int32) : Prop :=
  p.tables.exec = Jvm.exec ∧ c.code = code ∧ meth.sig.returnType = ret ∧ c.maxLocals = 8 ∧ s.vm.findClass R_law = some m.cls ∧ (∀ w ∈ lw_tbl, w.before #[Value.ref b] s = true) ∧ va_X b L xs s s.heap ∧ b < s.heap.size ∧ meth.locks = false ∧ (Jvm.Cond.and given_1 narrow_1).before #[Value.ref b] s = true
theorem ev_trf {l : Launch} (hflags : l.flags = flags0) : l.stackTraces = false := by
  unfold Launch.stackTraces
  rw [hflags]
  decide +kernel
theorem ev_law_hh : ev_ml ev_lawM = 8 ∧ ev_ci ev_lawM = 12 ∧ ev_kd ev_lawM = 0 ∧ ev_dp ev_lawM ≤ 16 ∧ ev_lc ev_lawM ≤ 634 ∧ ev_rt ev_lawM = ret ∧ ev_lawM < ev_nm ∧ ev_own 12 = R_law := by decide +kernel
theorem eb_l119 : ev_ml 119 = 1 := by decide +kernel
theorem eb_n0 {α : Type} {k : Nat} {q : α} (h : ([] : List α)[k]? = some q) : False := by simp at h
theorem eb_me26 {μ : ev_H} : ev_me 12 0 (.new 26) 3 [] μ = (match ev_nw 12 26 with
  | some (ci, _) => some (1, (ev_C ci).2.2, [.ref μ.1], (μ.1 + 1, ev_up μ.2 μ.1 (ev_ob ci (ev_new ci))))
  | none => none) := rfl
/-- the letters of the text, blanks behind it -/
def eb_yy (lx : List Nat) (i : Nat) : Nat := if i < lx.length then lx.getD i 0 else 32
/-- the law behind its loading -/
theorem eb_lawd {xs : Nat → Int32} {m1 m2 : Mm} {L : Nat} (hL : L ≤ 2147483647) {lx : List Nat} (hok : eb_OK lx) (h1 : VL m1) (h2 : TX m1) (h3 : m1 80 1 = zI 0) (hB : Bf m1 m2 (eb_yy lx) lx.length) : ∃ q, d_122 20 m2 = some q ∧ d_186_16 L 20 q.1 q.2 = some true := by
  have hlo := hok.lo
  have hlen : lx.length ≤ 300 := by obtain ⟨W, H, a, b, p, w, t, ps, fs, -, h, -⟩ := hok; exact h
  have hB2 : Bf m1 m2 (fun i => lx.getD i 0) lx.length := ⟨hB.1, fun i hi => (hB.2.1 i hi).trans (by unfold eb_yy; rw [if_pos hi]), hB.2.2⟩
  obtain ⟨hBT, hSg⟩ := eb_bt hB2 hlen hlo
  obtain ⟨hV, hT, h80, -⟩ := eb_bf hB2 h1 h2
  obtain ⟨W, H, a, b, p, w, t, ps, fs, e, -, hW, ha, hb, hp, hw, ht, hP, hP6, hF, hF3⟩ := hok
  have hSg2 : Sg (fun i => ((lx.getD i 0 : Nat) : Int)) lx.length 0 (txt W H a b p w t (flP ps ++ flF fs)) := by rw [← e]; exact hSg
  obtain ⟨q, e1, e2, r, hSt, r2, hd⟩ := a122 (m := m2) hV hT ⟨0, by decide, by rw [h80]; exact h3⟩ hBT hW ha hb hp hw ht hP hP6 hF hF3 hSg2
  refine ⟨q, e1, ?_⟩
  rw [e2]
  exact a186_16 hL hSt (by omega) r2 hd (by omega) (by omega)
/-- a text that nobody changes, seen from a world that it is not in -/
theorem eb_TA {A : Nat → Prop} {N : Nat} {fx : Nat → Int32} {a v : Nat} {U : State} {H : Heap} (h : eb_T (fun _ => False) N fx a v U H) (h1 : ¬ A a) (h2 : ¬ A v) (z1 : va_Z "java/lang/String" "COMPACT_STRINGS" "Z" (.int 1) A U H) (z2 : va_Zq "jdk/internal/util/Preconditions" "SIOOBE_FORMATTER" "Ljava/util/function/BiFunction;" A U H) : eb_T A N fx a v U H := by
  obtain ⟨⟨c1, p1, p2, p3, -⟩, ⟨c2, k2, i2, f2, x2, q1, q2, q3, q4, q5, -⟩, ⟨c3, k3, i3, f3, x3, r1, r2, r3, r4, r5, -⟩, ⟨c4, s1, s2, s3, s4, s5, s6, -⟩, -, -⟩ := h
  exact ⟨⟨c1, p1, p2, p3, h1⟩, ⟨c2, k2, i2, f2, x2, q1, q2, q3, q4, q5, h1⟩, ⟨c3, k3, i3, f3, x3, r1, r2, r3, r4, r5, h1⟩, ⟨c4, s1, s2, s3, s4, s5, s6, h2⟩, z1, z2⟩
theorem eb_lt1 {A : Nat → Prop} {N : Nat} {fx : Nat → Int32} {a v : Nat} {U : State} {H : Heap} (h : eb_T A N fx a v U H) : a < H.size := by
  obtain ⟨⟨c1, p1, -⟩, -⟩ := h
  exact (Array.getElem?_eq_some_iff.mp p1).1
theorem eb_lt2 {A : Nat → Prop} {N : Nat} {fx : Nat → Int32} {a v : Nat} {U : State} {H : Heap} (h : eb_T A N fx a v U H) : v < H.size := by
  obtain ⟨-, -, -, ⟨c1, p1, -⟩, -⟩ := h
  exact (Array.getElem?_eq_some_iff.mp p1).1
set_option maxHeartbeats 4000000 in
set_option maxRecDepth 100000 in
theorem whole_start {p : Program} {e : Env} {s : State} {m : MethodId} {below : List Frame} {meth : Method} {c : Code} (l : Launch) (hflags : l.flags = flags0) {b L : Nat} {xs : Nat → Int32} (hL : L ≤ 260) (C0 : lw_At p s m meth c b L xs) : W p l e room_1 s m #[Value.ref b] below meth c s.heap [] 0 0 (lw_Z below #[Value.ref b] s) (entryFrame m ([Value.ref b] : List Value).toArray 8) := by
  have d0 : decode code 0 = .ok (.new 26, 3) := by decide +kernel
  have d3 : decode code 3 = .ok (.dup, 1) := by decide +kernel
  have d4 : decode code 4 = .ok (.invokespecial 160, 3) := by decide +kernel
  have d7 : decode code 7 = .ok (.astore_n 1, 1) := by decide +kernel
  have d8 : decode code 8 = .ok (.aload_n 1, 1) := by decide +kernel
  have d9 : decode code 9 = .ok (.aload_n 0, 1) := by decide +kernel
  have d10 : decode code 10 = .ok (.invokestatic 161, 3) := by decide +kernel
  have d13 : decode code 13 = .ok (.invokestatic 165, 3) := by decide +kernel
  obtain ⟨hx, hb, hrt, hml, hown, htl, hX, hbl, hlk, hgv⟩ := C0
  obtain ⟨l1, l2, l3, l4, l5, l6, l7, l8⟩ := ev_law_hh
  have hst := ev_trf hflags
  have hn : ∀ w ∈ ev_nw1, w.before #[Value.ref b] s = true := fun w hw => flat_of_before _ hgv w (List.mem_append_right _ hw)
  obtain ⟨ad, ad2, hSH, hSU⟩ := ev_sSH htl hn hX hbl
  obtain ⟨av, aw, hXX, hYY⟩ := eb_sXY htl hn hX hbl
  obtain ⟨D, hD⟩ := ev_kD htl
  obtain ⟨D2, hD2⟩ := eb_kD htl
  obtain ⟨cA, hcA⟩ := ev_kA htl
  have hsf : ∀ a, ev_S ≤ a → ev_sf L xs a = none := fun a ha => by
    have hS : ev_S = 20 := rfl
    unfold ev_sf
    rw [if_neg (by omega), if_neg (by omega), if_neg (by omega), if_neg (by omega)]
  have hmw : ev_mw (20, ev_sf L xs) := ⟨Nat.le_refl _, fun a e h1 h2 => (by
    have h3 : ev_sf L xs a = some e := h2
    rw [hsf a h1] at h3
    cases h3), fun a h1 h2 => absurd h2 (Nat.not_lt.mpr h1)⟩
  have hI : ev_I L xs D cA (ev_A0 s) s ad (20, ev_sf L xs) s.heap [] := by
    refine ⟨hmw, fun _ _ => rfl, ⟨hD, hcA⟩, fun k q hk => ?_, ⟨fun i j p q hp => ?_, fun k q hk => ?_⟩, va_S.rf, fun q hq => hq, hSH, hSU⟩
    · exact absurd hk (by simp [ev_ws, ev_S])
    · exact absurd hp (by simp [ev_ws, ev_S])
    · exact absurd hk (by simp [ev_ws, ev_S])
  have hfg : ∀ w ∈ ev_gw, w.before #[Value.ref b] s = true := fun w hw => htl w (List.mem_filter.mp hw).1
  have hts : ∀ w ∈ eb_gw, w.before #[Value.ref b] s = true := eb_pv_ok htl
  have hcd : c.code = ev_cd ev_lawM := by
    rw [hb]
    unfold ev_cd
    rw [if_pos rfl]
  have hl := lv_entry ([.ref b]) (n := 8) (Nat.le_of_ble_eq_true rfl)
  rw [lg_entry_eq]
  generalize (lg_sl ([.ref b]) ++ List.replicate (8 - (lg_sl ([.ref b])).length) Slot.unset).toArray = ls at hl ⊢
  have hl : lv_has ls 8 [(0, .ref b)] := hl
  have e26 : ev_nw 12 26 = some (10, 11031) := by decide +kernel
  have h1 : ev_me (ev_ci ev_lawM) (ev_kd ev_lawM) (.new 26) 3 [] (20, ev_sf L xs) = some (1, 11, [.ref 20], (21, ev_up (ev_sf L xs) 20 (ev_ob 10 (ev_new 10)))) := by
    rw [l2, l3, eb_me26, e26]
    rfl
  refine ev_me_ok (M := ev_lawM) (cc := code) (st := []) hx hb (by rw [l2, l8]; exact hown) hfg (fun h => by rw [l3] at h; cases h) h1 hI (fun v hv => nomatch hv) ⟨by exact Nat.le_of_ble_eq_true rfl, by exact Nat.le_of_ble_eq_true rfl⟩ d0 (fun ad1 H1 locs1 hag1 hle1 hI hs1 => ?_)
  change W p l e room_1 s m _ below meth c H1 locs1 1 11 _ (F0 m 3 ls [.ref (ad1 20)])
  refine lv_dup hx hb d3 rfl ?_
  obtain ⟨m1, dm1, hV1, hT1, h801, h802, h211, -⟩ := eb_new xs
  have hK119 := K_119 (L := L) dm1
  have hM9 := eb_met hst (M := 119) (v := none) (μ := (21, ev_up (ev_sf L xs) 20 (ev_ob 10 (ev_new 10)))) (μ1 := (249, mem L 249 m1)) (av := [.ref 20]) ad1 L xs D cA H1.size (by decide) (by decide) eb_E119 (by unfold ev_en; rw [eb_l119]; exact hK119) (fun v hv a ha => by rw [List.mem_singleton.mp hv] at ha; cases ha; exact (by decide : 20 < 21)) (by rw [eb_l119]; exact Nat.le_of_ble_eq_true rfl)
  refine eb_back (va_runI (b := ad1 20) (As := ([] : List Value).map (ev_v ad1)) (rest := [.ref (ad1 20)]) ⟨hx, hb, hml, hown, hts⟩ hM9 (cwI 0 hts (eb_gI eb_ok2 (eb_m (ev_gm (p := 11035) (by decide +kernel) rfl))) rfl rfl rfl (hts _ (eb_m (ev_ginit (by decide +kernel) rfl))) (hts _ (eb_m (ev_gm (p := 11033) (by decide +kernel) rfl))) (hts _ (eb_m (ev_gm (p := 11034) (by decide +kernel) rfl))) rfl (by decide +kernel) ⟨Nat.le_of_ble_eq_true rfl, Nat.le_of_ble_eq_true rfl⟩) ⟨ev_Pc_blind, fun U hU hW => ev_pre hI hU hW⟩ rfl rfl hl.1 rfl (lv_room (Nat.le_of_ble_eq_true rfl)) d4 ⟨by exact Nat.le_of_ble_eq_true rfl, by exact Nat.le_of_ble_eq_true rfl⟩) hI (fun ad2' H2 locs2 hag2 hI => ?_)
  change W p l e room_1 s m _ below meth c H2 locs2 229 10830 _ (F0 m 7 ls [.ref (ad1 20)])
  have hag2 : ∀ a, a < 21 → ad2' a = ad1 a := hag2
  have hag1 : ∀ a, a < 20 → ad1 a = ad a := hag1
  refine lv_astore_n hx hb d7 rfl hl (by decide) rfl (fun ls hl => ?_)
  refine lv_aload_n hx hb d8 rfl (lv_at hl 0 rfl) ?_
  refine lv_aload_n hx hb d9 rfl (lv_at hl 1 rfl) ?_
  have hS := hI.2.2.2.2.2.1
  have hP2 := hI.2.2.2.1
  have hAn : ∀ q, va_A [] H2.size q → ev_A0 s q := fun q h => h.elim (fun ⟨k, e, y⟩ => nomatch y) (fun y => Nat.le_trans hS.1 y)
  refine va_callr (va_runS (As := [.ref b]) (rest := [.ref (ad1 20)]) ⟨hx, hb, hml, hown, hts⟩ (eb_setup l D2 H2.size L xs b (by omega) av aw) (va_cwS 1 hts (eb_gS eb_ok1 (eb_m (ev_gm (p := 14137) (by decide +kernel) rfl)) (eb_m (ev_gm (p := 14138) (by decide +kernel) rfl)) (eb_m (ev_ginit (by decide +kernel) rfl)) (eb_m (ev_gm (p := 14139) (by decide +kernel) rfl))) rfl rfl rfl (by decide +kernel) ⟨Nat.le_of_ble_eq_true rfl, Nat.le_of_ble_eq_true rfl⟩) ⟨fun a U g mk q => by obtain ⟨q0, q1, qP, qK, qD, qX, qY⟩ := q; exact ⟨q0, q1, qP, va_K.moved (u := U) (U := U.calling g mk a) (Vm.Alike.refl U.vm) qK, qD, eb_X.moved (u := U) (U := U.calling g mk a) (Vm.Alike.refl U.vm) qX, eb_Y.same rfl qY⟩, fun U hU hW => ⟨rfl, by rw [hU], (fun k q hk => (eb_n0 hk).elim), va_K.moved hW.alike ⟨hD2, fun k q hk => (eb_n0 hk).elim⟩, ⟨fun i j p q hp => (eb_n0 hp).elim, fun k q hk => (eb_n0 hk).elim⟩, by show eb_X _ _ _ _ _ _ U U.heap; rw [hU]; exact ((hXX.kept hS.2.1).narrow hAn).moved hW.alike, eb_Y.warm hW hYY⟩⟩ rfl rfl hl.1 rfl (lv_room (Nat.le_of_ble_eq_true rfl)) d10 ⟨by exact Nat.le_of_ble_eq_true rfl, by exact Nat.le_of_ble_eq_true rfl⟩) hS (fun q _ h => hAn q h) hAn (fun _ q t H3 locs3 ht hvm hw hB hz1 hk1 hS => ?_)
  obtain ⟨v, lx, hok, hT, hq1, hq2⟩ := hB
  have hI := eb_Ikeep hI (fun q h => hk1 q h (fun z => z.elim (fun ⟨k, e, y⟩ => nomatch y) (fun y => absurd h (Nat.not_lt.mpr y)))) hS
  rw [ht] at hT
  
  have hZ1 := ((hXX.2.2.2.kept hS.2.1).narrow (B := (va_A (ev_ws ad2' cA (249, mem L 249 m1)) H3.size)) (ev_narrow hI))
  have hZ2 := (((hXX.1 0 (by decide)).2.2.2.2.2.kept hS.2.1).narrow (B := (va_A (ev_ws ad2' cA (249, mem L 249 m1)) H3.size)) (ev_narrow hI))
  have hTA : eb_T (va_A (ev_ws ad2' cA (249, mem L 249 m1)) H3.size) lx.length (eb_fx lx) q v s H3 := by
    have hne : ∀ a, H2.size ≤ a → a < H3.size → ¬ (va_A (ev_ws ad2' cA (249, mem L 249 m1)) H3.size) a := fun a h1 h2 z => z.elim (fun ⟨k, e9, y⟩ => absurd ((hP2 k _ y).lt) (Nat.not_lt.mpr h1)) (fun y => absurd h2 (Nat.not_lt.mpr y))
    exact eb_TA (hT.moved hvm.symm) (hne q hq1 (eb_lt1 hT)) (hne v hq2 (eb_lt2 hT)) hZ1 hZ2
  have hlen : lx.length ≤ 300 := by obtain ⟨W, H, a, b, p, w, t, ps, fs, -, h, -⟩ := hok; exact h
  have hS := hI.2.2.2.2.2.1
  have hnr := ev_narrow hI
  have hyy1 : ∀ i, eb_yy lx i < 128 := fun i => by
    unfold eb_yy
    by_cases h : i < lx.length
    · rw [if_pos h, List.getD_eq_getElem?_getD, List.getElem?_eq_getElem h]
      exact hok.lo _ (List.getElem_mem h)
    · rw [if_neg h]; decide
  have hyy2 : ∀ i, i < lx.length → eb_fx lx i = nI (eb_yy lx i) := fun i h => by
    unfold eb_yy eb_fx
    rw [if_pos h]
  have hyy3 : ∀ i, lx.length ≤ i → eb_yy lx i = 32 := fun i h => if_neg (Nat.not_lt.mpr h)
  rw [← hag2 20 (by decide)]
  refine va_calli (va_runS (As := [.ref (ad2' 20), .ref q]) (rest := []) ⟨hx, hb, hml, hown, hts⟩ (eb_loaded l hst D H3.size L xs cA m1 ad2' lx.length (eb_fx lx) (eb_yy lx) q v (hok.lo.tbg hlen) hlen hyy1 hyy2 hyy3 h211 (fun r => d_186_16 L 20 r.1 r.2 = some true) (fun m2 hB => eb_lawd (xs := xs) (by omega) hok hV1 hT1 h801 hB)) (va_cwS 2 hts (eb_gS eb_ok1 (eb_m (ev_gm (p := 13201) (by decide +kernel) rfl)) (eb_m (ev_gm (p := 13202) (by decide +kernel) rfl)) (eb_m (ev_ginit (by decide +kernel) rfl)) (eb_m (ev_gm (p := 13203) (by decide +kernel) rfl))) rfl rfl rfl (by decide +kernel) ⟨Nat.le_of_ble_eq_true rfl, Nat.le_of_ble_eq_true rfl⟩) ⟨fun a U g mk q => ⟨q.1, q.2.1, eb_Iblind q.2.2.1 g mk a, eb_T.moved (u := U) (U := U.calling g mk a) (Vm.Alike.refl U.vm) q.2.2.2⟩, fun U hU hW => ⟨rfl, by rw [hU], (ev_pre (av := []) hI hU hW).2.2, by rw [hU]; exact hTA.moved hW.alike⟩⟩ rfl rfl hl.1 rfl (lv_room (Nat.le_of_ble_eq_true rfl)) d13 ⟨by exact Nat.le_of_ble_eq_true rfl, by exact Nat.le_of_ble_eq_true rfl⟩) hS (fun q _ h => hnr q h) hnr (fun r u t4 H4 locs4 ht hvm hw hB hz1 hk1 hS => ?_)
  have hP : d_186_16 L 20 r u.1 = some true := hw
  have hI := eb_jn hI hB ht hS
  have hag3 : ∀ a, a < 249 → u.2 a = ad2' a := hB.1
  obtain ⟨μ', hd⟩ := t_186_16 (L := L) (b := 3) (z := 6) (by decide) (by decide) (by decide) (m := u.1) ⟨by decide +kernel, by decide⟩ (a1 := 20) ⟨by decide +kernel, by decide⟩ (s0 := r) true hP
  obtain ⟨n, hr⟩ := ev_dn_some.mp hd
  have e20 : u.2 20 = ad1 20 := (hag3 20 (by decide)).trans (hag2 20 (by decide))
  have e2 : u.2 2 = b := (hag3 2 (by decide)).trans ((hag2 2 (by decide)).trans ((hag1 2 (by decide)).trans ad2))
  have hlr : ev_lr u.2 ls [some (.ref 2), some (.ref 20), none, none, none, none, none, none] := by
    show lv_has ls 8 [(0, .ref (u.2 2)), (1, .ref (u.2 20))]
    rw [e2, e20]
    exact lv_sub hl [1, 0] rfl
  have hllo : ev_ll 249 [some (.ref 2), some (.ref 20), none, none, none, none, none, none] := by
    intro j w hj
    match j, hj with
    | 0, hj => cases hj; exact fun a ha => by cases ha; decide
    | 1, hj => cases hj; exact fun a ha => by cases ha; decide
    | j + 2, hj =>
      exfalso
      have h9 : ([none, none, none, none, none, none] : ev_L)[j]? = some (some w) := hj
      have h8 := List.mem_of_getElem? h9
      simp at h8
  change W p l e room_1 s m _ below meth c H4 locs4 644 610905 _ (F0 m 16 ls [.int r])
  refine ev_all hst n p e room_1 s m #[Value.ref b] below meth c ev_lawM 3 6 16 [some (.ref 2), some (.ref 20), none, none, none, none, none, none] [.int r] (249, mem L 249 u.1) (.inl (some (.int (bi true)))) μ' H4 locs4 644 610905 ls u.2 L xs D cA (ev_A0 s) (lw_Z below #[Value.ref b] s) hr l7 hx hcd (hml.trans l1.symm) (by rw [l2, l8]; exact hown) hfg (fun h => by rw [l3] at h; cases h) l4 l5 (fun h => absurd rfl h) hlk hI (fun v hv a ha => by rw [List.mem_singleton.mp hv] at ha; cases ha) hllo l1.symm hlr (Nat.le_of_ble_eq_true rfl) (Nat.le_of_ble_eq_true rfl) ?_ ?_ ?_
  · intro v ad' H' locs' pc' ls' i n' st' ho hag hle hI' hrv hdg hst
    cases ho
    have hbs : ∀ q ∈ locs', s.heap.size ≤ q.base := fun q hq => hI'.2.2.2.2.2.1.2.2 q hq
    rw [l6] at hrv
    refine va_forget hbs ?_
    have hrv : ev_rv ret i n' st' = some (some (.int 1)) := hrv
    have key : i = .ireturn ∧ n' = 1 ∧ st' = [.int 1] := by
      unfold ev_rv at hrv
      split at hrv
      · split at hrv <;> cases hrv
      · split at hrv
        · split at hrv
          · cases hrv; exact ⟨rfl, rfl, rfl⟩
          · cases hrv
        · cases hrv
      · split at hrv <;> cases hrv
      · split at hrv <;> cases hrv
      · split at hrv <;> cases hrv
      · cases hrv
    obtain ⟨rfl, rfl, rfl⟩ := key
    exact W.base (lw_ret (Drawn.sameBut.refl s.drawn lw_cs) hx hb hrt hlk (by
      have h9 := hdg
      unfold ev_cd at h9
      rw [if_pos rfl] at h9
      exact h9))
  · intro ex ad' H' locs' cells' slots' pc' ls' ho
    cases ho
  · intro ex ad' H' locs' cells' slots' pc' ls' rest q ce ho
    cases ho
