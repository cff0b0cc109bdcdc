/-! The law's own frame: what the start gives, and what is left to show of the program alone. -/
def ev_nw1 : List Cond := flatC narrow_1
def ev_sk (k : Nat) : Nat × Nat × String × Nat × Nat := ev_sr.getD k (0, 0, "", 0, 0)
def ev_tm (k : Nat) : Term := .string (ev_own (ev_sk k).1) (ev_sk k).2.1
def ev_tp (k : Nat) : Nat := [88, 96, 105, 114, 122, 131, 140, 148, 157, 165, 175, 185, 193, 202, 472, 509, 592].getD k 0
def ev_tw (k : Nat) : List Cond := Cond.exactly (ev_tm k) "java/lang/String" :: Cond.eq (.field (ev_tm k) "java/lang/String" "coder" "B") (.int 0) :: Cond.arrayOf (.field (ev_tm k) "java/lang/String" "value" "[B") .byte :: Cond.eq (.length (.field (ev_tm k) "java/lang/String" "value" "[B")) (.int (Int32.ofNat (ev_tb k).length)) :: (List.range (ev_tb k).length).map fun j => Cond.eq (.elem (.field (ev_tm k) "java/lang/String" "value" "[B") (.int (Int32.ofNat j))) (.int ((ev_tb k).getD j 0))
set_option maxRecDepth 100000 in
theorem ev_tw_ok : ∀ k, k < 17 → (ev_nw1.drop (ev_tp k)).take (4 + (ev_tb k).length) = ev_tw k := by decide +kernel
theorem ev_tw_in {k : Nat} (h : k < 17) {w : Cond} (hw : w ∈ ev_tw k) : w ∈ ev_nw1 := by
  rw [← ev_tw_ok k h] at hw
  exact List.mem_of_mem_drop (List.mem_of_mem_take hw)
theorem ev_tl_ok : ∀ k, k < 17 → (ev_tb k).length < 2 ^ 31 := by decide +kernel
def ev_tvF : Term := .static "LanternChess$Field" "VALUES" "[I"
def ev_vwF : List Cond := Cond.arrayOf ev_tvF .int :: Cond.eq (.length ev_tvF) (.int (Int32.ofNat 6)) :: (List.range 6).map fun j => Cond.eq (.elem ev_tvF (.int (Int32.ofNat j))) (.int (([100, 9, 5, 3, 3, 1] : List Int32).getD j 0))
theorem ev_vwF_ok : (ev_nw1.drop 10).take 8 = ev_vwF := by decide +kernel
theorem ev_vwF_in {w : Cond} (hw : w ∈ ev_vwF) : w ∈ ev_nw1 := by
  rw [← ev_vwF_ok] at hw
  exact List.mem_of_mem_drop (List.mem_of_mem_take hw)
def ev_tvM : Term := .static "LanternChessModel" "VALUES" "[I"
def ev_vwM : List Cond := Cond.arrayOf ev_tvM .int :: Cond.eq (.length ev_tvM) (.int (Int32.ofNat 7)) :: (List.range 7).map fun j => Cond.eq (.elem ev_tvM (.int (Int32.ofNat j))) (.int (([0, 100, 9, 5, 3, 3, 1] : List Int32).getD j 0))
theorem ev_vwM_ok : (ev_nw1.drop 19).take 9 = ev_vwM := by decide +kernel
theorem ev_vwM_in {w : Cond} (hw : w ∈ ev_vwM) : w ∈ ev_nw1 := by
  rw [← ev_vwM_ok] at hw
  exact List.mem_of_mem_drop (List.mem_of_mem_take hw)
def ev_np (i j : Nat) : Nat := [0, 55, 70, 85, 40, 0, 71, 86, 41, 56, 0, 87, 42, 57, 72, 0].getD (4 * i + j) 0
theorem ev_np_ok : ∀ i, i < 4 → ∀ j, j < 4 → i ≠ j → ev_nw1[ev_np i j]? = some (.not (.castable (ev_X.getD i "") (ev_X.getD j ""))) := by decide +kernel
def ev_tq : List (Nat × Nat) := [(209, 13225), (366, 16127), (403, 16138), (445, 16187), (488, 16222), (228, 14031), (289, 14130), (314, 14134), (259, 14057), (346, 15229)]
set_option maxRecDepth 100000 in
theorem ev_tq_ok : ∀ e ∈ ev_th, ∃ q ∈ ev_tq, ev_nw1[q.1]? = some (.exactly (.string (ev_own (ev_ci e.1)) e.2.2.2.2.1) "java/lang/String") ∧ ev_w q.2 = some (.stringRef (ev_own (ev_ci e.1)) e.2.2.2.2.1 e.2.2.2.2.2.2.2) := by decide +kernel
theorem ev_srr_ok : ∀ k, k < 17 → ev_w (ev_sk k).2.2.2.2 = some (.stringRef (ev_own (ev_sk k).1) (ev_sk k).2.1 (ev_sk k).2.2.1) ∧ (ev_sk k).2.2.2.1 = 3 + k := by decide +kernel
theorem ev_sr_k : ∀ e ∈ ev_sr, ∃ k, k < 17 ∧ ev_sk k = e := by decide +kernel
def ev_xp : List Nat := [13187, 13189, 13191, 13185, 14024, 15222, 16180]
theorem ev_xp_ok : ev_xp.map ev_w = ev_xw.map some := by decide +kernel
theorem ev_xp_in {w : Cond} (h : w ∈ ev_xw) : w ∈ lw_tbl := by
  have h1 : some w ∈ ev_xp.map ev_w := by rw [ev_xp_ok]; exact List.mem_map_of_mem h
  obtain ⟨p, -, hp⟩ := List.mem_map.mp h1
  exact ev_mem hp
theorem ev_xw_t {w : Cond} (hx : w ∈ ev_xw) : w.onTables = true := by
  simp only [ev_xw, List.mem_cons, List.not_mem_nil, or_false] at hx
  rcases hx with rfl | rfl | rfl | rfl | rfl | rfl | rfl <;> rfl
def ev_A0 (s : State) : Nat → Prop := fun q => s.heap.size ≤ q
section EVL
variable {s : State} {b L : Nat} {xs : Nat → Int32} {args : Array Value}
theorem ev_kD (hts : ∀ w ∈ lw_tbl, w.before args s = true) : ∃ D : va_G, ∀ (c : Nat) (q : vw_C), ev_cl[c]? = some q → u_Kn s q.1 q.2.1 q.2.2 (D.1 c) (D.2 c) := by
  have h : ∀ c : Nat, ∃ d : ClassId × (Nat → Nat), c < 12 → u_Kn s (ev_C c).1 (ev_C c).2.1 (ev_C c).2.2 d.1 d.2 := by
    intro c
    by_cases hc : c < 12
    · obtain ⟨h1, h2, -, -⟩ := ev_lay c hc
      obtain ⟨cC, iS, h3⟩ := u_known (ws := lw_tbl) hts (ev_wsin hc) (hts _ (ev_mem h2))
      exact ⟨(cC, iS), fun _ => h3⟩
    · exact ⟨(0, fun _ => 0), fun h => absurd h hc⟩
  obtain ⟨d, hd⟩ := Classical.axiomOfChoice h
  refine ⟨(fun c => (d c).1, fun c => (d c).2), fun c q hq => ?_⟩
  have hl : c < 12 := (List.getElem?_eq_some_iff.mp hq).1
  have h1 := ev_clget hl
  rw [h1] at hq
  cases hq
  exact hd c hl
theorem ev_kA (hts : ∀ w ∈ lw_tbl, w.before args s = true) : ∃ cA : Nat → ClassId, ∀ (k : Nat) (q : ClassId × FieldType), (ev_tys cA)[k]? = some q → ArrOfT s q.1 q.2 ∧ va_RA s q.1 q.2 := by
  obtain ⟨c0, k0, p0, a1, a2, a3⟩ := Cond.arrayClass_spec (hts _ (ev_mem (show ev_w 11110 = some (Cond.arrayClass .int) by decide +kernel)))
  obtain ⟨c1, k1, p1, b1, b2, b3⟩ := Cond.arrayClass_spec (hts _ (ev_mem (show ev_w 11077 = some (Cond.arrayClass .byte) by decide +kernel)))
  obtain ⟨c2, k2, p2, d1, d2, d3⟩ := Cond.arrayClass_spec (hts _ (ev_mem (show ev_w 19134 = some (Cond.arrayClass .long) by decide +kernel)))
  obtain ⟨p3, c3, k3, e1, -, e3, e4, e5⟩ := Cond.arrayOver_spec (hts _ (ev_mem (show ev_w 11236 = some (Cond.arrayOver (.object "LanternChess$Game")) by decide +kernel)))
  refine ⟨fun k => if k = 0 then c0 else if k = 1 then c1 else if k = 2 then c2 else c3, fun k q hq => ?_⟩
  match k, hq with
  | 0, hq => cases hq; exact ⟨fun n z => ⟨fun k h => (by cases h), k0, a2, p0, a3⟩, a1⟩
  | 1, hq => cases hq; exact ⟨fun n z => ⟨fun k h => (by cases h), k1, b2, p1, b3⟩, b1⟩
  | 2, hq => cases hq; exact ⟨fun n z => ⟨fun k h => (by cases h), k2, d2, p2, d3⟩, d1⟩
  | 3, hq => cases hq; exact ⟨fun n z => ⟨fun k h => (by cases h), k3, e3, p3, e4⟩, k3, p3, e3, e4, e1, e5⟩
theorem ev_sSH (hL : L ≤ 3584) (hts : ∀ w ∈ lw_tbl, w.before args s = true) (hn : ∀ w ∈ ev_nw1, w.before args s = true) (hX : va_X b L xs s s.heap) (hbl : b < s.heap.size) : ∃ ad : Nat → Nat, ad 2 = b ∧ ev_SH L xs ad (ev_A0 s) s s.heap ∧ ev_SU ad s := by
  have hA : ∀ a : Nat, a < s.heap.size → ¬ ev_A0 s a := fun a ha h => Nat.not_lt.mpr h ha
  have hi : ∀ w ∈ tables_1_1.take 28, w.before args s = true := fun w hw => hts w (ev_init hw)
  obtain ⟨tF, hF1, hF2⟩ := va_Tof (s := s) (args := args) (tm := ev_tvF) (ty := .int) (N := 6) (f := fun j => .int (([100, 9, 5, 3, 3, 1] : List Int32).getD j 0)) (A := ev_A0 s) (by decide) (hn _ (ev_vwF_in List.mem_cons_self)) (va_eqt (hn _ (ev_vwF_in (List.mem_cons_of_mem _ List.mem_cons_self))))
    (fun j hj => va_eqt (hn _ (ev_vwF_in (List.mem_cons_of_mem _ (List.mem_cons_of_mem _ (List.mem_map.mpr ⟨j, List.mem_range.mpr hj, rfl⟩)))))) hA
  obtain ⟨tM, hM1, hM2⟩ := va_Tof (s := s) (args := args) (tm := ev_tvM) (ty := .int) (N := 7) (f := fun j => .int (([0, 100, 9, 5, 3, 3, 1] : List Int32).getD j 0)) (A := ev_A0 s) (by decide) (hn _ (ev_vwM_in List.mem_cons_self)) (va_eqt (hn _ (ev_vwM_in (List.mem_cons_of_mem _ List.mem_cons_self))))
    (fun j hj => va_eqt (hn _ (ev_vwM_in (List.mem_cons_of_mem _ (List.mem_cons_of_mem _ (List.mem_map.mpr ⟨j, List.mem_range.mpr hj, rfl⟩)))))) hA
  have hS : ∀ k : Nat, ∃ q : Nat, k < 17 → ((ev_tm k).eval args s none [] s = some (.ref q) ∧ ∃ v : Nat, va_O "java/lang/String" q (ev_A0 s) s s.heap ∧ va_OF "java/lang/String" "coder" "B" (.int 0) q (ev_A0 s) s s.heap ∧ va_OF "java/lang/String" "value" "[B" (.ref v) q (ev_A0 s) s s.heap ∧ va_T .byte v (ev_tb k).length (fun j => .int ((ev_tb k).getD j 0)) (ev_A0 s) s s.heap) := by
    intro k
    by_cases hk : k < 17
    · have hin : ∀ w ∈ ev_tw k, w.before args s = true := fun w hw => hn w (ev_tw_in hk hw)
      obtain ⟨a, c, cC, kC, q1, q2, q3, q4, q5, q6, -⟩ := Cond.exactly_spec (args := args) (first := s) (o := none) (s := s) (idx := []) (t := ev_tm k) (cls := "java/lang/String") (hin _ List.mem_cons_self)
      obtain ⟨t, ht, hT⟩ := va_Tof (s := s) (args := args) (tm := .field (ev_tm k) "java/lang/String" "value" "[B") (ty := .byte) (N := (ev_tb k).length) (f := fun j => .int ((ev_tb k).getD j 0)) (A := ev_A0 s) (ev_tl_ok k hk) (hin _ (List.mem_cons_of_mem _ (List.mem_cons_of_mem _ List.mem_cons_self))) (va_eqt (hin _ (List.mem_cons_of_mem _ (List.mem_cons_of_mem _ (List.mem_cons_of_mem _ List.mem_cons_self)))))
        (fun j hj => va_eqt (hin _ (List.mem_cons_of_mem _ (List.mem_cons_of_mem _ (List.mem_cons_of_mem _ (List.mem_cons_of_mem _ (List.mem_map.mpr ⟨j, List.mem_range.mpr hj, rfl⟩))))))) hA
      exact ⟨a, fun _ => ⟨q1, t, ⟨cC, q3, q5, by rw [q6]; exact q2, hA a (Array.getElem?_eq_some_iff.mp q3).1⟩, vk_OFof q1 (va_eqt (hin _ (List.mem_cons_of_mem _ List.mem_cons_self))) hA, vk_OFof q1 ht hA, hT⟩⟩
    · exact ⟨0, fun h => absurd h hk⟩
  obtain ⟨ak, hak⟩ := Classical.axiomOfChoice hS
  refine ⟨fun a => if a = 0 then tF else if a = 1 then tM else if a = 2 then b else ak (a - 3), rfl, ⟨?_, ?_, ?_, ?_, ?_, ?_, ?_, ?_⟩, ?_, ?_, ?_, ?_, ?_⟩
  · intro a N f ha hf
    match a, ha, hf with
    | 0, _, hf => cases hf; exact hF2
    | 1, _, hf => cases hf; exact hM2
    | 2, _, hf =>
      cases hf
      obtain ⟨scr, h1, h2, h3, h4, h5⟩ := hX
      exact ⟨scr, h1, h2, h3, by rw [h4]; exact Nat.le_refl _, by rw [h4] <;> rfl, h5, hA b hbl⟩
  · exact va_Zof (hts _ (ev_mem (show ev_w 14159 = some (Cond.laysStatic "LanternChess$Field" "VALUES" "[I") by decide +kernel))) (hi _ (by decide +kernel)) hF1 hA
  · exact va_Zof (hts _ (ev_mem (show ev_w 17205 = some (Cond.laysStatic "LanternChessModel" "VALUES" "[I") by decide +kernel))) (hi _ (by decide +kernel)) hM1 hA
  · intro k hk
    obtain ⟨-, v, h2⟩ := hak k hk
    have e1 : ¬ 3 + k = 0 := by omega
    have e2 : ¬ 3 + k = 1 := by omega
    have e3 : ¬ 3 + k = 2 := by omega
    simp only [e1, e2, e3, if_false, Nat.add_sub_cancel_left]
    exact ⟨v, h2⟩
  · exact va_Zof (hts _ (ev_mem (show ev_w 12216 = some (Cond.laysStatic "java/lang/String" "COMPACT_STRINGS" "Z") by decide +kernel))) (hi _ (by decide +kernel)) (va_eqt (hn _ (List.mem_of_getElem? (i := 2) (by decide +kernel)))) hA
  · exact va_Zqof (hts _ (ev_mem (show ev_w 12232 = some (Cond.laysStatic "jdk/internal/util/Preconditions" "SIOOBE_FORMATTER" "Ljava/util/function/BiFunction;") by decide +kernel))) (hi _ (by decide +kernel)) (hn _ (List.mem_of_getElem? (i := 3) (by decide +kernel))) hA
  · exact vx_Zqof (hts _ (ev_mem (show ev_w 13210 = some (Cond.laysStatic Bundle.tN "UNASSIGNED_STACK" Bundle.steD) by decide +kernel))) (hi _ (by decide +kernel)) (hn _ (List.mem_of_getElem? (i := 7) (by decide +kernel))) hA
  · exact vx_Zqof (hts _ (ev_mem (show ev_w 13212 = some (Cond.laysStatic Bundle.tN "SUPPRESSED_SENTINEL" Bundle.listD) by decide +kernel))) (hi _ (by decide +kernel)) (hn _ (List.mem_of_getElem? (i := 8) (by decide +kernel))) hA
  · intro e he
    obtain ⟨k, hk, rfl⟩ := ev_sr_k e he
    obtain ⟨h1, h2⟩ := ev_srr_ok k hk
    have e1 : ¬ 3 + k = 0 := by omega
    have e2 : ¬ 3 + k = 1 := by omega
    have e3 : ¬ 3 + k = 2 := by omega
    simp only [h2, e1, e2, e3, if_false, Nat.add_sub_cancel_left]
    exact vk_R.of (hts _ (ev_mem h1)) (hak k hk).1
  · intro e he
    obtain ⟨q, -, h1, h2⟩ := ev_tq_ok e he
    obtain ⟨a, c, cC, kC, q1, -⟩ := Cond.exactly_spec (args := args) (first := s) (o := none) (s := s) (idx := []) (hn _ (List.mem_of_getElem? h1))
    exact ⟨a, vk_R.of (hts _ (ev_mem h2)) q1⟩
  · intro i j hi' hj' hij
    exact va_Nc.of (hn _ (List.mem_of_getElem? (ev_np_ok i hi' j hj' hij)))
  · exact va_AO.of (hts _ (ev_mem (show ev_w 11236 = some (Cond.arrayOver (.object "LanternChess$Game")) by decide +kernel)))
  · exact fun w hw => va_Nw.of (ev_xw_t hw) (hts w (ev_xp_in hw))
end EVL
def R_law : String := "LanternChessLaw"
def lw_P (b : Addr) (xs : List Int32) (args : Array Value) (s : State) : Prop := args = #[.ref b] ∧ s.IntsAt b xs ∧ xs.length ≤ 3584 ∧ (Jvm.Cond.and given_1 narrow_1).before args s = true
/-- what a walk over the start with the record d0 says of its end, said of the start itself -/
theorem lw_closed {s t : State} {o : Outcome} {d0 : Drawn} {L : List Loc} {k n : Nat} (hd0 : s.drawn.sameBut d0 lw_cs) (hv : ∃ v, o = .returned v) (hW : (s.setDrawn d0).WarmedH t.vm) (hs : (s.setDrawn d0).sameButNew ({ t with vm := s.vm } : State) L k n) : State.butDraws s t lw_cs (fun t1 => Framed s o t1 L k n) := by
  have h2 : t.drawn = d0 := congrArg State.drawn hs.1
  refine ⟨⟨hv, hW, State.sameButNew.setDrawn hs s.drawn⟩, ?_, by decide⟩
  rw [h2]
  exact hd0
def lw_Q (_ : Array Value) (s : State) (o : Outcome) (t : State) : Prop := o = .returned (some (.int 1)) ∧ State.butDraws s t lw_cs (fun t1 => Framed s o t1 [] 601024 7293034)
def lw_Z (below : List Frame) (a : Array Value) (s : State) : State → Prop := fun t => ∃ o, t.status = .running ∧ Ended t below o ∧ lw_Q a s o t
/-- the law's own end, with 1 on the stack, nothing written that was there before, its room as the claim has it; d0: the record of draws at this point (at the entry s.drawn: begin with 'refine W.base ?_' and 'have hd0 := Drawn.sameBut.refl s.drawn lw_cs') -/
theorem lw_ret {p : Program} {l : Launch} {e : Env} {s : State} {m : MethodId} {below : List Frame} {meth : Method} {c : Code} {b : Nat} {d0 : Drawn} (hd0 : s.drawn.sameBut d0 lw_cs) (hx : p.tables.exec = Jvm.exec) (hb : c.code = code) (hr : meth.sig.returnType = ret) (hlocks : meth.locks = false) {pc : Nat} {H : Heap} {ls : Array Slot} (hdg : decode code pc = .ok (.ireturn, 1)) : W p l e room_1 (s.setDrawn d0) m #[Value.ref b] below meth c H [] 601024 7293034 (lw_Z below #[Value.ref b] s) (F0 m pc ls [.int 1]) := by
  intro T hT X
  obtain ⟨fs, hret, hrun, hended, hW, hframe⟩ := X.leave (v := some (.int 1)) (hlocks := hlocks) (fun h => by rw [hr] at h; cases h)
  have hmeth' : T.vm.method? m = some meth := X.method'
  refine ⟨T.setFrames fs, ?_, .returned (some (.int 1)), hrun, hended, rfl, lw_closed hd0 ⟨_, rfl⟩ hW hframe⟩
  jvm_step X.here [X.here.top, hx, hb, hdg, hmeth', hr, ret, narrow_b1]
  (try refine ⟨rfl, ?_⟩); (try refine ⟨rfl, ?_⟩)
  first | (intro acts; rw [hret _ acts rfl rfl rfl]) | rw [hret _ _ rfl rfl rfl]
  exact Steps.refl _
/-- what holds at the law's entry: the machine, the code, the tables' words (any of lw_tbl by 'hts w (by decide +kernel)'), the script of L ints xs at the cell b, what the Statement gives of the start (any of its parts by flat_of_before) -/
def lw_At (p : Program) (s : State) (m : MethodId) (meth : Method) (c : Code) (b L : Nat) (xs : Nat → Int32) : Prop :=
  p.tables.exec = Jvm.exec ∧ c.code = code ∧ meth.sig.returnType = ret ∧ c.maxLocals = 9 ∧ s.vm.findClass R_law = some m.cls ∧ (∀ w ∈ lw_tbl, w.before #[Value.ref b] s = true) ∧ va_X b L xs s s.heap ∧ b < s.heap.size ∧ meth.locks = false ∧ (Jvm.Cond.and given_1 narrow_1).before #[Value.ref b] s = true
theorem ev_trf {l : Launch} (hflags : l.flags = flags0) : l.stackTraces = false := by
  unfold Launch.stackTraces
  rw [hflags]
  decide +kernel
/-- what is left: the program's own answer, by the evaluator -/
def ev_law_ok : Prop := ∀ (L : Nat) (xs : Nat → Int32), L ≤ 3584 → ∃ μ' : ev_H, ev_dn 601024 7293034 348 0 (some (.ref 2) :: List.replicate 8 none) [] (20, ev_sf L xs) = some (.inl (some (.int 1)), μ')
theorem ev_law_hh : ev_ml ev_lawM = 9 ∧ ev_ci ev_lawM = 12 ∧ ev_kd ev_lawM = 0 ∧ ev_dp ev_lawM ≤ 14 ∧ ev_lc ev_lawM ≤ 524 ∧ ev_rt ev_lawM = ret ∧ ev_lawM < ev_nm ∧ ev_own 12 = R_law := by decide +kernel
theorem ev_start (hlaw : ev_law_ok) {p : Program} {e : Env} {s : State} {m : MethodId} {below : List Frame} {meth : Method} {c : Code} (l : Launch) (hflags : l.flags = flags0) {b L : Nat} {xs : Nat → Int32} (hL : L ≤ 3584) (C0 : lw_At p s m meth c b L xs) : W p l e room_1 s m #[Value.ref b] below meth c s.heap [] 0 0 (lw_Z below #[Value.ref b] s) (entryFrame m ([Value.ref b] : List Value).toArray 9) := by
  obtain ⟨hx, hb, hrt, hml, hown, hts, hX, hbl, hlk, hgv⟩ := C0
  obtain ⟨l1, l2, l3, l4, l5, l6, l7, l8⟩ := ev_law_hh
  have hn : ∀ w ∈ ev_nw1, w.before #[Value.ref b] s = true := fun w hw => flat_of_before _ hgv w (List.mem_append_right _ hw)
  obtain ⟨ad, ad2, hSH, hSU⟩ := ev_sSH hL hts hn hX hbl
  obtain ⟨D, hD⟩ := ev_kD hts
  obtain ⟨cA, hcA⟩ := ev_kA hts
  obtain ⟨μ', hd⟩ := hlaw L xs hL
  obtain ⟨n, hr⟩ := ev_dn_some.mp hd
  have hsf : ∀ a, ev_S ≤ a → ev_sf L xs a = none := fun a ha => by
    have hS : ev_S = 20 := rfl
    unfold ev_sf
    rw [if_neg (by omega), if_neg (by omega), if_neg (by omega), if_neg (by omega)]
  have hmw : ev_mw (20, ev_sf L xs) := ⟨Nat.le_refl _, fun a e h1 h2 => (by
    have h3 : ev_sf L xs a = some e := h2
    rw [hsf a h1] at h3
    cases h3), fun a h1 h2 => absurd h2 (Nat.not_lt.mpr h1)⟩
  have hI : ev_I L xs D cA (ev_A0 s) s ad (20, ev_sf L xs) s.heap [] := by
    refine ⟨hmw, fun _ _ => rfl, ⟨hD, hcA⟩, fun k q hk => ?_, ⟨fun i j p q hp => ?_, fun k q hk => ?_⟩, va_S.rf, fun q hq => hq, hSH, hSU⟩
    · exact absurd hk (by simp [ev_ws, ev_S])
    · exact absurd hp (by simp [ev_ws, ev_S])
    · exact absurd hk (by simp [ev_ws, ev_S])
  have hen : (some (.ref 2) :: List.replicate 8 none : ev_L) = ev_en ev_lawM [.ref 2] := by
    unfold ev_en
    rw [l1]
    rfl
  rw [hen] at hr
  have hal : (ev_ar [Value.ref 2]).length ≤ ev_ml ev_lawM := by rw [l1]; decide
  have hs2 : ev_sl 20 [Value.ref 2] := fun v hv a ha => by
    rw [List.mem_singleton.mp hv] at ha
    cases ha
    decide
  have hav : ([Value.ref b] : List Value) = [Value.ref 2].map (ev_v ad) := by
    show [Value.ref b] = [Value.ref (ad 2)]
    rw [ad2]
  have hlen := ev_ar_len ad [Value.ref 2]
  rw [lg_entry_eq]
  have hlr : ev_lr ad ((lg_sl ([Value.ref 2].map (ev_v ad)) ++ List.replicate (ev_ml ev_lawM - (lg_sl ([Value.ref 2].map (ev_v ad))).length) Slot.unset).toArray) (ev_en ev_lawM [.ref 2]) := by
    unfold ev_lr
    rw [ev_en_len hal]
    unfold ev_en
    rw [ev_ar_al]
    exact lv_entry _ (by rw [hlen]; exact hal)
  rw [l1, ← hav] at hlr
  have hcd : c.code = ev_cd ev_lawM := by
    rw [hb]
    unfold ev_cd
    rw [if_pos rfl]
  have hin : ev_kd ev_lawM = 2 → meth.name = "<init>" := fun h => by rw [l3] at h; cases h
  have hfg : ∀ w ∈ ev_gw, w.before #[Value.ref b] s = true := fun w hw => hts w (List.mem_filter.mp hw).1
  refine ev_all (ev_trf hflags) n p e room_1 s m #[Value.ref b] below meth c ev_lawM 601024 7293034 0 (ev_en ev_lawM [.ref 2]) [] (20, ev_sf L xs) (.inl (some (.int 1))) μ' s.heap [] 0 0 _ ad L xs D cA (ev_A0 s) (lw_Z below #[Value.ref b] s) hr l7 hx hcd (hml.trans l1.symm) (by rw [l2, l8]; exact hown) hfg hin l4 l5 (fun h => absurd rfl h) hlk hI (fun v hv => nomatch hv) (ev_ll_ar hs2 _) (ev_en_len hal) hlr (Nat.le_of_eq (Nat.zero_add _)) (Nat.le_of_eq (Nat.zero_add _)) ?_ ?_ ?_
  · intro v ad' H' locs' pc' ls' i n' st' ho hag hle hI' hrv hdg hst
    cases ho
    have hbs : ∀ q ∈ locs', s.heap.size ≤ q.base := fun q hq => hI'.2.2.2.2.2.1.2.2 q hq
    rw [l6] at hrv
    refine va_forget hbs ?_
    have key : i = .ireturn ∧ n' = 1 ∧ st' = [.int 1] := by
      unfold ev_rv at hrv
      split at hrv
      · split at hrv <;> cases hrv
      · split at hrv
        · split at hrv
          · cases hrv; exact ⟨rfl, rfl, rfl⟩
          · cases hrv
        · cases hrv
      · split at hrv <;> cases hrv
      · split at hrv <;> cases hrv
      · split at hrv <;> cases hrv
      · cases hrv
    obtain ⟨rfl, rfl, rfl⟩ := key
    exact W.base (lw_ret (Drawn.sameBut.refl s.drawn lw_cs) hx hb hrt hlk (by
      have h9 := hdg
      unfold ev_cd at h9
      rw [if_pos rfl] at h9
      exact h9))
  · intro ex ad' H' locs' cells' slots' pc' ls' ho
    cases ho
  · intro ex ad' H' locs' cells' slots' pc' ls' rest q ce ho
    cases ho
