/-! The law's own texts, its draws, the name of a kind. -/
def eb_lx (k : Nat) : Nat × String × List Nat := match k with
  | 0 => (42, "queen", [113, 117, 101, 101, 110])
  | 1 => (44, "rook", [114, 111, 111, 107])
  | 2 => (46, "bishop", [98, 105, 115, 104, 111, 112])
  | 3 => (48, "knight", [107, 110, 105, 103, 104, 116])
  | 4 => (50, "pawn", [112, 97, 119, 110])
  | 5 => (58, "game ", [103, 97, 109, 101, 32])
  | 6 => (70, ";clock ", [59, 99, 108, 111, 99, 107, 32])
  | 7 => (75, ";pause ", [59, 112, 97, 117, 115, 101, 32])
  | 8 => (77, ";wait ", [59, 119, 97, 105, 116, 32])
  | 9 => (79, ";tries ", [59, 116, 114, 105, 101, 115, 32])
  | 10 => (81, "white king 0 0;black king ", [119, 104, 105, 116, 101, 32, 107, 105, 110, 103, 32, 48, 32, 48, 59, 98, 108, 97, 99, 107, 32, 107, 105, 110, 103, 32])
  | 11 => (83, "white ", [119, 104, 105, 116, 101, 32])
  | 12 => (85, "black ", [98, 108, 97, 99, 107, 32])
  | _ => (91, "fog ", [102, 111, 103, 32])
abbrev eb_ll (k : Nat) : List Nat := (eb_lx k).2.2
def eb_fx (l : List Nat) : Nat → Int32 := fun j => nI (l.getD j 0)
theorem eb_fx_ft : ∀ k, k < 14 → eb_ft (eb_ll k).length (eb_fx (eb_ll k)) := by unfold eb_ft eb_fx; decide +kernel
/-- the law's texts and what its walk reads beside them, none of it in the world -/
def eb_X (L : Nat) (xs : Nat → Int32) (b0 : Nat) (av aw : Nat → Nat) (A : Nat → Prop) (U : State) (H : Heap) : Prop := (∀ k, k < 14 → eb_T A (eb_ll k).length (eb_fx (eb_ll k)) (av k) (aw k) U H) ∧ va_T .int b0 L (fun j => .int (xs j)) A U H ∧ eb_I A U H ∧ va_Z "java/lang/String" "COMPACT_STRINGS" "Z" (.int 1) A U H
def eb_Y (av : Nat → Nat) (U : State) : Prop := (∀ k, k < 14 → vk_R "LanternChessLaw" (eb_lx k).1 (eb_lx k).2.1 (av k) U) ∧ va_Nw (.castable "[B" "java/lang/Cloneable") U
theorem eb_X.moved {L : Nat} {xs : Nat → Int32} {b0 : Nat} {av aw : Nat → Nat} {A : Nat → Prop} {u U : State} {H : Heap} (hvm : u.vm.Alike U.vm) (h : eb_X L xs b0 av aw A u H) : eb_X L xs b0 av aw A U H := ⟨fun k hk => (h.1 k hk).moved hvm, h.2.1.moved hvm, h.2.2.1.moved hvm, h.2.2.2.moved hvm⟩
theorem eb_X.kept {L : Nat} {xs : Nat → Int32} {b0 : Nat} {av aw : Nat → Nat} {A : Nat → Prop} {U : State} {H H1 : Heap} (h : eb_X L xs b0 av aw A U H) (hq : ∀ a : Nat, a < H.size → ¬ A a → H1[a]? = H[a]?) : eb_X L xs b0 av aw A U H1 := ⟨fun k hk => (h.1 k hk).kept hq, h.2.1.kept hq, h.2.2.1.kept hq, h.2.2.2.kept hq⟩
theorem eb_X.narrow {L : Nat} {xs : Nat → Int32} {b0 : Nat} {av aw : Nat → Nat} {A B : Nat → Prop} {U : State} {H : Heap} (h : eb_X L xs b0 av aw A U H) (hAB : ∀ q, B q → A q) : eb_X L xs b0 av aw B U H := ⟨fun k hk => (h.1 k hk).narrow hAB, h.2.1.narrow hAB, h.2.2.1.narrow hAB, h.2.2.2.narrow hAB⟩
theorem eb_Y.same {av : Nat → Nat} {u U : State} (hv : U.vm = u.vm) (h : eb_Y av u) : eb_Y av U := ⟨fun k hk => (h.1 k hk).same hv, h.2.same rfl hv.symm⟩
theorem eb_Y.warm {av : Nat → Nat} {s U : State} (hW : s.WarmedH U.vm) (h : eb_Y av s) : eb_Y av U := ⟨fun k hk => (h.1 k hk).warm hW, va_Nw.warmC hW h.2⟩
theorem eb_rem {n d : Nat} (hn : n ≤ 2147483647) (hd : d ≤ 1000000) : zI (n : Nat) - zI (n : Nat) / nI d * nI d = nI (n % d) := by
  rw [show nI d = zI (d : Nat) from zI_on d, zI_rm (by omega) (by omega) (by omega) (by omega), show nI (n % d) = zI ((n % d : Nat) : Int) from zI_on _]
  exact congrArg zI (by omega)
abbrev ye_cell : MethodName := ⟨"LanternChessLaw", "cell", "([II)I"⟩
set_option maxHeartbeats 4000000 in
set_option maxRecDepth 100000 in
theorem eb_cell (l : Launch) (D : va_G) (L : Nat) (xs : Nat → Int32) (b0 : Nat) (hL : L ≤ 2000000) (j : Nat) (hj : j ≤ 1000000) : Met l ye_cell (Cond.code ye_cell method_2_code 2 (some (.int)) :: eb_gw) ({ frames := 0, cells := 0, slots := 0, locals := 0 }) (ev_jP [.ref b0, .int (nI j)] (fun U H => va_T .int b0 L (fun j => .int (xs j)) (fun _ => False) U H)) (va_Qi (fun (_ : Int32) (_ : Unit) => True) (fun _ _ => True) (fun _ => False)) 0 0 (fun _ => False) := by
  refine Met.ofW (cc := method_2_code) (maxL := 2) (ret := (some (.int))) (by decide) rfl ?_
  intro p e s m args below meth c s₁ B hml hv
  obtain ⟨rfl, hF⟩ := hv
  have hx := B.exec
  have hb := B.bytes
  have hr := B.returns
  have hts0 := atoms_spec (ws := Cond.code ye_cell method_2_code 2 (some (.int)) :: eb_gw) B.pre
  have hts : ∀ w ∈ eb_gw, w.before _ s = true := fun w hw => hts0 w (List.mem_cons_of_mem _ hw)
  have hown : s.vm.findClass "LanternChessLaw" = some m.cls := findClass_of_methodNamed B.named
  have hlocks := B.notSynchronized
  have hS : va_S (fun _ => False) s.heap s.heap [] := va_S.rf
  have hl := lv_entry ([.ref b0, .int (nI j)]) (n := 2) (Nat.le_of_ble_eq_true rfl)
  rw [lg_entry_eq]
  generalize (lg_sl ([.ref b0, .int (nI j)]) ++ List.replicate (2 - (lg_sl ([.ref b0, .int (nI j)])).length) Slot.unset).toArray = ls at hl ⊢
  have hl : lv_has ls 2 [(0, .ref b0), (1, .int (nI j))] := hl
  have d0 : decode method_2_code 0 = .ok (.iload_n 1, 1) := by decide +kernel
  have d1 : decode method_2_code 1 = .ok (.aload_n 0, 1) := by decide +kernel
  have d2 : decode method_2_code 2 = .ok (.arraylength, 1) := by decide +kernel
  have d3 : decode method_2_code 3 = .ok (.if_icmp .ge (9), 3) := by decide +kernel
  have d6 : decode method_2_code 6 = .ok (.aload_n 0, 1) := by decide +kernel
  have d7 : decode method_2_code 7 = .ok (.iload_n 1, 1) := by decide +kernel
  have d8 : decode method_2_code 8 = .ok (.iaload, 1) := by decide +kernel
  have d9 : decode method_2_code 9 = .ok (.goto (11), 3) := by decide +kernel
  have d12 : decode method_2_code 12 = .ok (.sipush (8191), 3) := by decide +kernel
  have d15 : decode method_2_code 15 = .ok (.iload_n 1, 1) := by decide +kernel
  have d16 : decode method_2_code 16 = .ok (.imul, 1) := by decide +kernel
  have d17 : decode method_2_code 17 = .ok (.ldc 7, 2) := by decide +kernel
  have d19 : decode method_2_code 19 = .ok (.iadd, 1) := by decide +kernel
  have d20 : decode method_2_code 20 = .ok (.ireturn, 1) := by decide +kernel
  refine lv_iload_n hx hb d0 rfl (lv_at hl 1 rfl) ?_
  refine lv_aload_n hx hb d1 rfl (lv_at hl 0 rfl) ?_
  refine va_tlen hx hb hF hS (v := nI L) rfl d2 ?_
  by_cases q : L ≤ j
  · refine lv_icmp_ge (tgt := 12) hx hb d3 (by decide) (fun _ => ?_) (fun z => absurd (nI_le q (by omega)) z)
    refine lv_sipush (v := 8191) hx hb d12 (by decide) ?_
    refine lv_iload_n hx hb d15 rfl (lv_at hl 1 rfl) ?_
    refine lv_imul hx hb d16 ?_
    refine lv_ldc (v := 131071) hx hb hown (hts _ (eb_m (ev_gm (p := 13199) (by decide +kernel) rfl))) d17 ?_
    refine lv_iadd hx hb d19 ?_
    exact W.iret hx hb hr (fun t ht hW => ⟨⟨_, (), rfl, trivial, trivial⟩, hS.F ht⟩) hS.2.2 d20
  · refine lv_icmp_ge (tgt := 12) hx hb d3 (by decide) (fun z => absurd z (nI_ge (by omega) (by omega))) (fun _ => ?_)
    refine lv_aload_n hx hb d6 rfl (lv_at hl 0 rfl) ?_
    refine lv_iload_n hx hb d7 rfl (lv_at hl 1 rfl) ?_
    refine va_ti hx hb hF hS (vp_in_nI (by omega) (by omega)) rfl d8 ?_
    refine lv_goto (tgt := 20) hx hb d9 (by decide) ?_
    exact W.iret hx hb hr (fun t ht hW => ⟨⟨_, (), rfl, trivial, trivial⟩, hS.F ht⟩) hS.2.2 d20
abbrev ye_draw : MethodName := ⟨"LanternChessLaw", "draw", "([IIII)I"⟩
set_option maxHeartbeats 4000000 in
set_option maxRecDepth 100000 in
theorem eb_draw (l : Launch) (D : va_G) (L : Nat) (xs : Nat → Int32) (b0 : Nat) (hL : L ≤ 2000000) (j lo hi : Nat) (hj : j ≤ 1000000) (h1 : lo ≤ hi) (h2 : hi ≤ 10000) : Met l ye_draw (Cond.code ye_draw method_3_code 4 (some (.int)) :: eb_gw) ({ frames := 1, cells := 0, slots := 0, locals := 24 }) (ev_jP [.ref b0, .int (nI j), .int (nI lo), .int (nI hi)] (fun U H => va_T .int b0 L (fun j => .int (xs j)) (fun _ => False) U H)) (va_Qi (fun (r : Int32) (v : Nat) => lo ≤ v ∧ v ≤ hi ∧ r = nI v) (fun _ _ => True) (fun _ => False)) 0 0 (fun _ => False) := by
  refine Met.ofW (cc := method_3_code) (maxL := 4) (ret := (some (.int))) (by decide) rfl ?_
  intro p e s m args below meth c s₁ B hml hv
  obtain ⟨rfl, hF⟩ := hv
  have hx := B.exec
  have hb := B.bytes
  have hr := B.returns
  have hts0 := atoms_spec (ws := Cond.code ye_draw method_3_code 4 (some (.int)) :: eb_gw) B.pre
  have hts : ∀ w ∈ eb_gw, w.before _ s = true := fun w hw => hts0 w (List.mem_cons_of_mem _ hw)
  have hown : s.vm.findClass "LanternChessLaw" = some m.cls := findClass_of_methodNamed B.named
  have hlocks := B.notSynchronized
  have hS : va_S (fun _ => False) s.heap s.heap [] := va_S.rf
  have hl := lv_entry ([.ref b0, .int (nI j), .int (nI lo), .int (nI hi)]) (n := 4) (Nat.le_of_ble_eq_true rfl)
  rw [lg_entry_eq]
  generalize (lg_sl ([.ref b0, .int (nI j), .int (nI lo), .int (nI hi)]) ++ List.replicate (4 - (lg_sl ([.ref b0, .int (nI j), .int (nI lo), .int (nI hi)])).length) Slot.unset).toArray = ls at hl ⊢
  have hl : lv_has ls 4 [(0, .ref b0), (1, .int (nI j)), (2, .int (nI lo)), (3, .int (nI hi))] := hl
  have d0 : decode method_3_code 0 = .ok (.iload_n 2, 1) := by decide +kernel
  have d1 : decode method_3_code 1 = .ok (.aload_n 0, 1) := by decide +kernel
  have d2 : decode method_3_code 2 = .ok (.iload_n 1, 1) := by decide +kernel
  have d3 : decode method_3_code 3 = .ok (.invokestatic 8, 3) := by decide +kernel
  have d6 : decode method_3_code 6 = .ok (.ldc 14, 2) := by decide +kernel
  have d8 : decode method_3_code 8 = .ok (.iand, 1) := by decide +kernel
  have d9 : decode method_3_code 9 = .ok (.iload_n 3, 1) := by decide +kernel
  have d10 : decode method_3_code 10 = .ok (.iload_n 2, 1) := by decide +kernel
  have d11 : decode method_3_code 11 = .ok (.isub, 1) := by decide +kernel
  have d12 : decode method_3_code 12 = .ok (.iconst 1, 1) := by decide +kernel
  have d13 : decode method_3_code 13 = .ok (.iadd, 1) := by decide +kernel
  have d14 : decode method_3_code 14 = .ok (.irem, 1) := by decide +kernel
  have d15 : decode method_3_code 15 = .ok (.iadd, 1) := by decide +kernel
  have d16 : decode method_3_code 16 = .ok (.ireturn, 1) := by decide +kernel
  refine lv_iload_n hx hb d0 rfl (lv_at hl 2 rfl) ?_
  refine lv_aload_n hx hb d1 rfl (lv_at hl 0 rfl) ?_
  refine lv_iload_n hx hb d2 rfl (lv_at hl 1 rfl) ?_
  refine va_calli (va_runS (As := [.ref b0, .int (nI j)]) (rest := [.int (nI lo)]) ⟨hx, hb, hml, hown, hts⟩ (eb_cell l D L xs b0 hL j hj) (va_cwS 2 hts (eb_gS eb_ok1 (eb_m (ev_gm (p := 13196) (by decide +kernel) rfl)) (eb_m (ev_gm (p := 13197) (by decide +kernel) rfl)) (eb_m (ev_ginit (by decide +kernel) rfl)) (eb_m (ev_gm (p := 13198) (by decide +kernel) rfl))) rfl rfl rfl (by decide +kernel) ⟨Nat.le_of_ble_eq_true rfl, Nat.le_of_ble_eq_true rfl⟩) ⟨fun a U g mk q => ⟨q.1, va_T.moved (u := U) (U := U.calling g mk a) (Vm.Alike.refl U.vm) q.2⟩, fun U hU hW => ⟨rfl, by show va_T _ _ _ _ _ U U.heap; rw [hU]; exact hF.moved hW.alike⟩⟩ rfl rfl hl.1 rfl (lv_room (Nat.le_of_ble_eq_true rfl)) d3 ⟨Nat.le_of_ble_eq_true rfl, Nat.le_of_ble_eq_true rfl⟩) hS (fun q _ h => h.elim) (fun q h => h.elim) (fun r u t H1 locs1 ht hvm hw hB hz1 hk1 hS => ?_)
  refine lv_ldc (v := 2147483647) hx hb hown (hts _ (eb_m (ev_gm (p := 13200) (by decide +kernel) rfl))) d6 ?_
  refine lv_iand hx hb d8 ?_
  obtain ⟨n, hn, en⟩ := and_m r
  refine lv_topi (fun y ey => ?_); obtain rfl : y = zI (n : Nat) := ey.trans (en)
  refine lv_iload_n hx hb d9 rfl (lv_at hl 3 rfl) ?_
  refine lv_iload_n hx hb d10 rfl (lv_at hl 2 rfl) ?_
  refine lv_isub hx hb d11 ?_
  refine lv_topi (fun y ey => ?_); obtain rfl : y = nI (hi - lo) := ey.trans (pk_sub h1)
  refine lv_iconst (v := nI 1) hx hb d12 (by decide) ?_
  refine lv_iadd hx hb d13 ?_
  refine lv_topi (fun y ey => ?_); obtain rfl : y = nI (hi - lo + 1) := ey.trans (nI_add _ 1)
  refine lv_irem hx hb d14 (fun z => absurd ((nI_eq (a := hi - lo + 1) (b := 0) (by omega) (by omega)).mp z) (by omega)) ?_
  refine lv_topi (fun y ey => ?_); obtain rfl : y = nI (n % (hi - lo + 1)) := ey.trans (eb_rem hn (by omega))
  refine lv_iadd hx hb d15 ?_
  refine lv_topi (fun y ey => ?_); obtain rfl : y = nI (lo + n % (hi - lo + 1)) := ey.trans (nI_add _ _)
  have ml : n % (hi - lo + 1) < hi - lo + 1 := Nat.mod_lt _ (by omega)
  exact W.iret hx hb hr (fun t ht hW => ⟨⟨_, lo + n % (hi - lo + 1), rfl, ⟨by omega, by omega, rfl⟩, trivial⟩, hS.F ht⟩) hS.2.2 d16
abbrev ye_kind : MethodName := ⟨"LanternChessLaw", "kind", "(I)Ljava/lang/String;"⟩
set_option maxHeartbeats 4000000 in
set_option maxRecDepth 100000 in
theorem eb_kind (l : Launch) (D : va_G) (av : Nat → Nat) (κ : Nat) (hκ : κ ≤ 4) : Met l ye_kind (Cond.code ye_kind method_6_code 1 (some ((Jvm.ClassFile.FieldType.object "java/lang/String"))) :: eb_gw) ({ frames := 0, cells := 0, slots := 0, locals := 0 }) (ev_jP [.int (nI κ)] (fun U H => eb_Y av U)) (va_Qr (fun (_ : Unit) => True) (fun _ q _ => q = av κ) (fun _ => False)) 0 0 (fun _ => False) := by
  refine Met.ofW (cc := method_6_code) (maxL := 1) (ret := (some ((Jvm.ClassFile.FieldType.object "java/lang/String")))) (by decide) rfl ?_
  intro p e s m args below meth c s₁ B hml hv
  obtain ⟨rfl, hF⟩ := hv
  have hx := B.exec
  have hb := B.bytes
  have hr := B.returns
  have hts0 := atoms_spec (ws := Cond.code ye_kind method_6_code 1 (some ((Jvm.ClassFile.FieldType.object "java/lang/String"))) :: eb_gw) B.pre
  have hts : ∀ w ∈ eb_gw, w.before _ s = true := fun w hw => hts0 w (List.mem_cons_of_mem _ hw)
  have hown : s.vm.findClass "LanternChessLaw" = some m.cls := findClass_of_methodNamed B.named
  have hlocks := B.notSynchronized
  have hS : va_S (fun _ => False) s.heap s.heap [] := va_S.rf
  have hl := lv_entry ([.int (nI κ)]) (n := 1) (Nat.le_of_ble_eq_true rfl)
  rw [lg_entry_eq]
  generalize (lg_sl ([.int (nI κ)]) ++ List.replicate (1 - (lg_sl ([.int (nI κ)])).length) Slot.unset).toArray = ls at hl ⊢
  have hl : lv_has ls 1 [(0, .int (nI κ))] := hl
  have d0 : decode method_6_code 0 = .ok (.iload_n 0, 1) := by decide +kernel
  have d1 : decode method_6_code 1 = .ok (.tableswitch (43) (0) (3) #[(31), (34), (37), (40)], 31) := by decide +kernel
  have d32 : decode method_6_code 32 = .ok (.ldc 42, 2) := by decide +kernel
  have d34 : decode method_6_code 34 = .ok (.areturn, 1) := by decide +kernel
  have d35 : decode method_6_code 35 = .ok (.ldc 44, 2) := by decide +kernel
  have d37 : decode method_6_code 37 = .ok (.areturn, 1) := by decide +kernel
  have d38 : decode method_6_code 38 = .ok (.ldc 46, 2) := by decide +kernel
  have d40 : decode method_6_code 40 = .ok (.areturn, 1) := by decide +kernel
  have d41 : decode method_6_code 41 = .ok (.ldc 48, 2) := by decide +kernel
  have d43 : decode method_6_code 43 = .ok (.areturn, 1) := by decide +kernel
  have d44 : decode method_6_code 44 = .ok (.ldc 50, 2) := by decide +kernel
  have d46 : decode method_6_code 46 = .ok (.areturn, 1) := by decide +kernel
  obtain ⟨hY, -⟩ := hF
  refine lv_iload_n hx hb d0 rfl (lv_at hl 0 rfl) ?_
  rcases (show κ = 0 ∨ κ = 1 ∨ κ = 2 ∨ κ = 3 ∨ κ = 4 by omega) with rfl | rfl | rfl | rfl | rfl
  · refine lv_tableIn (off := 31) (tgt := 32) hx hb d1 (by decide) (by decide) (by decide +kernel) (by decide) ?_
    refine va_ldcS hx hb hown (hY 0 (by decide)) d32 ?_
    exact W.aret hx hb hr (.inl ⟨_, rfl⟩) (.inr ⟨_, rfl⟩) (fun t ht hW => ⟨⟨(), _, rfl, trivial, rfl⟩, hS.F ht⟩) hS.2.2 d34
  · refine lv_tableIn (off := 34) (tgt := 35) hx hb d1 (by decide) (by decide) (by decide +kernel) (by decide) ?_
    refine va_ldcS hx hb hown (hY 1 (by decide)) d35 ?_
    exact W.aret hx hb hr (.inl ⟨_, rfl⟩) (.inr ⟨_, rfl⟩) (fun t ht hW => ⟨⟨(), _, rfl, trivial, rfl⟩, hS.F ht⟩) hS.2.2 d37
  · refine lv_tableIn (off := 37) (tgt := 38) hx hb d1 (by decide) (by decide) (by decide +kernel) (by decide) ?_
    refine va_ldcS hx hb hown (hY 2 (by decide)) d38 ?_
    exact W.aret hx hb hr (.inl ⟨_, rfl⟩) (.inr ⟨_, rfl⟩) (fun t ht hW => ⟨⟨(), _, rfl, trivial, rfl⟩, hS.F ht⟩) hS.2.2 d40
  · refine lv_tableIn (off := 40) (tgt := 41) hx hb d1 (by decide) (by decide) (by decide +kernel) (by decide) ?_
    refine va_ldcS hx hb hown (hY 3 (by decide)) d41 ?_
    exact W.aret hx hb hr (.inl ⟨_, rfl⟩) (.inr ⟨_, rfl⟩) (fun t ht hW => ⟨⟨(), _, rfl, trivial, rfl⟩, hS.F ht⟩) hS.2.2 d43
  · refine lv_tableOut (tgt := 44) hx hb d1 (by decide) (by decide) ?_
    refine va_ldcS hx hb hown (hY 4 (by decide)) d44 ?_
    exact W.aret hx hb hr (.inl ⟨_, rfl⟩) (.inr ⟨_, rfl⟩) (fun t ht hW => ⟨⟨(), _, rfl, trivial, rfl⟩, hS.F ht⟩) hS.2.2 d46
