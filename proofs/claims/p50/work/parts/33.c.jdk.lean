abbrev ye_inflateIf : MethodName := ⟨"java/lang/AbstractStringBuilder", "inflateIfNeededFor", "(Ljava/lang/String;)V"⟩
set_option maxHeartbeats 4000000 in
set_option maxRecDepth 100000 in
theorem eb_inflateIf (l : Launch) (D : va_G) (b v : Nat) (cB : ClassId) (M : Nat) (f : Nat → Int32) (ml : Int32) (n : Nat) (N : Nat) (fx : Nat → Int32) (a w : Nat) : Met l ye_inflateIf (Cond.code ye_inflateIf prog_15_method_71_code 2 none :: eb_gw) ({ frames := 1, cells := 0, slots := 0, locals := 24 }) (ev_jP [.ref b, .ref a] (fun U H => va_K D eb_cl [(cB, .byte)] U ∧ va_P D eb_cl (eb_W b v cB M f ml n) H ∧ eb_T (fun _ => False) N fx a w U H)) (ev_jV) 0 0 (fun _ => False) := by
  refine Met.ofW (cc := prog_15_method_71_code) (maxL := 2) (ret := none) (by decide) rfl ?_
  intro p e s m args below meth c s₁ B hml hv
  obtain ⟨rfl, hF⟩ := hv
  have hx := B.exec
  have hb := B.bytes
  have hr := B.returns
  have hts0 := atoms_spec (ws := Cond.code ye_inflateIf prog_15_method_71_code 2 none :: eb_gw) B.pre
  have hts : ∀ w ∈ eb_gw, w.before _ s = true := fun w hw => hts0 w (List.mem_cons_of_mem _ hw)
  have hown : s.vm.findClass "java/lang/AbstractStringBuilder" = some m.cls := findClass_of_methodNamed B.named
  have hlocks := B.notSynchronized
  have hS : va_S (fun _ => False) s.heap s.heap [] := va_S.rf
  have hl := lv_entry ([.ref b, .ref a]) (n := 2) (Nat.le_of_ble_eq_true rfl)
  rw [lg_entry_eq]
  generalize (lg_sl ([.ref b, .ref a]) ++ List.replicate (2 - (lg_sl ([.ref b, .ref a])).length) Slot.unset).toArray = ls at hl ⊢
  have hl : lv_has ls 2 [(0, .ref b), (1, .ref a)] := hl
  have d0 : decode prog_15_method_71_code 0 = .ok (.getstatic 18, 3) := by decide +kernel
  have d3 : decode prog_15_method_71_code 3 = .ok (.ifCond .eq (18), 3) := by decide +kernel
  have d6 : decode prog_15_method_71_code 6 = .ok (.aload_n 0, 1) := by decide +kernel
  have d7 : decode prog_15_method_71_code 7 = .ok (.getfield 22, 3) := by decide +kernel
  have d10 : decode prog_15_method_71_code 10 = .ok (.aload_n 1, 1) := by decide +kernel
  have d11 : decode prog_15_method_71_code 11 = .ok (.invokevirtual 40, 3) := by decide +kernel
  have d14 : decode prog_15_method_71_code 14 = .ok (.if_icmp .eq (7), 3) := by decide +kernel
  have d21 : decode prog_15_method_71_code 21 = .ok (.return_, 1) := by decide +kernel
  obtain ⟨hK, hP, hT⟩ := hF
  have hZ := hT.2.2.2.2.1
  refine va_gets hx hb hZ hS hown (hts _ (eb_m (ev_gm (p := 14213) (by decide +kernel) rfl))) (fun _ h9 => h9) d0 ?_
  refine lv_if_eq (tgt := 21) hx hb d3 (by decide) (fun z => absurd z (by decide)) (fun _ => ?_)
  refine lv_aload_n hx hb d6 rfl (lv_at hl 0 rfl) ?_
  refine va_get (D := D) (ci := 0) (v := .int 0) (C := "java/lang/StringBuilder") (T := eb_F) (N := 4) hx hb hts eb_sw hown hK hP 0 rfl rfl 1 (by decide) (hts _ (eb_m (ev_gm (p := 15023) (by decide +kernel) rfl))) (fun _ h9 => h9) rfl d7 ?_
  refine lv_aload_n hx hb d10 rfl (lv_at hl 1 rfl) ?_
  refine va_calli (va_runV (As := []) (rest := [.int 0]) ⟨hx, hb, hml, hown, hts⟩ (ej_coder l N fx a w) (cwV 0 hts (eb_gV eb_ok2 (eb_m (ev_gm (p := 14153) (by decide +kernel) rfl)) (eb_m (ev_gm (p := 13212) (by decide +kernel) rfl)) (eb_m (ev_gm (p := 13213) (by decide +kernel) rfl)) (eb_m (ev_ginit (by decide +kernel) rfl)) (eb_m (ev_gm (p := 13214) (by decide +kernel) rfl))) rfl rfl rfl (by decide +kernel) ⟨Nat.le_of_ble_eq_true rfl, Nat.le_of_ble_eq_true rfl⟩) ⟨fun a U g mk q => ⟨q.1, ev_Js.moved (Vm.Alike.refl U.vm) q.2⟩, va_Orecv hT.1 hS, fun U hU hW => ⟨rfl, by show ev_Js N fx _ w U U.heap; rw [hU]; exact (hT.kept hS.2.1).js.moved hW.alike⟩⟩ rfl rfl hl.1 rfl (lv_room (Nat.le_of_ble_eq_true rfl)) d11 ⟨Nat.zero_le _, Nat.zero_le _⟩) hS (fun q _ h => h.elim) (fun q h => h.elim) (fun r u t H1 locs1 ht hvm hw hB hz1 hk1 hS => ?_)
  have hw : r = 0 := hw
  subst hw
  have hP := eb_keep hP hk1
  refine lv_icmp_eq (tgt := 21) hx hb d14 (by decide) (fun _ => ?_) (fun z => absurd rfl z)
  exact W.vret hx hb hr (fun t ht hW => ⟨⟨(), rfl, trivial, trivial⟩, hS.F ht⟩) hS.2.2 d21
abbrev ye_getBytes : MethodName := ⟨"java/lang/String", "getBytes", "([BIB)V"⟩
set_option maxHeartbeats 4000000 in
set_option maxRecDepth 100000 in
theorem eb_getBytes (l : Launch) (D : va_G) (sz : Nat) (v : Nat) (cB : ClassId) (M : Nat) (f : Nat → Int32) (N : Nat) (fx : Nat → Int32) (a w : Nat) (n : Nat) (hn : n + N ≤ M) (hM : M ≤ 1300) : Met l ye_getBytes (Cond.code ye_getBytes prog_28_method_147_code 4 none :: eb_gw) ({ frames := 1, cells := 0, slots := 0, locals := 64 }) (va_Pc [.ref a, .ref v, .int (nI n), .int 0] (fun U => U.heap.size = sz ∧ va_P D eb_cl [(v, .inl (cB, M, .inl f))] U.heap ∧ va_K D eb_cl [(cB, .byte)] U ∧ va_D (fun _ => True) [(v, .inl (cB, M, .inl f))] ∧ eb_T (va_A [(v, .inl (cB, M, .inl f))] sz) N fx a w U U.heap ∧ eb_ft N fx)) (va_Qv (fun (_ : Unit) => True) (fun _ t => va_P D eb_cl [(v, .inl (cB, M, .inl (va_cpy fx f 0 n N)))] t.heap ∧ va_K D eb_cl [(cB, .byte)] t ∧ va_D (va_A [(v, .inl (cB, M, .inl f))] sz) [(v, .inl (cB, M, .inl (va_cpy fx f 0 n N)))]) (va_A [(v, .inl (cB, M, .inl f))] sz)) 0 0 (va_A [(v, .inl (cB, M, .inl f))] sz) := by
  refine Met.ofW (cc := prog_28_method_147_code) (maxL := 4) (ret := none) (by decide) rfl ?_
  intro p e s m args below meth c s₁ B hml hv
  obtain ⟨rfl, hsz, hP, hK, hD0, hF⟩ := hv
  have hx := B.exec
  have hb := B.bytes
  have hr := B.returns
  have hts0 := atoms_spec (ws := Cond.code ye_getBytes prog_28_method_147_code 4 none :: eb_gw) B.pre
  have hts : ∀ w ∈ eb_gw, w.before _ s = true := fun w hw => hts0 w (List.mem_cons_of_mem _ hw)
  have hown : s.vm.findClass "java/lang/String" = some m.cls := findClass_of_methodNamed B.named
  have hlocks := B.notSynchronized
  subst hsz
  have hD := hD0.self (sz := s.heap.size)
  generalize hAe : va_A [(v, .inl (cB, M, .inl f))] s.heap.size = A at hD hF ⊢
  have hA : ∀ q : Nat, s.heap.size ≤ q → A q := fun q h => by rw [← hAe]; exact Or.inr h
  have hS : va_S A s.heap s.heap [] := va_S.rf
  have hl := lv_entry ([.ref a, .ref v, .int (nI n), .int 0]) (n := 4) (Nat.le_of_ble_eq_true rfl)
  rw [lg_entry_eq]
  generalize (lg_sl ([.ref a, .ref v, .int (nI n), .int 0]) ++ List.replicate (4 - (lg_sl ([.ref a, .ref v, .int (nI n), .int 0])).length) Slot.unset).toArray = ls at hl ⊢
  have hl : lv_has ls 4 [(0, .ref a), (1, .ref v), (2, .int (nI n)), (3, .int 0)] := hl
  have d0 : decode prog_28_method_147_code 0 = .ok (.aload_n 0, 1) := by decide +kernel
  have d1 : decode prog_28_method_147_code 1 = .ok (.invokevirtual 335, 3) := by decide +kernel
  have d4 : decode prog_28_method_147_code 4 = .ok (.iload_n 3, 1) := by decide +kernel
  have d5 : decode prog_28_method_147_code 5 = .ok (.if_icmp .ne (23), 3) := by decide +kernel
  have d8 : decode prog_28_method_147_code 8 = .ok (.aload_n 0, 1) := by decide +kernel
  have d9 : decode prog_28_method_147_code 9 = .ok (.getfield 9, 3) := by decide +kernel
  have d12 : decode prog_28_method_147_code 12 = .ok (.iconst 0, 1) := by decide +kernel
  have d13 : decode prog_28_method_147_code 13 = .ok (.aload_n 1, 1) := by decide +kernel
  have d14 : decode prog_28_method_147_code 14 = .ok (.iload_n 2, 1) := by decide +kernel
  have d15 : decode prog_28_method_147_code 15 = .ok (.iload_n 3, 1) := by decide +kernel
  have d16 : decode prog_28_method_147_code 16 = .ok (.ishl, 1) := by decide +kernel
  have d17 : decode prog_28_method_147_code 17 = .ok (.aload_n 0, 1) := by decide +kernel
  have d18 : decode prog_28_method_147_code 18 = .ok (.getfield 9, 3) := by decide +kernel
  have d21 : decode prog_28_method_147_code 21 = .ok (.arraylength, 1) := by decide +kernel
  have d22 : decode prog_28_method_147_code 22 = .ok (.invokestatic 212, 3) := by decide +kernel
  have d25 : decode prog_28_method_147_code 25 = .ok (.goto (18), 3) := by decide +kernel
  have d43 : decode prog_28_method_147_code 43 = .ok (.return_, 1) := by decide +kernel
  obtain ⟨hT, hft⟩ := hF
  refine lv_aload_n hx hb d0 rfl (lv_at hl 0 rfl) ?_
  refine va_calli (va_runV (As := []) (rest := []) ⟨hx, hb, hml, hown, hts⟩ (ej_coder l N fx a w) (cwV 0 hts (eb_gV eb_ok2 (eb_m (ev_gm (p := 13211) (by decide +kernel) rfl)) (eb_m (ev_gm (p := 13212) (by decide +kernel) rfl)) (eb_m (ev_gm (p := 13213) (by decide +kernel) rfl)) (eb_m (ev_ginit (by decide +kernel) rfl)) (eb_m (ev_gm (p := 13214) (by decide +kernel) rfl))) rfl rfl rfl (by decide +kernel) ⟨Nat.le_of_ble_eq_true rfl, Nat.le_of_ble_eq_true rfl⟩) ⟨fun a U g mk q => ⟨q.1, ev_Js.moved (Vm.Alike.refl U.vm) q.2⟩, va_Orecv hT.1 hS, fun U hU hW => ⟨rfl, by show ev_Js N fx _ w U U.heap; rw [hU]; exact (hT.kept hS.2.1).js.moved hW.alike⟩⟩ rfl rfl hl.1 rfl (lv_room (Nat.le_of_ble_eq_true rfl)) d1 ⟨Nat.zero_le _, Nat.zero_le _⟩) hS (fun q _ h => h.elim) (fun q h => h.elim) (fun r u t H1 locs1 ht hvm hw hB hz1 hk1 hS => ?_)
  have hw : r = 0 := hw
  subst hw
  have hP := eb_keep hP hk1
  refine lv_iload_n hx hb d4 rfl (lv_at hl 3 rfl) ?_
  refine lv_icmp_ne (tgt := 28) hx hb d5 (by decide) (fun z => absurd rfl z) (fun _ => ?_)
  refine lv_aload_n hx hb d8 rfl (lv_at hl 0 rfl) ?_
  refine vk_getf hx hb hT.2.2.1 hS hown (hts _ (eb_m (ev_gm (p := 15136) (by decide +kernel) rfl))) (fun _ h9 => h9) d9 ?_
  refine lv_iconst (v := nI 0) hx hb d12 (by decide) ?_
  refine lv_aload_n hx hb d13 rfl (lv_at hl 1 rfl) ?_
  refine lv_iload_n hx hb d14 rfl (lv_at hl 2 rfl) ?_
  refine lv_iload_n hx hb d15 rfl (lv_at hl 3 rfl) ?_
  refine lv_ishl hx hb d16 ?_
  refine lv_topi (fun y ey => ?_); obtain rfl : y = nI n := ey.trans (sb_shl0 _)
  refine lv_aload_n hx hb d17 rfl (lv_at hl 0 rfl) ?_
  refine vk_getf hx hb hT.2.2.1 hS hown (hts _ (eb_m (ev_gm (p := 15136) (by decide +kernel) rfl))) (fun _ h9 => h9) d18 ?_
  refine va_tlen hx hb hT.2.2.2.1 hS (v := nI N) rfl d21 ?_
  have e0 : (nI 0).toNatClampNeg = 0 := nI_clamp (by decide)
  have eN : (nI N).toNatClampNeg = N := nI_clamp (by omega)
  have en : (nI n).toNatClampNeg = n := nI_clamp (by omega)
  refine vk_copyt hx hb (hml.trans hl.1.symm) hown (hts _ (eb_m (ev_gm (p := 15020) (by decide +kernel) rfl))) (hts _ (eb_m (ev_gm (p := 13123) (by decide +kernel) rfl))) (hts _ (eb_m (ev_gm (p := 13122) (by decide +kernel) rfl))) (hts _ (eb_m (ev_ginit (by decide +kernel) rfl))) hK hP hD hS hT.2.2.2.1 0 0 rfl rfl (nI_pos (by decide)) (nI_pos (by omega)) (nI_pos (by omega)) (by rw [e0, eN]; omega) (by rw [en, eN]; omega) (by rw [e0, eN]; intro i hi; rw [Nat.zero_add]; exact hft i hi) (Nat.le_of_ble_eq_true rfl) (Nat.le_of_ble_eq_true rfl) d22 (fun H1 locs1 hP hD hS => ?_)
  rw [e0, en, eN] at hP hD
  have hP : va_P D eb_cl [(v, .inl (cB, M, .inl (va_cpy fx f 0 n N)))] H1 := hP
  have hD : va_D A [(v, .inl (cB, M, .inl (va_cpy fx f 0 n N)))] := hD
  refine lv_goto (tgt := 43) hx hb d25 (by decide) ?_
  exact W.vret hx hb hr (fun t ht hW => ⟨⟨(), rfl, trivial, by rw [ht]; exact hP, va_K.moved hW.alike hK, hD⟩, hS.F ht⟩) hS.2.2 d43
abbrev ye_putStringAt : MethodName := ⟨"java/lang/AbstractStringBuilder", "putStringAt", "(ILjava/lang/String;)V"⟩
set_option maxHeartbeats 4000000 in
set_option maxRecDepth 100000 in
theorem eb_putStringAt (l : Launch) (D : va_G) (sz : Nat) (b v : Nat) (cB : ClassId) (M : Nat) (f : Nat → Int32) (ml : Int32) (n : Nat) (N : Nat) (fx : Nat → Int32) (a w : Nat) (hn : n + N ≤ M) (hM : M ≤ 1300) : Met l ye_putStringAt (Cond.code ye_putStringAt prog_15_method_73_code 3 none :: eb_gw) ({ frames := 2, cells := 0, slots := 0, locals := 90 }) (va_Pc [.ref b, .int (nI n), .ref a] (fun U => U.heap.size = sz ∧ va_P D eb_cl (eb_W b v cB M f ml n) U.heap ∧ va_K D eb_cl [(cB, .byte)] U ∧ va_D (fun _ => True) (eb_W b v cB M f ml n) ∧ eb_T (va_A (eb_W b v cB M f ml n) sz) N fx a w U U.heap ∧ eb_ft N fx)) (va_Qv (fun (_ : Unit) => True) (fun _ t => eb_B D (va_A (eb_W b v cB M f ml n) sz) b ml n (v, cB, M, va_cpy fx f 0 n N) t) (va_A (eb_W b v cB M f ml n) sz)) 0 0 (va_A (eb_W b v cB M f ml n) sz) := by
  refine Met.ofW (cc := prog_15_method_73_code) (maxL := 3) (ret := none) (by decide) rfl ?_
  intro p e s m args below meth c s₁ B hml hv
  obtain ⟨rfl, hsz, hP, hK, hD0, hF⟩ := hv
  have hx := B.exec
  have hb := B.bytes
  have hr := B.returns
  have hts0 := atoms_spec (ws := Cond.code ye_putStringAt prog_15_method_73_code 3 none :: eb_gw) B.pre
  have hts : ∀ w ∈ eb_gw, w.before _ s = true := fun w hw => hts0 w (List.mem_cons_of_mem _ hw)
  have hown : s.vm.findClass "java/lang/AbstractStringBuilder" = some m.cls := findClass_of_methodNamed B.named
  have hlocks := B.notSynchronized
  subst hsz
  have hD := hD0.self (sz := s.heap.size)
  generalize hAe : va_A (eb_W b v cB M f ml n) s.heap.size = A at hD hF ⊢
  have hA : ∀ q : Nat, s.heap.size ≤ q → A q := fun q h => by rw [← hAe]; exact Or.inr h
  have hS : va_S A s.heap s.heap [] := va_S.rf
  have hl := lv_entry ([.ref b, .int (nI n), .ref a]) (n := 3) (Nat.le_of_ble_eq_true rfl)
  rw [lg_entry_eq]
  generalize (lg_sl ([.ref b, .int (nI n), .ref a]) ++ List.replicate (3 - (lg_sl ([.ref b, .int (nI n), .ref a])).length) Slot.unset).toArray = ls at hl ⊢
  have hl : lv_has ls 3 [(0, .ref b), (1, .int (nI n)), (2, .ref a)] := hl
  have d0 : decode prog_15_method_73_code 0 = .ok (.aload_n 0, 1) := by decide +kernel
  have d1 : decode prog_15_method_73_code 1 = .ok (.aload_n 2, 1) := by decide +kernel
  have d2 : decode prog_15_method_73_code 2 = .ok (.invokevirtual 397, 3) := by decide +kernel
  have d5 : decode prog_15_method_73_code 5 = .ok (.aload_n 2, 1) := by decide +kernel
  have d6 : decode prog_15_method_73_code 6 = .ok (.aload_n 0, 1) := by decide +kernel
  have d7 : decode prog_15_method_73_code 7 = .ok (.getfield 15, 3) := by decide +kernel
  have d10 : decode prog_15_method_73_code 10 = .ok (.iload_n 1, 1) := by decide +kernel
  have d11 : decode prog_15_method_73_code 11 = .ok (.aload_n 0, 1) := by decide +kernel
  have d12 : decode prog_15_method_73_code 12 = .ok (.getfield 22, 3) := by decide +kernel
  have d15 : decode prog_15_method_73_code 15 = .ok (.invokevirtual 399, 3) := by decide +kernel
  have d18 : decode prog_15_method_73_code 18 = .ok (.return_, 1) := by decide +kernel
  obtain ⟨hT, hft⟩ := hF
  refine lv_aload_n hx hb d0 rfl (lv_at hl 0 rfl) ?_
  refine lv_aload_n hx hb d1 rfl (lv_at hl 2 rfl) ?_
  refine va_callv (va_runU (As := [.ref a]) (rest := []) ⟨hx, hb, hml, hown, hts⟩ (eb_inflateIf l D b v cB M f ml n N fx a w) (va_cwU (C := "java/lang/StringBuilder") 1 hts (eb_gU eb_ok1 (owner := "java/lang/AbstractStringBuilder") (eb_m (ev_gm (p := 14233) (by decide +kernel) rfl)) (eb_m (ev_gm (p := 17025) (by decide +kernel) rfl)) (eb_p (k := 3) rfl) (eb_m (ev_gm (p := 14235) (by decide +kernel) rfl)) (eb_m (ev_ginit (by decide +kernel) rfl)) (eb_m (ev_gm (p := 14236) (by decide +kernel) rfl))) rfl rfl rfl rfl (by decide +kernel) ⟨Nat.le_of_ble_eq_true rfl, Nat.le_of_ble_eq_true rfl⟩) ⟨fun a U g mk q => ⟨q.1, va_K.moved (u := U) (U := U.calling g mk a) (Vm.Alike.refl U.vm) q.2.1, q.2.2.1, eb_T.moved (u := U) (U := U.calling g mk a) (Vm.Alike.refl U.vm) q.2.2.2⟩, va_recv hK hP (ci := 0) (q0 := 0) rfl rfl, fun U hU hW => ⟨rfl, va_K.moved hW.alike hK, by show va_P D eb_cl _ U.heap; rw [hU]; exact hP, by show eb_T _ N fx _ w U U.heap; rw [hU]; exact ((hT.kept hS.2.1).narrow (fun _ z => z.elim)).moved hW.alike⟩⟩ rfl rfl hl.1 rfl (lv_room (Nat.le_of_ble_eq_true rfl)) d2 ⟨Nat.zero_le _, Nat.zero_le _⟩) hS (fun q _ h => h.elim) (fun q h => h.elim) (fun u t H1 locs1 ht hvm hw hB hz1 hk1 hS => ?_)
  have hP := eb_keep hP hk1
  refine lv_aload_n hx hb d5 rfl (lv_at hl 2 rfl) ?_
  refine lv_aload_n hx hb d6 rfl (lv_at hl 0 rfl) ?_
  refine va_get (D := D) (ci := 0) (v := .ref v) (C := "java/lang/StringBuilder") (T := eb_F) (N := 4) hx hb hts eb_sw hown hK hP 0 rfl rfl 0 (by decide) (hts _ (eb_m (ev_gm (p := 15022) (by decide +kernel) rfl))) (fun _ h9 => h9) rfl d7 ?_
  refine lv_iload_n hx hb d10 rfl (lv_at hl 1 rfl) ?_
  refine lv_aload_n hx hb d11 rfl (lv_at hl 0 rfl) ?_
  refine va_get (D := D) (ci := 0) (v := .int 0) (C := "java/lang/StringBuilder") (T := eb_F) (N := 4) hx hb hts eb_sw hown hK hP 0 rfl rfl 1 (by decide) (hts _ (eb_m (ev_gm (p := 15023) (by decide +kernel) rfl))) (fun _ h9 => h9) rfl d12 ?_
  have hPc := hP.sub (ws' := [(v, .inl (cB, M, .inl f))]) [1] rfl
  have hDc := hD.sub (ws' := [(v, .inl (cB, M, .inl f))]) [1] (by decide) rfl
  have hFc := va_free (wc := [(v, .inl (cB, M, .inl f))]) hD hS hA [1] rfl
  refine va_callv (va_runV (As := [.ref v, .int (nI n), .int 0]) (rest := []) ⟨hx, hb, hml, hown, hts⟩ (eb_getBytes l D H1.size v cB M f N fx a w n hn hM) (cwV 3 hts (eb_gV eb_ok1 (eb_m (ev_gm (p := 15016) (by decide +kernel) rfl)) (eb_m (ev_gm (p := 15017) (by decide +kernel) rfl)) (eb_m (ev_gm (p := 15018) (by decide +kernel) rfl)) (eb_m (ev_ginit (by decide +kernel) rfl)) (eb_m (ev_gm (p := 15019) (by decide +kernel) rfl))) rfl rfl rfl (by decide +kernel) ⟨Nat.le_of_ble_eq_true rfl, Nat.le_of_ble_eq_true rfl⟩) ⟨fun a U g mk q => by obtain ⟨q0, q1, qP, qK, qD, qF⟩ := q; exact ⟨q0, q1, qP, va_K.moved (u := U) (U := U.calling g mk a) (Vm.Alike.refl U.vm) qK, qD, eb_T.moved (u := U) (U := U.calling g mk a) (Vm.Alike.refl U.vm) qF.1, qF.2⟩, va_Orecv hT.1 hS, fun U hU hW => ⟨rfl, by rw [hU], by rw [hU]; exact hPc, va_K.moved hW.alike hK, hDc.weaken (fun _ _ _ _ => trivial), by show eb_T _ N fx _ w U U.heap; rw [hU]; exact ((hT.kept hS.2.1).narrow hFc).moved hW.alike, hft⟩⟩ rfl rfl hl.1 rfl (lv_room (Nat.le_of_ble_eq_true rfl)) d15 ⟨Nat.zero_le _, Nat.zero_le _⟩) hS (fun q _ h => hFc q h) hFc (fun u t H2 locs2 ht hvm hw hB hz1 hk1 hS => ?_)
  obtain ⟨hP1, hK1, hD1⟩ := hB
  rw [ht] at hP1
  have hK1 := va_K.moved hvm.symm hK1
  obtain ⟨hP, hD⟩ := va_join (wr := [(b, .inr (0, [.ref v, .int 0, .int ml, .int (nI n)]))]) (w1 := [(v, .inl (cB, M, .inl (va_cpy fx f 0 n N)))]) hP hD [1] [0] rfl rfl (by decide) (by decide) hk1 hFc hP1 hD1
  have hP : va_P D eb_cl (eb_W b v cB M (va_cpy fx f 0 n N) ml n) H2 := hP
  have hD : va_D A (eb_W b v cB M (va_cpy fx f 0 n N) ml n) := hD
  exact W.vret hx hb hr (fun t ht hW => ⟨⟨(), rfl, trivial, by unfold eb_B; exact ⟨by rw [ht]; exact hP, va_K.moved hW.alike hK1, hD⟩⟩, hS.F ht⟩) hS.2.2 d18
