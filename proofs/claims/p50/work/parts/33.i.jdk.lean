abbrev ye_blen : MethodName := ⟨"java/lang/StringBuilder", "length", "()I"⟩
set_option maxHeartbeats 4000000 in
set_option maxRecDepth 100000 in
theorem eb_blen (l : Launch) (D : va_G) (b v : Nat) (cB : ClassId) (M : Nat) (f : Nat → Int32) (ml : Int32) (n : Nat) : Met l ye_blen (Cond.code ye_blen prog_29_method_93_code 1 (some (.int)) :: eb_gw) ({ frames := 1, cells := 0, slots := 0, locals := 24 }) (ev_jP [.ref b] (fun U H => va_K D eb_cl [(cB, .byte)] U ∧ va_P D eb_cl (eb_W b v cB M f ml n) H)) (ev_jQ (nI n)) 0 0 (fun _ => False) := by
  refine Met.ofW (cc := prog_29_method_93_code) (maxL := 1) (ret := (some (.int))) (by decide) rfl ?_
  intro p e s m args below meth c s₁ B hml hv
  obtain ⟨rfl, hF⟩ := hv
  have hx := B.exec
  have hb := B.bytes
  have hr := B.returns
  have hts0 := atoms_spec (ws := Cond.code ye_blen prog_29_method_93_code 1 (some (.int)) :: eb_gw) B.pre
  have hts : ∀ w ∈ eb_gw, w.before _ s = true := fun w hw => hts0 w (List.mem_cons_of_mem _ hw)
  have hown : s.vm.findClass "java/lang/StringBuilder" = some m.cls := findClass_of_methodNamed B.named
  have hlocks := B.notSynchronized
  have hS : va_S (fun _ => False) s.heap s.heap [] := va_S.rf
  have hl := lv_entry ([.ref b]) (n := 1) (Nat.le_of_ble_eq_true rfl)
  rw [lg_entry_eq]
  generalize (lg_sl ([.ref b]) ++ List.replicate (1 - (lg_sl ([.ref b])).length) Slot.unset).toArray = ls at hl ⊢
  have hl : lv_has ls 1 [(0, .ref b)] := hl
  have d0 : decode prog_29_method_93_code 0 = .ok (.aload_n 0, 1) := by decide +kernel
  have d1 : decode prog_29_method_93_code 1 = .ok (.invokespecial 343, 3) := by decide +kernel
  have d4 : decode prog_29_method_93_code 4 = .ok (.ireturn, 1) := by decide +kernel
  obtain ⟨hK, hP⟩ := hF
  refine lv_aload_n hx hb d0 rfl (lv_at hl 0 rfl) ?_
  refine va_calli (va_runSU (hK.1 0 _ rfl).2 (As := []) (rest := []) ⟨hx, hb, hml, hown, hts⟩ (eb_alen l D b v cB M f ml n) (va_cwSU 0 hts (eb_gSU eb_ok1 (eb_m (ev_gm (p := 15114) (by decide +kernel) rfl)) (eb_m (ev_gm (p := 15110) (by decide +kernel) rfl)) (eb_m (ev_gm (p := 14172) (by decide +kernel) rfl)) (eb_m (ev_gm (p := 15109) (by decide +kernel) rfl)) (eb_m (ev_ginit (by decide +kernel) rfl)) (eb_m (ev_gm (p := 15115) (by decide +kernel) rfl))) rfl rfl rfl (by decide +kernel) ⟨Nat.le_of_ble_eq_true rfl, Nat.le_of_ble_eq_true rfl⟩) ⟨fun a U g mk q => ⟨q.1, va_K.moved (u := U) (U := U.calling g mk a) (Vm.Alike.refl U.vm) q.2.1, q.2.2⟩, va_recv hK hP (ci := 0) (q0 := 0) rfl rfl, fun U hU hW => ⟨rfl, va_K.moved hW.alike hK, by show va_P D eb_cl _ U.heap; rw [hU]; exact hP⟩⟩ rfl rfl hl.1 rfl (lv_room (Nat.le_of_ble_eq_true rfl)) d1 ⟨Nat.le_of_ble_eq_true rfl, Nat.le_of_ble_eq_true rfl⟩) hS (fun q _ h => h.elim) (fun q h => h.elim) (fun r u t H1 locs1 ht hvm hw hB hz1 hk1 hS => ?_)
  have hw : r = nI n := hw
  subst hw
  exact W.iret hx hb hr (fun t ht hW => ⟨⟨_, (), rfl, rfl, trivial⟩, hS.F ht⟩) hS.2.2 d4
abbrev ye_checkLen : MethodName := ⟨"java/util/Arrays", "checkLength", "(II)V"⟩
set_option maxHeartbeats 4000000 in
set_option maxRecDepth 100000 in
theorem eb_checkLen (l : Launch) (D : va_G) (n : Nat) (hn : n ≤ 1300) : Met l ye_checkLen (Cond.code ye_checkLen prog_36_method_131_code 2 none :: eb_gw) ({ frames := 0, cells := 0, slots := 0, locals := 0 }) (ev_jP [.int (nI 0), .int (nI n)] (fun U H => True)) (ev_jV) 0 0 (fun _ => False) := by
  refine Met.ofW (cc := prog_36_method_131_code) (maxL := 2) (ret := none) (by decide) rfl ?_
  intro p e s m args below meth c s₁ B hml hv
  obtain ⟨rfl, hF⟩ := hv
  have hx := B.exec
  have hb := B.bytes
  have hr := B.returns
  have hts0 := atoms_spec (ws := Cond.code ye_checkLen prog_36_method_131_code 2 none :: eb_gw) B.pre
  have hts : ∀ w ∈ eb_gw, w.before _ s = true := fun w hw => hts0 w (List.mem_cons_of_mem _ hw)
  have hown : s.vm.findClass "java/util/Arrays" = some m.cls := findClass_of_methodNamed B.named
  have hlocks := B.notSynchronized
  have hS : va_S (fun _ => False) s.heap s.heap [] := va_S.rf
  have hl := lv_entry ([.int (nI 0), .int (nI n)]) (n := 2) (Nat.le_of_ble_eq_true rfl)
  rw [lg_entry_eq]
  generalize (lg_sl ([.int (nI 0), .int (nI n)]) ++ List.replicate (2 - (lg_sl ([.int (nI 0), .int (nI n)])).length) Slot.unset).toArray = ls at hl ⊢
  have hl : lv_has ls 2 [(0, .int (nI 0)), (1, .int (nI n))] := hl
  have d0 : decode prog_36_method_131_code 0 = .ok (.iload_n 1, 1) := by decide +kernel
  have d1 : decode prog_36_method_131_code 1 = .ok (.iload_n 0, 1) := by decide +kernel
  have d2 : decode prog_36_method_131_code 2 = .ok (.if_icmp .ge (35), 3) := by decide +kernel
  have d37 : decode prog_36_method_131_code 37 = .ok (.return_, 1) := by decide +kernel
  refine lv_iload_n hx hb d0 rfl (lv_at hl 1 rfl) ?_
  refine lv_iload_n hx hb d1 rfl (lv_at hl 0 rfl) ?_
  refine lv_icmp_ge (tgt := 37) hx hb d2 (by decide) (fun _ => ?_) (fun z => absurd (nI_le (Nat.zero_le n) (by omega)) z)
  exact W.vret hx hb hr (fun t ht hW => ⟨⟨(), rfl, trivial, trivial⟩, hS.F ht⟩) hS.2.2 d37
abbrev ye_copyRB : MethodName := ⟨"java/util/Arrays", "copyOfRangeByte", "([BII)[B"⟩
set_option maxHeartbeats 4000000 in
set_option maxRecDepth 100000 in
theorem eb_copyRB (l : Launch) (D : va_G) (sz : Nat) (v : Nat) (cB : ClassId) (M : Nat) (f : Nat → Int32) (n : Nat) (hn : n ≤ M) (hM : M ≤ 1300) : Met l ye_copyRB (Cond.code ye_copyRB prog_36_method_133_code 5 (some ((Jvm.ClassFile.FieldType.array Jvm.ClassFile.FieldType.byte))) :: eb_gw) ({ frames := 1, cells := 1, slots := 1300, locals := 64 }) (va_Pc [.ref v, .int (nI 0), .int (nI n)] (fun U => U.heap.size = sz ∧ va_P D eb_cl [(v, .inl (cB, M, .inl f))] U.heap ∧ va_K D eb_cl [(cB, .byte)] U ∧ va_D (fun _ => True) [(v, .inl (cB, M, .inl f))] ∧ eb_ft M f)) (va_Qr (fun (u : ClassId × (Nat → Int32)) => ∀ j, j < n → u.2 j = f j) (fun u q t => va_P D eb_cl [(q, .inl (u.1, n, .inl u.2))] t.heap ∧ va_K D eb_cl [(u.1, .byte)] t ∧ va_D (va_A [(v, .inl (cB, M, .inl f))] sz) [(q, .inl (u.1, n, .inl u.2))]) (va_A [(v, .inl (cB, M, .inl f))] sz)) 1 1300 (va_A [(v, .inl (cB, M, .inl f))] sz) := by
  refine Met.ofW (cc := prog_36_method_133_code) (maxL := 5) (ret := (some ((Jvm.ClassFile.FieldType.array Jvm.ClassFile.FieldType.byte)))) (by decide) rfl ?_
  intro p e s m args below meth c s₁ B hml hv
  obtain ⟨rfl, hsz, hP, hK, hD0, hF⟩ := hv
  have hx := B.exec
  have hb := B.bytes
  have hr := B.returns
  have hts0 := atoms_spec (ws := Cond.code ye_copyRB prog_36_method_133_code 5 (some ((Jvm.ClassFile.FieldType.array Jvm.ClassFile.FieldType.byte))) :: eb_gw) B.pre
  have hts : ∀ w ∈ eb_gw, w.before _ s = true := fun w hw => hts0 w (List.mem_cons_of_mem _ hw)
  have hown : s.vm.findClass "java/util/Arrays" = some m.cls := findClass_of_methodNamed B.named
  have hlocks := B.notSynchronized
  subst hsz
  have hD := hD0.self (sz := s.heap.size)
  generalize hAe : va_A [(v, .inl (cB, M, .inl f))] s.heap.size = A at hD hF ⊢
  have hA : ∀ q : Nat, s.heap.size ≤ q → A q := fun q h => by rw [← hAe]; exact Or.inr h
  have hS : va_S A s.heap s.heap [] := va_S.rf
  have hl := lv_entry ([.ref v, .int (nI 0), .int (nI n)]) (n := 5) (Nat.le_of_ble_eq_true rfl)
  rw [lg_entry_eq]
  generalize (lg_sl ([.ref v, .int (nI 0), .int (nI n)]) ++ List.replicate (5 - (lg_sl ([.ref v, .int (nI 0), .int (nI n)])).length) Slot.unset).toArray = ls at hl ⊢
  have hl : lv_has ls 5 [(0, .ref v), (1, .int (nI 0)), (2, .int (nI n))] := hl
  have d0 : decode prog_36_method_133_code 0 = .ok (.iload_n 1, 1) := by decide +kernel
  have d1 : decode prog_36_method_133_code 1 = .ok (.iload_n 2, 1) := by decide +kernel
  have d2 : decode prog_36_method_133_code 2 = .ok (.invokestatic 343, 3) := by decide +kernel
  have d5 : decode prog_36_method_133_code 5 = .ok (.iload_n 2, 1) := by decide +kernel
  have d6 : decode prog_36_method_133_code 6 = .ok (.iload_n 1, 1) := by decide +kernel
  have d7 : decode prog_36_method_133_code 7 = .ok (.isub, 1) := by decide +kernel
  have d8 : decode prog_36_method_133_code 8 = .ok (.istore_n 3, 1) := by decide +kernel
  have d9 : decode prog_36_method_133_code 9 = .ok (.iload_n 3, 1) := by decide +kernel
  have d10 : decode prog_36_method_133_code 10 = .ok (.newarray .byte, 2) := by decide +kernel
  have d12 : decode prog_36_method_133_code 12 = .ok (.astore 4, 2) := by decide +kernel
  have d14 : decode prog_36_method_133_code 14 = .ok (.aload_n 0, 1) := by decide +kernel
  have d15 : decode prog_36_method_133_code 15 = .ok (.iload_n 1, 1) := by decide +kernel
  have d16 : decode prog_36_method_133_code 16 = .ok (.aload 4, 2) := by decide +kernel
  have d18 : decode prog_36_method_133_code 18 = .ok (.iconst 0, 1) := by decide +kernel
  have d19 : decode prog_36_method_133_code 19 = .ok (.aload_n 0, 1) := by decide +kernel
  have d20 : decode prog_36_method_133_code 20 = .ok (.arraylength, 1) := by decide +kernel
  have d21 : decode prog_36_method_133_code 21 = .ok (.iload_n 1, 1) := by decide +kernel
  have d22 : decode prog_36_method_133_code 22 = .ok (.isub, 1) := by decide +kernel
  have d23 : decode prog_36_method_133_code 23 = .ok (.iload_n 3, 1) := by decide +kernel
  have d24 : decode prog_36_method_133_code 24 = .ok (.invokestatic 304, 3) := by decide +kernel
  have d27 : decode prog_36_method_133_code 27 = .ok (.invokestatic 150, 3) := by decide +kernel
  have d30 : decode prog_36_method_133_code 30 = .ok (.aload 4, 2) := by decide +kernel
  have d32 : decode prog_36_method_133_code 32 = .ok (.areturn, 1) := by decide +kernel
  refine lv_iload_n hx hb d0 rfl (lv_at hl 1 rfl) ?_
  refine lv_iload_n hx hb d1 rfl (lv_at hl 2 rfl) ?_
  refine va_callv (va_runS (As := [.int (nI 0), .int (nI n)]) (rest := []) ⟨hx, hb, hml, hown, hts⟩ (eb_checkLen l D n (by omega)) (va_cwS 2 hts (eb_gS eb_ok1 (eb_m (ev_gm (p := 15123) (by decide +kernel) rfl)) (eb_m (ev_gm (p := 15124) (by decide +kernel) rfl)) (eb_m (ev_ginit (by decide +kernel) rfl)) (eb_m (ev_gm (p := 15125) (by decide +kernel) rfl))) rfl rfl rfl (by decide +kernel) ⟨Nat.le_of_ble_eq_true rfl, Nat.le_of_ble_eq_true rfl⟩) ⟨fun a U g mk q => ⟨q.1, trivial⟩, fun U hU hW => ⟨rfl, trivial⟩⟩ rfl rfl hl.1 rfl (lv_room (Nat.le_of_ble_eq_true rfl)) d2 ⟨Nat.le_of_ble_eq_true rfl, Nat.le_of_ble_eq_true rfl⟩) hS (fun q _ h => h.elim) (fun q h => h.elim) (fun u t H1 locs1 ht hvm hw hB hz1 hk1 hS => ?_)
  have hP := eb_keep hP hk1
  refine lv_iload_n hx hb d5 rfl (lv_at hl 2 rfl) ?_
  refine lv_iload_n hx hb d6 rfl (lv_at hl 1 rfl) ?_
  refine lv_isub hx hb d7 ?_
  refine lv_topi (fun y ey => ?_); obtain rfl : y = nI n := ey.trans (pk_sub (Nat.zero_le n))
  refine lv_istore_n hx hb d8 rfl hl (by decide) rfl (fun ls hl => ?_)
  refine lv_iload_n hx hb d9 rfl (lv_at hl 0 rfl) ?_
  refine va_newa (atype := .byte) (ty := .byte) hx hb (hts _ (eb_m (ev_gm (p := 11079) (by decide +kernel) rfl))) rfl hK hP hD hS hA (a0 := (n, .inl (fun _ => 0))) (fun cA => rfl) (nI_pos (by omega)) (nI_clamp (by omega)) (by show n * 1 ≤ _; omega) (by show 0 + 0 + 1 ≤ 1; omega) (by show 0 + 0 + n ≤ 1300; omega) d10 (fun q c2 H hK hP hD hS => ?_)
  refine lv_astore hx hb d12 hl (by decide) rfl (fun ls hl => ?_)
  refine lv_aload_n hx hb d14 rfl (lv_at hl 2 rfl) ?_
  refine lv_iload_n hx hb d15 rfl (lv_at hl 3 rfl) ?_
  refine lv_aload hx hb d16 (lv_at hl 0 rfl) ?_
  refine lv_iconst (v := nI 0) hx hb d18 (by decide) ?_
  refine lv_aload_n hx hb d19 rfl (lv_at hl 2 rfl) ?_
  refine va_alen hx hb hK hP 0 0 (v := nI M) rfl rfl rfl d20 ?_
  refine lv_iload_n hx hb d21 rfl (lv_at hl 3 rfl) ?_
  refine lv_isub hx hb d22 ?_
  refine lv_topi (fun y ey => ?_); obtain rfl : y = nI M := ey.trans (pk_sub (Nat.zero_le M))
  refine lv_iload_n hx hb d23 rfl (lv_at hl 1 rfl) ?_
  refine va_mmin hx hb (hml.trans hl.1.symm) hown (hts _ (eb_m (ev_gm (p := 14206) (by decide +kernel) rfl))) (hts _ (eb_m (ev_gm (p := 13135) (by decide +kernel) rfl))) (hts _ (eb_m (ev_ginit (by decide +kernel) rfl))) (hts _ (eb_m (ev_gm (p := 13136) (by decide +kernel) rfl))) (Nat.le_of_ble_eq_true rfl) (Nat.le_of_ble_eq_true rfl) (by show 0 + 0 + 1 ≤ 1; omega) (by show 0 + 0 + n ≤ 1300; omega) d24 ?_
  rw [show (if nI n < nI M then nI n else nI M) = nI n from by
    by_cases hh : n < M
    · rw [if_pos (nI_lt hh (by omega))]
    · rw [if_neg (nI_nlt (by omega) (by omega)), show M = n by omega]]
  have e0 : (nI 0).toNatClampNeg = 0 := nI_clamp (by decide)
  have eM : (nI n).toNatClampNeg = n := nI_clamp (by omega)
  refine va_copyi hx hb (hml.trans hl.1.symm) hown (hts _ (eb_m (ev_gm (p := 14207) (by decide +kernel) rfl))) (hts _ (eb_m (ev_gm (p := 13123) (by decide +kernel) rfl))) (hts _ (eb_m (ev_gm (p := 13122) (by decide +kernel) rfl))) (hts _ (eb_m (ev_ginit (by decide +kernel) rfl))) hK hP hD hS 0 1 0 1 rfl rfl rfl rfl rfl (nI_pos (by decide)) (nI_pos (by decide)) (nI_pos (by omega)) (by rw [e0, eM]; omega) (by rw [e0, eM]; omega) (by rw [e0, eM]; intro i hi; rw [Nat.zero_add]; exact hF i (by omega)) (Nat.le_of_ble_eq_true rfl) (Nat.le_of_ble_eq_true rfl) d27 (fun H1 locs1 hP hD hS => ?_)
  refine lv_aload hx hb d30 (lv_at hl 0 rfl) ?_
  have hP9 := hP.sub (ws' := [(q, .inl (c2, n, .inl (va_cpy f (fun _ => 0) (nI 0).toNatClampNeg (nI 0).toNatClampNeg (nI n).toNatClampNeg)))]) [1] rfl
  have hD9 := hD.sub (ws' := [(q, .inl (c2, n, .inl (va_cpy f (fun _ => 0) (nI 0).toNatClampNeg (nI 0).toNatClampNeg (nI n).toNatClampNeg)))]) [1] (by decide) rfl
  have hK9 := hK.sub (tys' := [(c2, .byte)]) [1] rfl
  refine W.widen (k := 1) (n := 1300) (by omega) (by omega) ?_
  exact W.aret hx hb hr (.inr ⟨_, rfl⟩) (.inr ⟨_, rfl⟩) (fun t ht hW => ⟨⟨(c2, (va_cpy f (fun _ => 0) (nI 0).toNatClampNeg (nI 0).toNatClampNeg (nI n).toNatClampNeg)), q, rfl, (fun j hj => by dsimp only; rw [e0, eM]; unfold va_cpy; rw [if_pos (by omega), Nat.zero_add, Nat.sub_zero]), by rw [ht]; exact hP9, va_K.moved hW.alike hK9, hD9⟩, hS.F ht⟩) hS.2.2 d32
abbrev ye_copyR : MethodName := ⟨"java/util/Arrays", "copyOfRange", "([BII)[B"⟩
set_option maxHeartbeats 4000000 in
set_option maxRecDepth 100000 in
theorem eb_copyR (l : Launch) (D : va_G) (sz : Nat) (v : Nat) (cB : ClassId) (M : Nat) (f : Nat → Int32) (n : Nat) (hn : n ≤ M) (hM : M ≤ 1300) : Met l ye_copyR (Cond.code ye_copyR prog_36_method_132_code 3 (some ((Jvm.ClassFile.FieldType.array Jvm.ClassFile.FieldType.byte))) :: eb_gw) ({ frames := 2, cells := 1, slots := 1300, locals := 96 }) (va_Pc [.ref v, .int (nI 0), .int (nI n)] (fun U => U.heap.size = sz ∧ va_P D eb_cl [(v, .inl (cB, M, .inl f))] U.heap ∧ va_K D eb_cl [(cB, .byte)] U ∧ va_D (fun _ => True) [(v, .inl (cB, M, .inl f))] ∧ eb_ft M f ∧ va_Nw (.castable "[B" "java/lang/Cloneable") U)) (va_Qr (fun (u : ClassId × (Nat → Int32)) => ∀ j, j < n → u.2 j = f j) (fun u q t => va_P D eb_cl [(q, .inl (u.1, n, .inl u.2))] t.heap ∧ va_K D eb_cl [(u.1, .byte)] t ∧ va_D (va_A [(v, .inl (cB, M, .inl f))] sz) [(q, .inl (u.1, n, .inl u.2))]) (va_A [(v, .inl (cB, M, .inl f))] sz)) 1 1300 (va_A [(v, .inl (cB, M, .inl f))] sz) := by
  refine Met.ofW (cc := prog_36_method_132_code) (maxL := 3) (ret := (some ((Jvm.ClassFile.FieldType.array Jvm.ClassFile.FieldType.byte)))) (by decide) rfl ?_
  intro p e s m args below meth c s₁ B hml hv
  obtain ⟨rfl, hsz, hP, hK, hD0, hF⟩ := hv
  have hx := B.exec
  have hb := B.bytes
  have hr := B.returns
  have hts0 := atoms_spec (ws := Cond.code ye_copyR prog_36_method_132_code 3 (some ((Jvm.ClassFile.FieldType.array Jvm.ClassFile.FieldType.byte))) :: eb_gw) B.pre
  have hts : ∀ w ∈ eb_gw, w.before _ s = true := fun w hw => hts0 w (List.mem_cons_of_mem _ hw)
  have hown : s.vm.findClass "java/util/Arrays" = some m.cls := findClass_of_methodNamed B.named
  have hlocks := B.notSynchronized
  subst hsz
  have hD := hD0.self (sz := s.heap.size)
  generalize hAe : va_A [(v, .inl (cB, M, .inl f))] s.heap.size = A at hD hF ⊢
  have hA : ∀ q : Nat, s.heap.size ≤ q → A q := fun q h => by rw [← hAe]; exact Or.inr h
  have hS : va_S A s.heap s.heap [] := va_S.rf
  have hl := lv_entry ([.ref v, .int (nI 0), .int (nI n)]) (n := 3) (Nat.le_of_ble_eq_true rfl)
  rw [lg_entry_eq]
  generalize (lg_sl ([.ref v, .int (nI 0), .int (nI n)]) ++ List.replicate (3 - (lg_sl ([.ref v, .int (nI 0), .int (nI n)])).length) Slot.unset).toArray = ls at hl ⊢
  have hl : lv_has ls 3 [(0, .ref v), (1, .int (nI 0)), (2, .int (nI n))] := hl
  have d0 : decode prog_36_method_132_code 0 = .ok (.iload_n 1, 1) := by decide +kernel
  have d1 : decode prog_36_method_132_code 1 = .ok (.ifCond .ne (9), 3) := by decide +kernel
  have d4 : decode prog_36_method_132_code 4 = .ok (.iload_n 2, 1) := by decide +kernel
  have d5 : decode prog_36_method_132_code 5 = .ok (.aload_n 0, 1) := by decide +kernel
  have d6 : decode prog_36_method_132_code 6 = .ok (.arraylength, 1) := by decide +kernel
  have d7 : decode prog_36_method_132_code 7 = .ok (.if_icmp .eq (10), 3) := by decide +kernel
  have d10 : decode prog_36_method_132_code 10 = .ok (.aload_n 0, 1) := by decide +kernel
  have d11 : decode prog_36_method_132_code 11 = .ok (.iload_n 1, 1) := by decide +kernel
  have d12 : decode prog_36_method_132_code 12 = .ok (.iload_n 2, 1) := by decide +kernel
  have d13 : decode prog_36_method_132_code 13 = .ok (.invokestatic 339, 3) := by decide +kernel
  have d16 : decode prog_36_method_132_code 16 = .ok (.areturn, 1) := by decide +kernel
  have d17 : decode prog_36_method_132_code 17 = .ok (.aload_n 0, 1) := by decide +kernel
  have d18 : decode prog_36_method_132_code 18 = .ok (.invokevirtual 310, 3) := by decide +kernel
  have d21 : decode prog_36_method_132_code 21 = .ok (.checkcast 311, 3) := by decide +kernel
  have d24 : decode prog_36_method_132_code 24 = .ok (.areturn, 1) := by decide +kernel
  obtain ⟨hF, hC⟩ := hF
  refine lv_iload_n hx hb d0 rfl (lv_at hl 1 rfl) ?_
  refine lv_if_ne (tgt := 10) hx hb d1 (by decide) (fun z => absurd rfl z) (fun _ => ?_)
  refine lv_iload_n hx hb d4 rfl (lv_at hl 2 rfl) ?_
  refine lv_aload_n hx hb d5 rfl (lv_at hl 0 rfl) ?_
  refine va_alen hx hb hK hP 0 0 (v := nI M) rfl rfl rfl d6 ?_
  by_cases hnM : n = M
  · refine lv_icmp_eq (tgt := 17) hx hb d7 (by decide) (fun _ => ?_) (fun z => absurd (by rw [hnM]) z)
    subst hnM
    refine lv_aload_n hx hb d17 rfl (lv_at hl 0 rfl) ?_
    have hnm : s.vm.findClass "[B" = some cB := (hK.2 0 _ rfl).2
    refine va_clone (ad := "[B") hx hb (hml.trans hl.1.symm) hown (hts _ (eb_m (ev_gm (p := 14199) (by decide +kernel) rfl))) (hts _ (eb_m (ev_gm (p := 14200) (by decide +kernel) rfl))) (hts _ (eb_m (ev_gm (p := 14201) (by decide +kernel) rfl))) (hts _ (eb_m (ev_gm (p := 14202) (by decide +kernel) rfl))) (hts _ (eb_m (ev_gm (p := 14203) (by decide +kernel) rfl))) hC hK hP hD hS hA 0 0 rfl rfl hnm (fun i x hx9 => by
      have hi : i < n := by
        have := (Array.getElem?_eq_some_iff.mp hx9).1
        rw [show (vp_cell cB (n, .inl f)).slots.size = n from arrV_size _ _ _] at this
        exact this
      rw [show (vp_cell cB (n, .inl f)).slots[i]? = some (.int (f i)) from arrV_read _ _ hi] at hx9
      cases hx9
      exact hF i hi) (Nat.le_of_ble_eq_true rfl) (Nat.le_of_ble_eq_true rfl) (by show 0 + 1 ≤ 1; omega) (by show 0 + n ≤ 1300; omega) d18 (fun q H1 hK hP hD hS => ?_)
    refine va_castA hx hb hown (hts _ (eb_m (ev_gm (p := 14205) (by decide +kernel) rfl))) hP 1 rfl hnm d21 ?_
    have hP9 := hP.sub (ws' := [(q, .inl (cB, n, .inl f))]) [1] rfl
    have hD9 := hD.sub (ws' := [(q, .inl (cB, n, .inl f))]) [1] (by decide) rfl
    have hK9 := hK.sub (tys' := [(cB, .byte)]) [1] rfl
    refine W.widen (k := 1) (n := 1300) (by omega) (by show 0 + n ≤ 1300; omega) ?_
    exact W.aret hx hb hr (.inr ⟨_, rfl⟩) (.inr ⟨_, rfl⟩) (fun t ht hW => ⟨⟨(cB, f), q, rfl, fun _ _ => rfl, by rw [ht]; exact hP9, va_K.moved hW.alike hK9, hD9⟩, hS.F ht⟩) hS.2.2 d24
  · refine lv_icmp_eq (tgt := 17) hx hb d7 (by decide) (fun z => absurd ((nI_eq (by omega) (by omega)).mp z) hnM) (fun _ => ?_)
    refine lv_aload_n hx hb d10 rfl (lv_at hl 0 rfl) ?_
    refine lv_iload_n hx hb d11 rfl (lv_at hl 1 rfl) ?_
    refine lv_iload_n hx hb d12 rfl (lv_at hl 2 rfl) ?_
    have hFc := va_free (wc := [(v, .inl (cB, M, .inl f))]) hD hS hA [0] rfl
    refine va_callr (va_runS (As := [.ref v, .int (nI 0), .int (nI n)]) (rest := []) ⟨hx, hb, hml, hown, hts⟩ (eb_copyRB l D s.heap.size v cB M f n hn hM) (va_cwS 3 hts (eb_gS eb_ok1 (eb_m (ev_gm (p := 15120) (by decide +kernel) rfl)) (eb_m (ev_gm (p := 15121) (by decide +kernel) rfl)) (eb_m (ev_ginit (by decide +kernel) rfl)) (eb_m (ev_gm (p := 15122) (by decide +kernel) rfl))) rfl rfl rfl (by decide +kernel) ⟨Nat.le_of_ble_eq_true rfl, Nat.le_of_ble_eq_true rfl⟩) ⟨fun a U g mk q => by obtain ⟨q0, q1, qP, qK, qD, qF⟩ := q; exact ⟨q0, q1, qP, va_K.moved (u := U) (U := U.calling g mk a) (Vm.Alike.refl U.vm) qK, qD, qF⟩, fun U hU hW => ⟨rfl, by rw [hU], by rw [hU]; exact hP, va_K.moved hW.alike hK, hD.weaken (fun _ _ _ _ => trivial), hF⟩⟩ rfl rfl hl.1 rfl (lv_room (Nat.le_of_ble_eq_true rfl)) d13 ⟨Nat.le_of_ble_eq_true rfl, Nat.le_of_ble_eq_true rfl⟩) hS (fun q _ h => hFc q h) hFc (fun u ra t H1 locs1 ht hvm hw hB hz1 hk1 hS => ?_)
    obtain ⟨c2, f2⟩ := u
    obtain ⟨hP1, hK1, hD1⟩ := hB
    rw [ht] at hP1
    exact W.aret hx hb hr (.inr ⟨_, rfl⟩) (.inr ⟨_, rfl⟩) (fun t2 ht2 hW => ⟨⟨(c2, f2), ra, rfl, hw, by rw [ht2]; exact hP1, va_K.moved (hvm.symm.trans hW.alike) hK1, hD1.weaken (fun k q hk h => hFc _ h)⟩, hS.F ht2⟩) hS.2.2 d16
abbrev ye_strI2 : MethodName := ⟨"java/lang/String", "<init>", "(Ljava/lang/AbstractStringBuilder;Ljava/lang/Void;)V"⟩
set_option maxHeartbeats 4000000 in
set_option maxRecDepth 100000 in
theorem eb_strI2 (l : Launch) (D : va_G) (sz : Nat) (b v : Nat) (cB : ClassId) (M : Nat) (f : Nat → Int32) (ml : Int32) (n z : Nat) (hn : n ≤ M) (hM : M ≤ 1300) : Met l ye_strI2 (Cond.code ye_strI2 prog_28_method_150_code 5 none :: eb_gw) ({ frames := 3, cells := 1, slots := 1300, locals := 130 }) (va_Pc [.ref z, .ref b, .null] (fun U => U.heap.size = sz ∧ va_P D eb_cl [(b, .inr (0, [.ref v, .int 0, .int ml, .int (nI n)])), (v, .inl (cB, M, .inl f)), (z, .inr (1, [.null, .int 0, .int 0, .int 0]))] U.heap ∧ va_K D eb_cl [(cB, .byte)] U ∧ va_D (fun _ => True) [(b, .inr (0, [.ref v, .int 0, .int ml, .int (nI n)])), (v, .inl (cB, M, .inl f)), (z, .inr (1, [.null, .int 0, .int 0, .int 0]))] ∧ eb_ft M f ∧ va_Z "java/lang/String" "COMPACT_STRINGS" "Z" (.int 1) (va_A [(b, .inr (0, [.ref v, .int 0, .int ml, .int (nI n)])), (v, .inl (cB, M, .inl f)), (z, .inr (1, [.null, .int 0, .int 0, .int 0]))] sz) U U.heap ∧ va_Nw (.castable "[B" "java/lang/Cloneable") U)) (va_Qv (fun (u : Nat × ClassId × (Nat → Int32)) => ∀ j, j < n → u.2.2 j = f j) (fun u t => va_P D eb_cl [(z, .inr (1, [.ref u.1, .int 0, .int 0, .int 0])), (u.1, .inl (u.2.1, n, .inl u.2.2))] t.heap ∧ va_K D eb_cl [(u.2.1, .byte)] t ∧ va_D (va_A [(b, .inr (0, [.ref v, .int 0, .int ml, .int (nI n)])), (v, .inl (cB, M, .inl f)), (z, .inr (1, [.null, .int 0, .int 0, .int 0]))] sz) [(z, .inr (1, [.ref u.1, .int 0, .int 0, .int 0])), (u.1, .inl (u.2.1, n, .inl u.2.2))]) (va_A [(b, .inr (0, [.ref v, .int 0, .int ml, .int (nI n)])), (v, .inl (cB, M, .inl f)), (z, .inr (1, [.null, .int 0, .int 0, .int 0]))] sz)) 1 1300 (va_A [(b, .inr (0, [.ref v, .int 0, .int ml, .int (nI n)])), (v, .inl (cB, M, .inl f)), (z, .inr (1, [.null, .int 0, .int 0, .int 0]))] sz) := by
  refine Met.ofW (cc := prog_28_method_150_code) (maxL := 5) (ret := none) (by decide) rfl ?_
  intro p e s m args below meth c s₁ B hml hv
  obtain ⟨rfl, hsz, hP, hK, hD0, hF⟩ := hv
  have hx := B.exec
  have hb := B.bytes
  have hr := B.returns
  have hts0 := atoms_spec (ws := Cond.code ye_strI2 prog_28_method_150_code 5 none :: eb_gw) B.pre
  have hts : ∀ w ∈ eb_gw, w.before _ s = true := fun w hw => hts0 w (List.mem_cons_of_mem _ hw)
  have hown : s.vm.findClass "java/lang/String" = some m.cls := findClass_of_methodNamed B.named
  have hlocks := B.notSynchronized
  subst hsz
  have hD := hD0.self (sz := s.heap.size)
  generalize hAe : va_A [(b, .inr (0, [.ref v, .int 0, .int ml, .int (nI n)])), (v, .inl (cB, M, .inl f)), (z, .inr (1, [.null, .int 0, .int 0, .int 0]))] s.heap.size = A at hD hF ⊢
  have hA : ∀ q : Nat, s.heap.size ≤ q → A q := fun q h => by rw [← hAe]; exact Or.inr h
  have hS : va_S A s.heap s.heap [] := va_S.rf
  have hl := lv_entry ([.ref z, .ref b, .null]) (n := 5) (Nat.le_of_ble_eq_true rfl)
  rw [lg_entry_eq]
  generalize (lg_sl ([.ref z, .ref b, .null]) ++ List.replicate (5 - (lg_sl ([.ref z, .ref b, .null])).length) Slot.unset).toArray = ls at hl ⊢
  have hl : lv_has ls 5 [(0, .ref z), (1, .ref b), (2, .null)] := hl
  have d0 : decode prog_28_method_150_code 0 = .ok (.aload_n 0, 1) := by decide +kernel
  have d1 : decode prog_28_method_150_code 1 = .ok (.invokespecial 1, 3) := by decide +kernel
  have d4 : decode prog_28_method_150_code 4 = .ok (.aload_n 1, 1) := by decide +kernel
  have d5 : decode prog_28_method_150_code 5 = .ok (.invokevirtual 552, 3) := by decide +kernel
  have d8 : decode prog_28_method_150_code 8 = .ok (.astore_n 3, 1) := by decide +kernel
  have d9 : decode prog_28_method_150_code 9 = .ok (.aload_n 1, 1) := by decide +kernel
  have d10 : decode prog_28_method_150_code 10 = .ok (.invokevirtual 549, 3) := by decide +kernel
  have d13 : decode prog_28_method_150_code 13 = .ok (.istore 4, 2) := by decide +kernel
  have d15 : decode prog_28_method_150_code 15 = .ok (.aload_n 1, 1) := by decide +kernel
  have d16 : decode prog_28_method_150_code 16 = .ok (.invokevirtual 1047, 3) := by decide +kernel
  have d19 : decode prog_28_method_150_code 19 = .ok (.ifCond .eq (22), 3) := by decide +kernel
  have d22 : decode prog_28_method_150_code 22 = .ok (.aload_n 0, 1) := by decide +kernel
  have d23 : decode prog_28_method_150_code 23 = .ok (.iconst 0, 1) := by decide +kernel
  have d24 : decode prog_28_method_150_code 24 = .ok (.putfield 15, 3) := by decide +kernel
  have d27 : decode prog_28_method_150_code 27 = .ok (.aload_n 0, 1) := by decide +kernel
  have d28 : decode prog_28_method_150_code 28 = .ok (.aload_n 3, 1) := by decide +kernel
  have d29 : decode prog_28_method_150_code 29 = .ok (.iconst 0, 1) := by decide +kernel
  have d30 : decode prog_28_method_150_code 30 = .ok (.iload 4, 2) := by decide +kernel
  have d32 : decode prog_28_method_150_code 32 = .ok (.invokestatic 54, 3) := by decide +kernel
  have d35 : decode prog_28_method_150_code 35 = .ok (.putfield 9, 3) := by decide +kernel
  have d38 : decode prog_28_method_150_code 38 = .ok (.goto (59), 3) := by decide +kernel
  have d97 : decode prog_28_method_150_code 97 = .ok (.return_, 1) := by decide +kernel
  obtain ⟨hff, hZ, hC⟩ := hF
  have hin : meth.name = "<init>" := (name_of_methodNamed B.named B.method).1
  refine lv_aload_n hx hb d0 rfl (lv_at hl 0 rfl) ?_
  refine W.objInit hx hb hown (hts _ (eb_m (ev_gm (p := 15102) (by decide +kernel) rfl))) (hts _ (eb_m (ev_gm (p := 11037) (by decide +kernel) rfl))) (hts _ (eb_m (ev_gm (p := 11038) (by decide +kernel) rfl))) rfl (by rw [hml]; exact hl.1) rfl d1 (Nat.le_of_ble_eq_true rfl) (Nat.le_of_ble_eq_true rfl) ?_
  show W _ _ _ _ _ _ _ _ _ _ _ _ _ _ _ (F0 m 4 ls [])
  refine lv_aload_n hx hb d4 rfl (lv_at hl 1 rfl) ?_
  refine va_callr (va_runU (As := []) (rest := []) ⟨hx, hb, hml, hown, hts⟩ (eb_getValue l D b v cB M f ml n) (va_cwU (C := "java/lang/StringBuilder") (x := ye_getValue) 0 hts (eb_gU eb_ok1 (owner := "java/lang/AbstractStringBuilder") (eb_m (ev_gm (p := 15103) (by decide +kernel) rfl)) (eb_m (ev_gm (p := 15105) (by decide +kernel) rfl)) (eb_m (ev_gm (p := 15106) (by decide +kernel) rfl)) (eb_m (ev_gm (p := 15104) (by decide +kernel) rfl)) (eb_m (ev_ginit (by decide +kernel) rfl)) (eb_m (ev_gm (p := 15107) (by decide +kernel) rfl))) rfl rfl rfl rfl (by decide +kernel) ⟨Nat.le_of_ble_eq_true rfl, Nat.le_of_ble_eq_true rfl⟩) ⟨fun a U g mk q => ⟨q.1, va_K.moved (u := U) (U := U.calling g mk a) (Vm.Alike.refl U.vm) q.2.1, q.2.2⟩, va_recv hK hP (ci := 0) (q0 := 0) rfl rfl, fun U hU hW => ⟨rfl, va_K.moved hW.alike hK, by show va_P D eb_cl _ U.heap; rw [hU]; exact (hP.sub (ws' := eb_W b v cB M f ml n) [0, 1] rfl)⟩⟩ rfl rfl hl.1 rfl (lv_room (Nat.le_of_ble_eq_true rfl)) d5 ⟨Nat.le_of_ble_eq_true rfl, Nat.le_of_ble_eq_true rfl⟩) hS (fun q _ h => h.elim) (fun q h => h.elim) (fun u ra t H2 locs2 ht hvm hw hB hz1 hk1 hS => ?_)
  have hP := eb_keep hP hk1
  have hB : ra = v := hB
  subst hB
  refine lv_astore_n hx hb d8 rfl hl (by decide) rfl (fun ls hl => ?_)
  refine lv_aload_n hx hb d9 rfl (lv_at hl 2 rfl) ?_
  refine va_calli (va_runU (As := []) (rest := []) ⟨hx, hb, hml, hown, hts⟩ (eb_blen l D b ra cB M f ml n) (va_cwO (C := "java/lang/StringBuilder") (x := ye_alen) (y := ye_blen) (b0 := prog_15_method_6_code) (m0 := 1) (r0 := some .int) 0 hts (eb_gO eb_ok1 (owner := "java/lang/AbstractStringBuilder") (eb_m (ev_gm (p := 15108) (by decide +kernel) rfl)) (eb_m (ev_gm (p := 15110) (by decide +kernel) rfl)) (eb_m (ev_gm (p := 15109) (by decide +kernel) rfl)) (eb_m (ev_gm (p := 15111) (by decide +kernel) rfl)) (eb_m (ev_gm (p := 15112) (by decide +kernel) rfl)) (eb_m (ev_ginit (by decide +kernel) rfl)) (eb_m (ev_gm (p := 15113) (by decide +kernel) rfl))) rfl rfl rfl (eb_m (ev_gm (p := 15115) (by decide +kernel) rfl)) (by decide +kernel) ⟨Nat.le_of_ble_eq_true rfl, Nat.le_of_ble_eq_true rfl⟩) ⟨fun a U g mk q => ⟨q.1, va_K.moved (u := U) (U := U.calling g mk a) (Vm.Alike.refl U.vm) q.2.1, q.2.2⟩, va_recv hK hP (ci := 0) (q0 := 0) rfl rfl, fun U hU hW => ⟨rfl, va_K.moved hW.alike hK, by show va_P D eb_cl _ U.heap; rw [hU]; exact (hP.sub (ws' := eb_W b ra cB M f ml n) [0, 1] rfl)⟩⟩ rfl rfl hl.1 rfl (lv_room (Nat.le_of_ble_eq_true rfl)) d10 ⟨Nat.le_of_ble_eq_true rfl, Nat.le_of_ble_eq_true rfl⟩) hS (fun q _ h => h.elim) (fun q h => h.elim) (fun r u t H3 locs3 ht hvm hw hB hz1 hk1 hS => ?_)
  have hP := eb_keep hP hk1
  have hw : r = nI n := hw
  subst hw
  refine lv_istore hx hb d13 hl (by decide) rfl (fun ls hl => ?_)
  refine lv_aload_n hx hb d15 rfl (lv_at hl 3 rfl) ?_
  refine va_calli (va_runU (As := []) (rest := []) ⟨hx, hb, hml, hown, hts⟩ (eb_isLatin1 l D b ra cB M f ml n) (va_cwU (C := "java/lang/StringBuilder") (x := ye_isLatin1) 0 hts (eb_gU eb_ok1 (owner := "java/lang/AbstractStringBuilder") (eb_m (ev_gm (p := 15116) (by decide +kernel) rfl)) (eb_m (ev_gm (p := 14210) (by decide +kernel) rfl)) (eb_m (ev_gm (p := 14211) (by decide +kernel) rfl)) (eb_m (ev_gm (p := 14209) (by decide +kernel) rfl)) (eb_m (ev_ginit (by decide +kernel) rfl)) (eb_m (ev_gm (p := 14212) (by decide +kernel) rfl))) rfl rfl rfl rfl (by decide +kernel) ⟨Nat.le_of_ble_eq_true rfl, Nat.le_of_ble_eq_true rfl⟩) ⟨fun a U g mk q => ⟨q.1, va_K.moved (u := U) (U := U.calling g mk a) (Vm.Alike.refl U.vm) q.2.1, q.2.2.1, va_Z.moved (u := U) (U := U.calling g mk a) (Vm.Alike.refl U.vm) q.2.2.2⟩, va_recv hK hP (ci := 0) (q0 := 0) rfl rfl, fun U hU hW => ⟨rfl, va_K.moved hW.alike hK, by show va_P D eb_cl _ U.heap; rw [hU]; exact (hP.sub (ws' := eb_W b ra cB M f ml n) [0, 1] rfl), by show va_Z _ _ _ _ _ U U.heap; rw [hU]; exact ((hZ.kept hS.2.1).narrow (fun _ z => z.elim)).moved hW.alike⟩⟩ rfl rfl hl.1 rfl (lv_room (Nat.le_of_ble_eq_true rfl)) d16 ⟨Nat.le_of_ble_eq_true rfl, Nat.le_of_ble_eq_true rfl⟩) hS (fun q _ h => h.elim) (fun q h => h.elim) (fun r u t H4 locs4 ht hvm hw hB hz1 hk1 hS => ?_)
  have hP := eb_keep hP hk1
  have hw : r = 1 := hw
  subst hw
  refine lv_if_eq (tgt := 41) hx hb d19 (by decide) (fun z => absurd z (by decide)) (fun _ => ?_)
  refine lv_aload_n hx hb d22 rfl (lv_at hl 2 rfl) ?_
  refine lv_iconst (v := 0) hx hb d23 (by decide) ?_
  refine va_putF (D := D) (ci := 1) (v := .int 0) (ty := .byte) (C := "java/lang/String") (T := eb_G) (N := 4) hx hb hts eb_zw eb_tz eb_tzo eb_nz hown hK hP hD hS 2 rfl rfl 1 (by decide) (hts _ (eb_m (ev_gm (p := 15137) (by decide +kernel) rfl))) (fun _ h9 => h9) rfl hin rfl (by decide +kernel) rfl rfl (Nat.le_of_ble_eq_true rfl) d24 (fun H locs hP hD hS => ?_)
  have hP : va_P D eb_cl [(b, .inr (0, [.ref ra, .int 0, .int ml, .int (nI n)])), (ra, .inl (cB, M, .inl f)), (z, .inr (1, [.null, .int 0, .int 0, .int 0]))] H := hP
  have hD : va_D A [(b, .inr (0, [.ref ra, .int 0, .int ml, .int (nI n)])), (ra, .inl (cB, M, .inl f)), (z, .inr (1, [.null, .int 0, .int 0, .int 0]))] := hD
  refine lv_aload_n hx hb d27 rfl (lv_at hl 2 rfl) ?_
  refine lv_aload_n hx hb d28 rfl (lv_at hl 1 rfl) ?_
  refine lv_iconst (v := nI 0) hx hb d29 (by decide) ?_
  refine lv_iload hx hb d30 (lv_at hl 0 rfl) ?_
  have hPc := hP.sub (ws' := [(ra, .inl (cB, M, .inl f))]) [1] rfl
  have hDc := hD.sub (ws' := [(ra, .inl (cB, M, .inl f))]) [1] (by decide) rfl
  have hFc := va_free (wc := [(ra, .inl (cB, M, .inl f))]) hD hS hA [1] rfl
  refine va_callr (va_runS (As := [.ref ra, .int (nI 0), .int (nI n)]) (rest := [.ref z]) ⟨hx, hb, hml, hown, hts⟩ (eb_copyR l D H.size ra cB M f n hn hM) (va_cwS 3 hts (eb_gS eb_ok1 (eb_m (ev_gm (p := 15117) (by decide +kernel) rfl)) (eb_m (ev_gm (p := 15118) (by decide +kernel) rfl)) (eb_m (ev_ginit (by decide +kernel) rfl)) (eb_m (ev_gm (p := 15119) (by decide +kernel) rfl))) rfl rfl rfl (by decide +kernel) ⟨Nat.le_of_ble_eq_true rfl, Nat.le_of_ble_eq_true rfl⟩) ⟨fun a U g mk q => by obtain ⟨q0, q1, qP, qK, qD, qF⟩ := q; exact ⟨q0, q1, qP, va_K.moved (u := U) (U := U.calling g mk a) (Vm.Alike.refl U.vm) qK, qD, qF.1, va_Nw.same rfl (u := U) rfl qF.2⟩, fun U hU hW => ⟨rfl, by rw [hU], by rw [hU]; exact hPc, va_K.moved hW.alike hK, hDc.weaken (fun _ _ _ _ => trivial), hff, va_Nw.warmC hW hC⟩⟩ rfl rfl hl.1 rfl (lv_room (Nat.le_of_ble_eq_true rfl)) d32 ⟨Nat.le_of_ble_eq_true rfl, Nat.le_of_ble_eq_true rfl⟩) hS (fun q _ h => hFc q h) hFc (fun u rb t H5 locs5 ht hvm hw hB hz1 hk1 hS => ?_)
  obtain ⟨c2, f2⟩ := u
  obtain ⟨hP1, hK1, hD1⟩ := hB
  rw [ht] at hP1
  have hK1 := va_K.moved hvm.symm hK1
  obtain ⟨hP, hD⟩ := va_join (wr := [(z, .inr (1, [.null, .int 0, .int 0, .int 0]))]) (w1 := [(rb, .inl (c2, n, .inl f2))]) hP hD [1] [2] rfl rfl (by decide) (by decide) hk1 hFc hP1 hD1
  have hP : va_P D eb_cl [(z, .inr (1, [.null, .int 0, .int 0, .int 0])), (rb, .inl (c2, n, .inl f2))] H5 := hP
  have hD : va_D A [(z, .inr (1, [.null, .int 0, .int 0, .int 0])), (rb, .inl (c2, n, .inl f2))] := hD
  have hK : va_K D eb_cl [(c2, .byte)] s := hK1
  refine va_putF (D := D) (ci := 1) (v := .ref rb) (ty := .array .byte) (C := "java/lang/String") (T := eb_G) (N := 4) hx hb hts eb_zw eb_tz eb_tzo eb_nz hown hK hP hD hS 0 rfl rfl 0 (by decide) (hts _ (eb_m (ev_gm (p := 15136) (by decide +kernel) rfl))) (fun _ h9 => h9) rfl hin rfl (by decide +kernel) rfl rfl (Nat.le_of_ble_eq_true rfl) d35 (fun H locs hP hD hS => ?_)
  refine lv_goto (tgt := 97) hx hb d38 (by decide) ?_
  exact W.vret hx hb hr (fun t ht hW => ⟨⟨(rb, c2, f2), rfl, hw, by rw [ht]; exact hP, va_K.moved hW.alike hK, hD⟩, hS.F ht⟩) hS.2.2 d97
abbrev ye_strI1 : MethodName := ⟨"java/lang/String", "<init>", "(Ljava/lang/StringBuilder;)V"⟩
set_option maxHeartbeats 4000000 in
set_option maxRecDepth 100000 in
theorem eb_strI1 (l : Launch) (D : va_G) (sz : Nat) (b v : Nat) (cB : ClassId) (M : Nat) (f : Nat → Int32) (ml : Int32) (n z : Nat) (hn : n ≤ M) (hM : M ≤ 1300) : Met l ye_strI1 (Cond.code ye_strI1 prog_28_method_53_code 2 none :: eb_gw) ({ frames := 4, cells := 1, slots := 1300, locals := 160 }) (va_Pc [.ref z, .ref b] (fun U => U.heap.size = sz ∧ va_P D eb_cl [(b, .inr (0, [.ref v, .int 0, .int ml, .int (nI n)])), (v, .inl (cB, M, .inl f)), (z, .inr (1, [.null, .int 0, .int 0, .int 0]))] U.heap ∧ va_K D eb_cl [(cB, .byte)] U ∧ va_D (fun _ => True) [(b, .inr (0, [.ref v, .int 0, .int ml, .int (nI n)])), (v, .inl (cB, M, .inl f)), (z, .inr (1, [.null, .int 0, .int 0, .int 0]))] ∧ eb_ft M f ∧ va_Z "java/lang/String" "COMPACT_STRINGS" "Z" (.int 1) (va_A [(b, .inr (0, [.ref v, .int 0, .int ml, .int (nI n)])), (v, .inl (cB, M, .inl f)), (z, .inr (1, [.null, .int 0, .int 0, .int 0]))] sz) U U.heap ∧ va_Nw (.castable "[B" "java/lang/Cloneable") U)) (va_Qv (fun (u : Nat × ClassId × (Nat → Int32)) => ∀ j, j < n → u.2.2 j = f j) (fun u t => va_P D eb_cl [(z, .inr (1, [.ref u.1, .int 0, .int 0, .int 0])), (u.1, .inl (u.2.1, n, .inl u.2.2))] t.heap ∧ va_K D eb_cl [(u.2.1, .byte)] t ∧ va_D (va_A [(b, .inr (0, [.ref v, .int 0, .int ml, .int (nI n)])), (v, .inl (cB, M, .inl f)), (z, .inr (1, [.null, .int 0, .int 0, .int 0]))] sz) [(z, .inr (1, [.ref u.1, .int 0, .int 0, .int 0])), (u.1, .inl (u.2.1, n, .inl u.2.2))]) (va_A [(b, .inr (0, [.ref v, .int 0, .int ml, .int (nI n)])), (v, .inl (cB, M, .inl f)), (z, .inr (1, [.null, .int 0, .int 0, .int 0]))] sz)) 1 1300 (va_A [(b, .inr (0, [.ref v, .int 0, .int ml, .int (nI n)])), (v, .inl (cB, M, .inl f)), (z, .inr (1, [.null, .int 0, .int 0, .int 0]))] sz) := by
  refine Met.ofW (cc := prog_28_method_53_code) (maxL := 2) (ret := none) (by decide) rfl ?_
  intro p e s m args below meth c s₁ B hml hv
  obtain ⟨rfl, hsz, hP, hK, hD0, hF⟩ := hv
  have hx := B.exec
  have hb := B.bytes
  have hr := B.returns
  have hts0 := atoms_spec (ws := Cond.code ye_strI1 prog_28_method_53_code 2 none :: eb_gw) B.pre
  have hts : ∀ w ∈ eb_gw, w.before _ s = true := fun w hw => hts0 w (List.mem_cons_of_mem _ hw)
  have hown : s.vm.findClass "java/lang/String" = some m.cls := findClass_of_methodNamed B.named
  have hlocks := B.notSynchronized
  subst hsz
  have hD := hD0.self (sz := s.heap.size)
  generalize hAe : va_A [(b, .inr (0, [.ref v, .int 0, .int ml, .int (nI n)])), (v, .inl (cB, M, .inl f)), (z, .inr (1, [.null, .int 0, .int 0, .int 0]))] s.heap.size = A at hD hF ⊢
  have hA : ∀ q : Nat, s.heap.size ≤ q → A q := fun q h => by rw [← hAe]; exact Or.inr h
  have hS : va_S A s.heap s.heap [] := va_S.rf
  have hl := lv_entry ([.ref z, .ref b]) (n := 2) (Nat.le_of_ble_eq_true rfl)
  rw [lg_entry_eq]
  generalize (lg_sl ([.ref z, .ref b]) ++ List.replicate (2 - (lg_sl ([.ref z, .ref b])).length) Slot.unset).toArray = ls at hl ⊢
  have hl : lv_has ls 2 [(0, .ref z), (1, .ref b)] := hl
  have d0 : decode prog_28_method_53_code 0 = .ok (.aload_n 0, 1) := by decide +kernel
  have d1 : decode prog_28_method_53_code 1 = .ok (.aload_n 1, 1) := by decide +kernel
  have d2 : decode prog_28_method_53_code 2 = .ok (.aconst_null, 1) := by decide +kernel
  have d3 : decode prog_28_method_53_code 3 = .ok (.invokespecial 489, 3) := by decide +kernel
  have d6 : decode prog_28_method_53_code 6 = .ok (.return_, 1) := by decide +kernel
  obtain ⟨hff, hZ, hC⟩ := hF
  refine lv_aload_n hx hb d0 rfl (lv_at hl 0 rfl) ?_
  refine lv_aload_n hx hb d1 rfl (lv_at hl 1 rfl) ?_
  refine lv_null hx hb d2 ?_
  have hFc := va_free (wc := [(b, .inr (0, [.ref v, .int 0, .int ml, .int (nI n)])), (v, .inl (cB, M, .inl f)), (z, .inr (1, [.null, .int 0, .int 0, .int 0]))]) hD hS hA [0, 1, 2] rfl
  refine va_callv (va_runI (As := [.ref b, .null]) (rest := []) ⟨hx, hb, hml, hown, hts⟩ (eb_strI2 l D s.heap.size b v cB M f ml n z hn hM) (cwI 2 hts (eb_gI eb_ok1 (eb_m (ev_gm (p := 15101) (by decide +kernel) rfl))) rfl rfl rfl (hts _ (eb_m (ev_ginit (by decide +kernel) rfl))) (hts _ (eb_m (ev_gm (p := 15099) (by decide +kernel) rfl))) (hts _ (eb_m (ev_gm (p := 15100) (by decide +kernel) rfl))) rfl (by decide +kernel) ⟨Nat.le_of_ble_eq_true rfl, Nat.le_of_ble_eq_true rfl⟩) ⟨fun a U g mk q => by obtain ⟨q0, q1, qP, qK, qD, qF⟩ := q; exact ⟨q0, q1, qP, va_K.moved (u := U) (U := U.calling g mk a) (Vm.Alike.refl U.vm) qK, qD, qF.1, va_Z.moved (u := U) (U := U.calling g mk a) (Vm.Alike.refl U.vm) qF.2.1, va_Nw.same rfl (u := U) rfl qF.2.2⟩, fun U hU hW => ⟨rfl, by rw [hU], by rw [hU]; exact hP, va_K.moved hW.alike hK, hD.weaken (fun _ _ _ _ => trivial), hff, by show va_Z _ _ _ _ _ U U.heap; rw [hU]; exact ((hZ.kept hS.2.1).narrow hFc).moved hW.alike, va_Nw.warmC hW hC⟩⟩ rfl rfl hl.1 rfl (lv_room (Nat.le_of_ble_eq_true rfl)) d3 ⟨Nat.le_of_ble_eq_true rfl, Nat.le_of_ble_eq_true rfl⟩) hS (fun q _ h => hFc q h) hFc (fun u t H1 locs1 ht hvm hw hB hz1 hk1 hS => ?_)
  obtain ⟨q1, c2, f2⟩ := u
  obtain ⟨hP1, hK1, hD1⟩ := hB
  dsimp only at hP1 hK1 hD1 hw
  rw [ht] at hP1
  have hK := va_K.moved hvm.symm hK1
  have hD1 := hD1.weaken (fun k q hk h => hFc _ h)
  exact W.vret hx hb hr (fun t2 ht2 hW => ⟨⟨(q1, c2, f2), rfl, hw, by rw [ht2]; exact hP1, va_K.moved hW.alike hK, hD1⟩, hS.F ht2⟩) hS.2.2 d6
abbrev ye_toStr : MethodName := ⟨"java/lang/StringBuilder", "toString", "()Ljava/lang/String;"⟩
set_option maxHeartbeats 4000000 in
set_option maxRecDepth 100000 in
theorem eb_toStr (l : Launch) (D : va_G) (sz : Nat) (b v : Nat) (cB : ClassId) (M : Nat) (f : Nat → Int32) (ml : Int32) (n : Nat) (hn : n ≤ M) (hM : M ≤ 1300) : Met l ye_toStr (Cond.code ye_toStr prog_29_method_42_code 1 (some ((Jvm.ClassFile.FieldType.object "java/lang/String"))) :: eb_gw) ({ frames := 5, cells := 2, slots := 1304, locals := 190 }) (va_Pc [.ref b] (fun U => U.heap.size = sz ∧ va_P D eb_cl (eb_W b v cB M f ml n) U.heap ∧ va_K D eb_cl [(cB, .byte)] U ∧ va_D (fun _ => True) (eb_W b v cB M f ml n) ∧ eb_ft M f ∧ va_Z "java/lang/String" "COMPACT_STRINGS" "Z" (.int 1) (va_A (eb_W b v cB M f ml n) sz) U U.heap ∧ va_Nw (.castable "[B" "java/lang/Cloneable") U)) (va_Qr (fun (u : Nat × ClassId × (Nat → Int32)) => ∀ j, j < n → u.2.2 j = f j) (fun u q t => va_P D eb_cl [(q, .inr (1, [.ref u.1, .int 0, .int 0, .int 0])), (u.1, .inl (u.2.1, n, .inl u.2.2))] t.heap ∧ va_K D eb_cl [(u.2.1, .byte)] t ∧ va_D (va_A (eb_W b v cB M f ml n) sz) [(q, .inr (1, [.ref u.1, .int 0, .int 0, .int 0])), (u.1, .inl (u.2.1, n, .inl u.2.2))]) (va_A (eb_W b v cB M f ml n) sz)) 2 1304 (va_A (eb_W b v cB M f ml n) sz) := by
  refine Met.ofW (cc := prog_29_method_42_code) (maxL := 1) (ret := (some ((Jvm.ClassFile.FieldType.object "java/lang/String")))) (by decide) rfl ?_
  intro p e s m args below meth c s₁ B hml hv
  obtain ⟨rfl, hsz, hP, hK, hD0, hF⟩ := hv
  have hx := B.exec
  have hb := B.bytes
  have hr := B.returns
  have hts0 := atoms_spec (ws := Cond.code ye_toStr prog_29_method_42_code 1 (some ((Jvm.ClassFile.FieldType.object "java/lang/String"))) :: eb_gw) B.pre
  have hts : ∀ w ∈ eb_gw, w.before _ s = true := fun w hw => hts0 w (List.mem_cons_of_mem _ hw)
  have hown : s.vm.findClass "java/lang/StringBuilder" = some m.cls := findClass_of_methodNamed B.named
  have hlocks := B.notSynchronized
  subst hsz
  have hD := hD0.self (sz := s.heap.size)
  generalize hAe : va_A (eb_W b v cB M f ml n) s.heap.size = A at hD hF ⊢
  have hA : ∀ q : Nat, s.heap.size ≤ q → A q := fun q h => by rw [← hAe]; exact Or.inr h
  have hS : va_S A s.heap s.heap [] := va_S.rf
  have hl := lv_entry ([.ref b]) (n := 1) (Nat.le_of_ble_eq_true rfl)
  rw [lg_entry_eq]
  generalize (lg_sl ([.ref b]) ++ List.replicate (1 - (lg_sl ([.ref b])).length) Slot.unset).toArray = ls at hl ⊢
  have hl : lv_has ls 1 [(0, .ref b)] := hl
  have d0 : decode prog_29_method_42_code 0 = .ok (.new 18, 3) := by decide +kernel
  have d3 : decode prog_29_method_42_code 3 = .ok (.dup, 1) := by decide +kernel
  have d4 : decode prog_29_method_42_code 4 = .ok (.aload_n 0, 1) := by decide +kernel
  have d5 : decode prog_29_method_42_code 5 = .ok (.invokespecial 137, 3) := by decide +kernel
  have d8 : decode prog_29_method_42_code 8 = .ok (.areturn, 1) := by decide +kernel
  obtain ⟨hff, hZ, hC⟩ := hF
  refine va_new (D := D) (ci := 1) (C := "java/lang/String") (T := eb_G) (N := 4) (fs := [.null, .int 0, .int 0, .int 0]) hx hb hts eb_zw eb_tz eb_tzo hown (hts _ (eb_m (ev_gm (p := 15094) (by decide +kernel) rfl))) (hts _ (eb_m (ev_gm (p := 15095) (by decide +kernel) rfl))) (hts _ (eb_m (ev_ginit (by decide +kernel) rfl))) hK hP hD hS hA rfl (by decide) (by show 0 + 1 ≤ 2; omega) (by show 0 + 4 ≤ 1304; omega) d0 (fun z H hP hD hS => ?_)
  have hP : va_P D eb_cl [(b, .inr (0, [.ref v, .int 0, .int ml, .int (nI n)])), (v, .inl (cB, M, .inl f)), (z, .inr (1, [.null, .int 0, .int 0, .int 0]))] H := hP
  have hD : va_D A [(b, .inr (0, [.ref v, .int 0, .int ml, .int (nI n)])), (v, .inl (cB, M, .inl f)), (z, .inr (1, [.null, .int 0, .int 0, .int 0]))] := hD
  refine lv_dup hx hb d3 rfl ?_
  refine lv_aload_n hx hb d4 rfl (lv_at hl 0 rfl) ?_
  have hFc := va_free (wc := [(b, .inr (0, [.ref v, .int 0, .int ml, .int (nI n)])), (v, .inl (cB, M, .inl f)), (z, .inr (1, [.null, .int 0, .int 0, .int 0]))]) hD hS hA [0, 1, 2] rfl
  refine va_callv (va_runI (As := [.ref b]) (rest := [.ref z]) ⟨hx, hb, hml, hown, hts⟩ (eb_strI1 l D H.size b v cB M f ml n z hn hM) (cwI 1 hts (eb_gI eb_ok1 (eb_m (ev_gm (p := 15098) (by decide +kernel) rfl))) rfl rfl rfl (hts _ (eb_m (ev_ginit (by decide +kernel) rfl))) (hts _ (eb_m (ev_gm (p := 15096) (by decide +kernel) rfl))) (hts _ (eb_m (ev_gm (p := 15097) (by decide +kernel) rfl))) rfl (by decide +kernel) ⟨Nat.le_of_ble_eq_true rfl, Nat.le_of_ble_eq_true rfl⟩) ⟨fun a U g mk q => by obtain ⟨q0, q1, qP, qK, qD, qF⟩ := q; exact ⟨q0, q1, qP, va_K.moved (u := U) (U := U.calling g mk a) (Vm.Alike.refl U.vm) qK, qD, qF.1, va_Z.moved (u := U) (U := U.calling g mk a) (Vm.Alike.refl U.vm) qF.2.1, va_Nw.same rfl (u := U) rfl qF.2.2⟩, fun U hU hW => ⟨rfl, by rw [hU], by rw [hU]; exact hP, va_K.moved hW.alike hK, hD.weaken (fun _ _ _ _ => trivial), hff, by show va_Z _ _ _ _ _ U U.heap; rw [hU]; exact ((hZ.kept hS.2.1).narrow hFc).moved hW.alike, va_Nw.warmC hW hC⟩⟩ rfl rfl hl.1 rfl (lv_room (Nat.le_of_ble_eq_true rfl)) d5 ⟨Nat.le_of_ble_eq_true rfl, Nat.le_of_ble_eq_true rfl⟩) hS (fun q _ h => hFc q h) hFc (fun u t H1 locs1 ht hvm hw hB hz1 hk1 hS => ?_)
  obtain ⟨q1, c2, f2⟩ := u
  obtain ⟨hP1, hK1, hD1⟩ := hB
  dsimp only at hP1 hK1 hD1 hw
  rw [ht] at hP1
  have hK := va_K.moved hvm.symm hK1
  have hD1 := hD1.weaken (fun k q hk h => hFc _ h)
  exact W.aret hx hb hr (.inl ⟨_, rfl⟩) (.inr ⟨_, rfl⟩) (fun t2 ht2 hW => ⟨⟨(q1, c2, f2), z, rfl, hw, by rw [ht2]; exact hP1, va_K.moved hW.alike hK, hD1⟩, hS.F ht2⟩) hS.2.2 d8
