abbrev ye_aappI : MethodName := ⟨"java/lang/AbstractStringBuilder", "append", "(I)Ljava/lang/AbstractStringBuilder;"⟩
set_option maxHeartbeats 4000000 in
set_option maxRecDepth 100000 in
theorem eb_aappI (l : Launch) (D : va_G) (sz : Nat) (b v : Nat) (cB : ClassId) (M : Nat) (f : Nat → Int32) (ml : Int32) (n : Nat) (k : Nat) (hk : k < 1000) (hM : M ≤ 600) (hn : n ≤ M) (hN : n + eb_sz k ≤ 300) : Met l ye_aappI (Cond.code ye_aappI prog_15_method_32_code 4 (some ((Jvm.ClassFile.FieldType.object "java/lang/AbstractStringBuilder"))) :: eb_gw) ({ frames := 4, cells := 1, slots := 1300, locals := 120 }) (va_Pc [.ref b, .int (nI k)] (fun U => U.heap.size = sz ∧ va_P D eb_cl (eb_W b v cB M f ml n) U.heap ∧ va_K D eb_cl [(cB, .byte)] U ∧ va_D (fun _ => True) (eb_W b v cB M f ml n) ∧ eb_I (va_A (eb_W b v cB M f ml n) sz) U U.heap ∧ va_Z "java/lang/String" "COMPACT_STRINGS" "Z" (.int 1) (va_A (eb_W b v cB M f ml n) sz) U U.heap ∧ eb_ft M f)) (va_Qr (eb_ap n (eb_sz k) f (fun j => nI ((dg k).getD j 0))) (fun (u : eb_S) q t => q = b ∧ eb_B D (va_A (eb_W b v cB M f ml n) sz) b ml (n + (eb_sz k)) u t) (va_A (eb_W b v cB M f ml n) sz)) 1 1300 (va_A (eb_W b v cB M f ml n) sz) := by
  refine Met.ofW (cc := prog_15_method_32_code) (maxL := 4) (ret := (some ((Jvm.ClassFile.FieldType.object "java/lang/AbstractStringBuilder")))) (by decide) rfl ?_
  intro p e s m args below meth c s₁ B hml hv
  obtain ⟨rfl, hsz, hP, hK, hD0, hF⟩ := hv
  have hx := B.exec
  have hb := B.bytes
  have hr := B.returns
  have hts0 := atoms_spec (ws := Cond.code ye_aappI prog_15_method_32_code 4 (some ((Jvm.ClassFile.FieldType.object "java/lang/AbstractStringBuilder"))) :: eb_gw) B.pre
  have hts : ∀ w ∈ eb_gw, w.before _ s = true := fun w hw => hts0 w (List.mem_cons_of_mem _ hw)
  have hown : s.vm.findClass "java/lang/AbstractStringBuilder" = some m.cls := findClass_of_methodNamed B.named
  have hlocks := B.notSynchronized
  subst hsz
  have hD := hD0.self (sz := s.heap.size)
  generalize hAe : va_A (eb_W b v cB M f ml n) s.heap.size = A at hD hF ⊢
  have hA : ∀ q : Nat, s.heap.size ≤ q → A q := fun q h => by rw [← hAe]; exact Or.inr h
  have hS : va_S A s.heap s.heap [] := va_S.rf
  have hl := lv_entry ([.ref b, .int (nI k)]) (n := 4) (Nat.le_of_ble_eq_true rfl)
  rw [lg_entry_eq]
  generalize (lg_sl ([.ref b, .int (nI k)]) ++ List.replicate (4 - (lg_sl ([.ref b, .int (nI k)])).length) Slot.unset).toArray = ls at hl ⊢
  have hl : lv_has ls 4 [(0, .ref b), (1, .int (nI k))] := hl
  have d0 : decode prog_15_method_32_code 0 = .ok (.aload_n 0, 1) := by decide +kernel
  have d1 : decode prog_15_method_32_code 1 = .ok (.getfield 79, 3) := by decide +kernel
  have d4 : decode prog_15_method_32_code 4 = .ok (.istore_n 2, 1) := by decide +kernel
  have d5 : decode prog_15_method_32_code 5 = .ok (.iload_n 2, 1) := by decide +kernel
  have d6 : decode prog_15_method_32_code 6 = .ok (.iload_n 1, 1) := by decide +kernel
  have d7 : decode prog_15_method_32_code 7 = .ok (.invokestatic 245, 3) := by decide +kernel
  have d10 : decode prog_15_method_32_code 10 = .ok (.iadd, 1) := by decide +kernel
  have d11 : decode prog_15_method_32_code 11 = .ok (.istore_n 3, 1) := by decide +kernel
  have d12 : decode prog_15_method_32_code 12 = .ok (.aload_n 0, 1) := by decide +kernel
  have d13 : decode prog_15_method_32_code 13 = .ok (.iload_n 3, 1) := by decide +kernel
  have d14 : decode prog_15_method_32_code 14 = .ok (.invokevirtual 100, 3) := by decide +kernel
  have d17 : decode prog_15_method_32_code 17 = .ok (.aload_n 0, 1) := by decide +kernel
  have d18 : decode prog_15_method_32_code 18 = .ok (.invokevirtual 83, 3) := by decide +kernel
  have d21 : decode prog_15_method_32_code 21 = .ok (.ifCond .eq (16), 3) := by decide +kernel
  have d24 : decode prog_15_method_32_code 24 = .ok (.iload_n 1, 1) := by decide +kernel
  have d25 : decode prog_15_method_32_code 25 = .ok (.iload_n 3, 1) := by decide +kernel
  have d26 : decode prog_15_method_32_code 26 = .ok (.aload_n 0, 1) := by decide +kernel
  have d27 : decode prog_15_method_32_code 27 = .ok (.getfield 15, 3) := by decide +kernel
  have d30 : decode prog_15_method_32_code 30 = .ok (.invokestatic 248, 3) := by decide +kernel
  have d33 : decode prog_15_method_32_code 33 = .ok (.pop, 1) := by decide +kernel
  have d34 : decode prog_15_method_32_code 34 = .ok (.goto (14), 3) := by decide +kernel
  have d48 : decode prog_15_method_32_code 48 = .ok (.aload_n 0, 1) := by decide +kernel
  have d49 : decode prog_15_method_32_code 49 = .ok (.iload_n 3, 1) := by decide +kernel
  have d50 : decode prog_15_method_32_code 50 = .ok (.putfield 79, 3) := by decide +kernel
  have d53 : decode prog_15_method_32_code 53 = .ok (.aload_n 0, 1) := by decide +kernel
  have d54 : decode prog_15_method_32_code 54 = .ok (.areturn, 1) := by decide +kernel
  obtain ⟨hI, hZ, hff⟩ := hF
  refine lv_aload_n hx hb d0 rfl (lv_at hl 0 rfl) ?_
  refine va_get (D := D) (ci := 0) (v := .int (nI n)) (C := "java/lang/StringBuilder") (T := eb_F) (N := 4) hx hb hts eb_sw hown hK hP 0 rfl rfl 3 (by decide) (hts _ (eb_m (ev_gm (p := 15025) (by decide +kernel) rfl))) (fun _ h9 => h9) rfl d1 ?_
  refine lv_istore_n hx hb d4 rfl hl (by decide) rfl (fun ls hl => ?_)
  refine lv_iload_n hx hb d5 rfl (lv_at hl 0 rfl) ?_
  refine lv_iload_n hx hb d6 rfl (lv_at hl 2 rfl) ?_
  refine va_calli (va_runS (As := [.int (nI k)]) (rest := [.int (nI n)]) ⟨hx, hb, hml, hown, hts⟩ (eb_stringSize l D k hk) (va_cwS 1 hts (eb_gS eb_ok1 (eb_m (ev_gm (p := 15042) (by decide +kernel) rfl)) (eb_m (ev_gm (p := 15043) (by decide +kernel) rfl)) (eb_m (ev_ginit (by decide +kernel) rfl)) (eb_m (ev_gm (p := 15044) (by decide +kernel) rfl))) rfl rfl rfl (by decide +kernel) ⟨Nat.le_of_ble_eq_true rfl, Nat.le_of_ble_eq_true rfl⟩) ⟨fun a U g mk q => ⟨q.1, trivial⟩, fun U hU hW => ⟨rfl, trivial⟩⟩ rfl rfl hl.1 rfl (lv_room (Nat.le_of_ble_eq_true rfl)) d7 ⟨Nat.le_of_ble_eq_true rfl, Nat.le_of_ble_eq_true rfl⟩) hS (fun q _ h => h.elim) (fun q h => h.elim) (fun r u t H1 locs1 ht hvm hw hB hz1 hk1 hS => ?_)
  have hw : r = nI (eb_sz k) := hw
  subst hw
  have hP := eb_keep hP hk1
  refine lv_iadd hx hb d10 ?_
  refine lv_topi (fun y ey => ?_); obtain rfl : y = nI (n + eb_sz k) := ey.trans (nI_add _ _)
  refine lv_istore_n hx hb d11 rfl hl (by decide) rfl (fun ls hl => ?_)
  refine lv_aload_n hx hb d12 rfl (lv_at hl 2 rfl) ?_
  refine lv_iload_n hx hb d13 rfl (lv_at hl 0 rfl) ?_
  have hFc := va_free (wc := (eb_W b v cB M f ml n)) hD hS hA [0, 1] rfl
  refine va_callv (va_runU (As := [.int (nI (n + eb_sz k))]) (rest := []) ⟨hx, hb, hml, hown, hts⟩ (eb_ensure l D H1.size b v cB M f ml n (n + eb_sz k) hM hN) (va_cwU (C := "java/lang/StringBuilder") 1 hts (eb_gU eb_ok1 (owner := "java/lang/AbstractStringBuilder") (eb_m (ev_gm (p := 14178) (by decide +kernel) rfl)) (eb_m (ev_gm (p := 17022) (by decide +kernel) rfl)) (eb_p (k := 0) rfl) (eb_m (ev_gm (p := 14180) (by decide +kernel) rfl)) (eb_m (ev_ginit (by decide +kernel) rfl)) (eb_m (ev_gm (p := 14181) (by decide +kernel) rfl))) rfl rfl rfl rfl (by decide +kernel) ⟨Nat.le_of_ble_eq_true rfl, Nat.le_of_ble_eq_true rfl⟩) ⟨fun a U g mk q => by obtain ⟨q0, q1, qP, qK, qD, qF⟩ := q; exact ⟨q0, q1, qP, va_K.moved (u := U) (U := U.calling g mk a) (Vm.Alike.refl U.vm) qK, qD, qF⟩, va_recv hK hP (ci := 0) (q0 := 0) rfl rfl, fun U hU hW => ⟨rfl, by rw [hU], by rw [hU]; exact hP, va_K.moved hW.alike hK, hD.weaken (fun _ _ _ _ => trivial), hff⟩⟩ rfl rfl hl.1 rfl (lv_room (Nat.le_of_ble_eq_true rfl)) d14 ⟨Nat.le_of_ble_eq_true rfl, Nat.le_of_ble_eq_true rfl⟩) hS (fun q _ h => hFc q h) hFc (fun u t H2 locs2 ht hvm hw hB hz1 hk1 hS => ?_)
  obtain ⟨v1, c1, M1, f1⟩ := u
  obtain ⟨hP1, hK1, hD1⟩ := hB
  dsimp only at hP1 hK1 hD1
  rw [ht] at hP1
  have hK := va_K.moved hvm.symm hK1
  obtain ⟨hP, hD⟩ := va_join (wr := []) (w1 := (eb_W b v1 c1 M1 f1 ml n)) hP hD [0, 1] [] rfl rfl (by decide) (by decide) hk1 hFc hP1 hD1
  have hP : va_P D eb_cl (eb_W b v1 c1 M1 f1 ml n) H2 := hP
  have hD : va_D A (eb_W b v1 c1 M1 f1 ml n) := hD
  obtain ⟨w1, w2, w3, w4, w5⟩ := hw
  dsimp only at w1 w2 w3 w4 w5
  refine lv_aload_n hx hb d17 rfl (lv_at hl 2 rfl) ?_
  refine va_calli (va_runU (As := []) (rest := []) ⟨hx, hb, hml, hown, hts⟩ (eb_isLatin1 l D b v1 c1 M1 f1 ml n) (va_cwU (C := "java/lang/StringBuilder") (x := ye_isLatin1) 0 hts (eb_gU eb_ok1 (owner := "java/lang/AbstractStringBuilder") (eb_m (ev_gm (p := 14208) (by decide +kernel) rfl)) (eb_m (ev_gm (p := 14210) (by decide +kernel) rfl)) (eb_m (ev_gm (p := 14211) (by decide +kernel) rfl)) (eb_m (ev_gm (p := 14209) (by decide +kernel) rfl)) (eb_m (ev_ginit (by decide +kernel) rfl)) (eb_m (ev_gm (p := 14212) (by decide +kernel) rfl))) rfl rfl rfl rfl (by decide +kernel) ⟨Nat.le_of_ble_eq_true rfl, Nat.le_of_ble_eq_true rfl⟩) ⟨fun a U g mk q => ⟨q.1, va_K.moved (u := U) (U := U.calling g mk a) (Vm.Alike.refl U.vm) q.2.1, q.2.2.1, va_Z.moved (u := U) (U := U.calling g mk a) (Vm.Alike.refl U.vm) q.2.2.2⟩, va_recv hK hP (ci := 0) (q0 := 0) rfl rfl, fun U hU hW => ⟨rfl, va_K.moved hW.alike hK, by show va_P D eb_cl _ U.heap; rw [hU]; exact hP, by show va_Z _ _ _ _ _ U U.heap; rw [hU]; exact ((hZ.kept hS.2.1).narrow (fun _ z => z.elim)).moved hW.alike⟩⟩ rfl rfl hl.1 rfl (lv_room (Nat.le_of_ble_eq_true rfl)) d18 ⟨Nat.le_of_ble_eq_true rfl, Nat.le_of_ble_eq_true rfl⟩) hS (fun q _ h => h.elim) (fun q h => h.elim) (fun r u t H3 locs1 ht hvm hw hB hz1 hk1 hS => ?_)
  have hw : r = 1 := hw
  subst hw
  have hP := eb_keep hP hk1
  refine lv_if_eq (tgt := 37) hx hb d21 (by decide) (fun z => absurd z (by decide)) (fun _ => ?_)
  refine lv_iload_n hx hb d24 rfl (lv_at hl 3 rfl) ?_
  refine lv_iload_n hx hb d25 rfl (lv_at hl 0 rfl) ?_
  refine lv_aload_n hx hb d26 rfl (lv_at hl 2 rfl) ?_
  refine va_get (D := D) (ci := 0) (v := .ref v1) (C := "java/lang/StringBuilder") (T := eb_F) (N := 4) hx hb hts eb_sw hown hK hP 0 rfl rfl 0 (by decide) (hts _ (eb_m (ev_gm (p := 15022) (by decide +kernel) rfl))) (fun _ h9 => h9) rfl d27 ?_
  have hPc := hP.sub (ws' := [(v1, .inl (c1, M1, .inl f1))]) [1] rfl
  have hDc := hD.sub (ws' := [(v1, .inl (c1, M1, .inl f1))]) [1] (by decide) rfl
  have hFc := va_free (wc := [(v1, .inl (c1, M1, .inl f1))]) hD hS hA [1] rfl
  refine va_calli (va_runS (As := [.int (nI k), .int (nI (n + eb_sz k)), .ref v1]) (rest := []) ⟨hx, hb, hml, hown, hts⟩ (eb_getChars l D H3.size v1 c1 M1 f1 n k hk w1 (by omega)) (va_cwS 3 hts (eb_gS eb_ok1 (eb_m (ev_gm (p := 15045) (by decide +kernel) rfl)) (eb_m (ev_gm (p := 15046) (by decide +kernel) rfl)) (eb_m (ev_ginit (by decide +kernel) rfl)) (eb_m (ev_gm (p := 15047) (by decide +kernel) rfl))) rfl rfl rfl (by decide +kernel) ⟨Nat.le_of_ble_eq_true rfl, Nat.le_of_ble_eq_true rfl⟩) ⟨fun a U g mk q => by obtain ⟨q0, q1, qP, qK, qD, qF⟩ := q; exact ⟨q0, q1, qP, va_K.moved (u := U) (U := U.calling g mk a) (Vm.Alike.refl U.vm) qK, qD, eb_I.moved (u := U) (U := U.calling g mk a) (Vm.Alike.refl U.vm) qF.1, qF.2⟩, fun U hU hW => ⟨rfl, by rw [hU], by rw [hU]; exact hPc, va_K.moved hW.alike hK, hDc.weaken (fun _ _ _ _ => trivial), by show eb_I _ U U.heap; rw [hU]; exact ((hI.kept hS.2.1).narrow hFc).moved hW.alike, w5⟩⟩ rfl rfl hl.1 rfl (lv_room (Nat.le_of_ble_eq_true rfl)) d30 ⟨Nat.le_of_ble_eq_true rfl, Nat.le_of_ble_eq_true rfl⟩) hS (fun q _ h => hFc q h) hFc (fun r u t H4 locs4 ht hvm hw hB hz1 hk1 hS => ?_)
  obtain ⟨f2, rfl⟩ : ∃ z, z = u := ⟨_, rfl⟩
  obtain ⟨hP1, hK1, hD1⟩ := hB
  rw [ht] at hP1
  have hK := va_K.moved hvm.symm hK1
  obtain ⟨hP, hD⟩ := va_join (wr := [(b, .inr (0, [.ref v1, .int 0, .int ml, .int (nI n)]))]) (w1 := [(v1, .inl (c1, M1, .inl f2))]) hP hD [1] [0] rfl rfl (by decide) (by decide) hk1 hFc hP1 hD1
  have hP : va_P D eb_cl (eb_W b v1 c1 M1 f2 ml n) H4 := hP
  have hD : va_D A (eb_W b v1 c1 M1 f2 ml n) := hD
  refine lv_pop hx hb d33 rfl ?_
  refine lv_goto (tgt := 48) hx hb d34 (by decide) ?_
  refine lv_aload_n hx hb d48 rfl (lv_at hl 2 rfl) ?_
  refine lv_iload_n hx hb d49 rfl (lv_at hl 0 rfl) ?_
  refine va_put (D := D) (ci := 0) (v := .int (nI (n + eb_sz k))) (ty := .int) (C := "java/lang/StringBuilder") (T := eb_F) (N := 4) hx hb hts eb_sw eb_ty eb_tyo eb_nm hown hK hP hD hS 0 rfl rfl 3 (by decide) (hts _ (eb_m (ev_gm (p := 15025) (by decide +kernel) rfl))) (fun _ h9 => h9) rfl (by decide +kernel) rfl rfl (Nat.le_of_ble_eq_true rfl) d50 (fun H locs hP hD hS => ?_)
  have hP : va_P D eb_cl (eb_W b v1 c1 M1 f2 ml (n + eb_sz k)) H := hP
  have hD : va_D A (eb_W b v1 c1 M1 f2 ml (n + eb_sz k)) := hD
  refine lv_aload_n hx hb d53 rfl (lv_at hl 2 rfl) ?_
  have hap : eb_ap n (eb_sz k) f (fun j => nI ((dg k).getD j 0)) (v1, c1, M1, f2) := ⟨w1, w3, fun j hj => (hw.1 j hj).trans (w4 j (by omega)), hw.2.1, hw.2.2⟩
  exact W.aret hx hb hr (.inl ⟨_, rfl⟩) (.inr ⟨_, rfl⟩) (fun t ht hW => ⟨⟨_, b, rfl, hap, rfl, by unfold eb_B; exact ⟨by rw [ht]; exact hP, va_K.moved hW.alike hK, hD⟩⟩, hS.F ht⟩) hS.2.2 d54
abbrev ye_sappI : MethodName := ⟨"java/lang/StringBuilder", "append", "(I)Ljava/lang/StringBuilder;"⟩
set_option maxHeartbeats 4000000 in
set_option maxRecDepth 100000 in
theorem eb_sappI (l : Launch) (D : va_G) (sz : Nat) (b v : Nat) (cB : ClassId) (M : Nat) (f : Nat → Int32) (ml : Int32) (n : Nat) (k : Nat) (hk : k < 1000) (hM : M ≤ 600) (hn : n ≤ M) (hN : n + eb_sz k ≤ 300) : Met l ye_sappI (Cond.code ye_sappI prog_29_method_15_code 2 (some ((Jvm.ClassFile.FieldType.object "java/lang/StringBuilder"))) :: eb_gw) ({ frames := 5, cells := 1, slots := 1300, locals := 150 }) (va_Pc [.ref b, .int (nI k)] (fun U => U.heap.size = sz ∧ va_P D eb_cl (eb_W b v cB M f ml n) U.heap ∧ va_K D eb_cl [(cB, .byte)] U ∧ va_D (fun _ => True) (eb_W b v cB M f ml n) ∧ eb_I (va_A (eb_W b v cB M f ml n) sz) U U.heap ∧ va_Z "java/lang/String" "COMPACT_STRINGS" "Z" (.int 1) (va_A (eb_W b v cB M f ml n) sz) U U.heap ∧ eb_ft M f)) (va_Qr (eb_ap n (eb_sz k) f (fun j => nI ((dg k).getD j 0))) (fun (u : eb_S) q t => q = b ∧ eb_B D (va_A (eb_W b v cB M f ml n) sz) b ml (n + (eb_sz k)) u t) (va_A (eb_W b v cB M f ml n) sz)) 1 1300 (va_A (eb_W b v cB M f ml n) sz) := by
  refine Met.ofW (cc := prog_29_method_15_code) (maxL := 2) (ret := (some ((Jvm.ClassFile.FieldType.object "java/lang/StringBuilder")))) (by decide) rfl ?_
  intro p e s m args below meth c s₁ B hml hv
  obtain ⟨rfl, hsz, hP, hK, hD0, hF⟩ := hv
  have hx := B.exec
  have hb := B.bytes
  have hr := B.returns
  have hts0 := atoms_spec (ws := Cond.code ye_sappI prog_29_method_15_code 2 (some ((Jvm.ClassFile.FieldType.object "java/lang/StringBuilder"))) :: eb_gw) B.pre
  have hts : ∀ w ∈ eb_gw, w.before _ s = true := fun w hw => hts0 w (List.mem_cons_of_mem _ hw)
  have hown : s.vm.findClass "java/lang/StringBuilder" = some m.cls := findClass_of_methodNamed B.named
  have hlocks := B.notSynchronized
  subst hsz
  have hD := hD0.self (sz := s.heap.size)
  generalize hAe : va_A (eb_W b v cB M f ml n) s.heap.size = A at hD hF ⊢
  have hA : ∀ q : Nat, s.heap.size ≤ q → A q := fun q h => by rw [← hAe]; exact Or.inr h
  have hS : va_S A s.heap s.heap [] := va_S.rf
  have hl := lv_entry ([.ref b, .int (nI k)]) (n := 2) (Nat.le_of_ble_eq_true rfl)
  rw [lg_entry_eq]
  generalize (lg_sl ([.ref b, .int (nI k)]) ++ List.replicate (2 - (lg_sl ([.ref b, .int (nI k)])).length) Slot.unset).toArray = ls at hl ⊢
  have hl : lv_has ls 2 [(0, .ref b), (1, .int (nI k))] := hl
  have d0 : decode prog_29_method_15_code 0 = .ok (.aload_n 0, 1) := by decide +kernel
  have d1 : decode prog_29_method_15_code 1 = .ok (.iload_n 1, 1) := by decide +kernel
  have d2 : decode prog_29_method_15_code 2 = .ok (.invokespecial 53, 3) := by decide +kernel
  have d5 : decode prog_29_method_15_code 5 = .ok (.pop, 1) := by decide +kernel
  have d6 : decode prog_29_method_15_code 6 = .ok (.aload_n 0, 1) := by decide +kernel
  have d7 : decode prog_29_method_15_code 7 = .ok (.areturn, 1) := by decide +kernel
  refine lv_aload_n hx hb d0 rfl (lv_at hl 0 rfl) ?_
  refine lv_iload_n hx hb d1 rfl (lv_at hl 1 rfl) ?_
  have hFc := va_free (wc := (eb_W b v cB M f ml n)) hD hS hA [0, 1] rfl
  refine va_callr (va_runSU (hK.1 0 _ rfl).2 (As := [.int (nI k)]) (rest := []) ⟨hx, hb, hml, hown, hts⟩ (eb_aappI l D s.heap.size b v cB M f ml n k hk hM hn hN) (va_cwSU 1 hts (eb_gSU eb_ok1 (eb_m (ev_gm (p := 15039) (by decide +kernel) rfl)) (eb_m (ev_gm (p := 17027) (by decide +kernel) rfl)) (eb_m (ev_gm (p := 14172) (by decide +kernel) rfl)) (eb_m (ev_gm (p := 15040) (by decide +kernel) rfl)) (eb_m (ev_ginit (by decide +kernel) rfl)) (eb_m (ev_gm (p := 15041) (by decide +kernel) rfl))) rfl rfl rfl (by decide +kernel) ⟨Nat.le_of_ble_eq_true rfl, Nat.le_of_ble_eq_true rfl⟩) ⟨fun a U g mk q => by obtain ⟨q0, q1, qP, qK, qD, qF⟩ := q; exact ⟨q0, q1, qP, va_K.moved (u := U) (U := U.calling g mk a) (Vm.Alike.refl U.vm) qK, qD, eb_I.moved (u := U) (U := U.calling g mk a) (Vm.Alike.refl U.vm) qF.1, va_Z.moved (u := U) (U := U.calling g mk a) (Vm.Alike.refl U.vm) qF.2.1, qF.2.2⟩, va_recv hK hP (ci := 0) (q0 := 0) rfl rfl, fun U hU hW => ⟨rfl, by rw [hU], by rw [hU]; exact hP, va_K.moved hW.alike hK, hD.weaken (fun _ _ _ _ => trivial), by show eb_I _ U U.heap; rw [hU]; exact ((hF.1.kept hS.2.1).narrow hFc).moved hW.alike, by show va_Z _ _ _ _ _ U U.heap; rw [hU]; exact ((hF.2.1.kept hS.2.1).narrow hFc).moved hW.alike, hF.2.2⟩⟩ rfl rfl hl.1 rfl (lv_room (Nat.le_of_ble_eq_true rfl)) d2 ⟨Nat.le_of_ble_eq_true rfl, Nat.le_of_ble_eq_true rfl⟩) hS (fun q _ h => hFc q h) hFc (fun u ra t H1 locs1 ht hvm hw hB hz1 hk1 hS => ?_)
  obtain ⟨v1, c1, M1, f1⟩ := u
  obtain ⟨hq, hB⟩ := hB
  subst hq
  obtain ⟨hP1, hK1, hD1⟩ := hB
  dsimp only at hP1 hK1 hD1
  rw [ht] at hP1
  have hK := va_K.moved hvm.symm hK1
  obtain ⟨hP, hD⟩ := va_join (wr := []) (w1 := (eb_W _ v1 c1 M1 f1 ml (n + (eb_sz k)))) hP hD [0, 1] [] rfl rfl (by decide) (by decide) hk1 hFc hP1 hD1
  have hP : va_P D eb_cl (eb_W _ v1 c1 M1 f1 ml (n + (eb_sz k))) H1 := hP
  have hD : va_D A (eb_W _ v1 c1 M1 f1 ml (n + (eb_sz k))) := hD
  refine lv_pop hx hb d5 rfl ?_
  refine lv_aload_n hx hb d6 rfl (lv_at hl 0 rfl) ?_
  exact W.aret hx hb hr (.inl ⟨_, rfl⟩) (.inr ⟨_, rfl⟩) (fun t ht hW => ⟨⟨(v1, c1, M1, f1), _, rfl, hw, rfl, by unfold eb_B; exact ⟨by rw [ht]; exact hP, va_K.moved hW.alike hK, hD⟩⟩, hS.F ht⟩) hS.2.2 d7
