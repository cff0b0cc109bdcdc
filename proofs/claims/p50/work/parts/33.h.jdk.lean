abbrev ye_bri : MethodName := ⟨"java/lang/StringBuilder", "append", "(Ljava/lang/String;)Ljava/lang/AbstractStringBuilder;"⟩
set_option maxHeartbeats 4000000 in
set_option maxRecDepth 100000 in
theorem eb_bri (l : Launch) (D : va_G) (sz : Nat) (b v : Nat) (cB : ClassId) (M : Nat) (f : Nat → Int32) (ml : Int32) (n : Nat) (N : Nat) (fx : Nat → Int32) (a w : Nat) (hM : M ≤ 600) (hn : n ≤ M) (hN : n + N ≤ 300) : Met l ye_bri (Cond.code ye_bri prog_29_method_80_code 2 (some ((Jvm.ClassFile.FieldType.object "java/lang/AbstractStringBuilder"))) :: eb_gw) ({ frames := 6, cells := 1, slots := 1300, locals := 180 }) (va_Pc [.ref b, .ref a] (fun U => U.heap.size = sz ∧ va_P D eb_cl (eb_W b v cB M f ml n) U.heap ∧ va_K D eb_cl [(cB, .byte)] U ∧ va_D (fun _ => True) (eb_W b v cB M f ml n) ∧ eb_T (va_A (eb_W b v cB M f ml n) sz) N fx a w U U.heap ∧ eb_ft N fx ∧ eb_ft M f)) (va_Qr (eb_ap n N f fx) (fun (u : eb_S) q t => q = b ∧ eb_B D (va_A (eb_W b v cB M f ml n) sz) b ml (n + N) u t) (va_A (eb_W b v cB M f ml n) sz)) 1 1300 (va_A (eb_W b v cB M f ml n) sz) := by
  refine Met.ofW (cc := prog_29_method_80_code) (maxL := 2) (ret := (some ((Jvm.ClassFile.FieldType.object "java/lang/AbstractStringBuilder")))) (by decide) rfl ?_
  intro p e s m args below meth c s₁ B hml hv
  obtain ⟨rfl, hsz, hP, hK, hD0, hF⟩ := hv
  have hx := B.exec
  have hb := B.bytes
  have hr := B.returns
  have hts0 := atoms_spec (ws := Cond.code ye_bri prog_29_method_80_code 2 (some ((Jvm.ClassFile.FieldType.object "java/lang/AbstractStringBuilder"))) :: eb_gw) B.pre
  have hts : ∀ w ∈ eb_gw, w.before _ s = true := fun w hw => hts0 w (List.mem_cons_of_mem _ hw)
  have hown : s.vm.findClass "java/lang/StringBuilder" = some m.cls := findClass_of_methodNamed B.named
  have hlocks := B.notSynchronized
  subst hsz
  have hD := hD0.self (sz := s.heap.size)
  generalize hAe : va_A (eb_W b v cB M f ml n) s.heap.size = A at hD hF ⊢
  have hA : ∀ q : Nat, s.heap.size ≤ q → A q := fun q h => by rw [← hAe]; exact Or.inr h
  have hS : va_S A s.heap s.heap [] := va_S.rf
  have hl := lv_entry ([.ref b, .ref a]) (n := 2) (Nat.le_of_ble_eq_true rfl)
  rw [lg_entry_eq]
  generalize (lg_sl ([.ref b, .ref a]) ++ List.replicate (2 - (lg_sl ([.ref b, .ref a])).length) Slot.unset).toArray = ls at hl ⊢
  have hl : lv_has ls 2 [(0, .ref b), (1, .ref a)] := hl
  have d0 : decode prog_29_method_80_code 0 = .ok (.aload_n 0, 1) := by decide +kernel
  have d1 : decode prog_29_method_80_code 1 = .ok (.aload_n 1, 1) := by decide +kernel
  have d2 : decode prog_29_method_80_code 2 = .ok (.invokevirtual 23, 3) := by decide +kernel
  have d5 : decode prog_29_method_80_code 5 = .ok (.areturn, 1) := by decide +kernel
  refine lv_aload_n hx hb d0 rfl (lv_at hl 0 rfl) ?_
  refine lv_aload_n hx hb d1 rfl (lv_at hl 1 rfl) ?_
  have hFc := va_free (wc := (eb_W b v cB M f ml n)) hD hS hA [0, 1] rfl
  refine va_callr (va_runV (As := [.ref a]) (rest := []) ⟨hx, hb, hml, hown, hts⟩ (eb_sappS l D s.heap.size b v cB M f ml n N fx a w hM hn hN) (cwV 1 hts (eb_gV eb_ok1 (eb_m (ev_gm (p := 14167) (by decide +kernel) rfl)) (eb_m (ev_gm (p := 14168) (by decide +kernel) rfl)) (eb_m (ev_gm (p := 14169) (by decide +kernel) rfl)) (eb_m (ev_ginit (by decide +kernel) rfl)) (eb_m (ev_gm (p := 14170) (by decide +kernel) rfl))) rfl rfl rfl (by decide +kernel) ⟨Nat.le_of_ble_eq_true rfl, Nat.le_of_ble_eq_true rfl⟩) ⟨fun a U g mk q => by obtain ⟨q0, q1, qP, qK, qD, qF⟩ := q; exact ⟨q0, q1, qP, va_K.moved (u := U) (U := U.calling g mk a) (Vm.Alike.refl U.vm) qK, qD, eb_T.moved (u := U) (U := U.calling g mk a) (Vm.Alike.refl U.vm) qF.1, qF.2⟩, va_recv hK hP (ci := 0) (q0 := 0) rfl rfl, fun U hU hW => ⟨rfl, by rw [hU], by rw [hU]; exact hP, va_K.moved hW.alike hK, hD.weaken (fun _ _ _ _ => trivial), by show eb_T _ N fx _ w U U.heap; rw [hU]; exact ((hF.1.kept hS.2.1).narrow hFc).moved hW.alike, hF.2⟩⟩ rfl rfl hl.1 rfl (lv_room (Nat.le_of_ble_eq_true rfl)) d2 ⟨Nat.le_of_ble_eq_true rfl, Nat.le_of_ble_eq_true rfl⟩) hS (fun q _ h => hFc q h) hFc (fun u ra t H1 locs1 ht hvm hw hB hz1 hk1 hS => ?_)
  obtain ⟨v1, c1, M1, f1⟩ := u
  obtain ⟨hq, hB⟩ := hB
  subst hq
  obtain ⟨hP1, hK1, hD1⟩ := hB
  dsimp only at hP1 hK1 hD1
  rw [ht] at hP1
  have hK := va_K.moved hvm.symm hK1
  obtain ⟨hP, hD⟩ := va_join (wr := []) (w1 := (eb_W _ v1 c1 M1 f1 ml (n + N))) hP hD [0, 1] [] rfl rfl (by decide) (by decide) hk1 hFc hP1 hD1
  have hP : va_P D eb_cl (eb_W _ v1 c1 M1 f1 ml (n + N)) H1 := hP
  have hD : va_D A (eb_W _ v1 c1 M1 f1 ml (n + N)) := hD
  exact W.aret hx hb hr (.inl ⟨_, rfl⟩) (.inr ⟨_, rfl⟩) (fun t ht hW => ⟨⟨(v1, c1, M1, f1), _, rfl, hw, rfl, by unfold eb_B; exact ⟨by rw [ht]; exact hP, va_K.moved hW.alike hK, hD⟩⟩, hS.F ht⟩) hS.2.2 d5
abbrev ye_ainit : MethodName := ⟨"java/lang/AbstractStringBuilder", "<init>", "(Ljava/lang/String;)V"⟩
set_option maxHeartbeats 4000000 in
set_option maxRecDepth 100000 in
theorem eb_ainit (l : Launch) (D : va_G) (sz : Nat) (b : Nat) (N : Nat) (fx : Nat → Int32) (a w : Nat) (hN : N ≤ 100) : Met l ye_ainit (Cond.code ye_ainit prog_15_method_3_code 5 none :: eb_gw) ({ frames := 7, cells := 2, slots := 1500, locals := 215 }) (va_Pc [.ref b, .ref a] (fun U => U.heap.size = sz ∧ va_P D eb_cl [(b, .inr (0, [.null, .int 0, .int 0, .int 0]))] U.heap ∧ va_K D eb_cl [] U ∧ va_D (fun _ => True) [(b, .inr (0, [.null, .int 0, .int 0, .int 0]))] ∧ eb_T (va_A [(b, .inr (0, [.null, .int 0, .int 0, .int 0]))] sz) N fx a w U U.heap ∧ eb_ft N fx)) (va_Qv (eb_ap 0 N (fun _ => 0) fx) (eb_B D (va_A [(b, .inr (0, [.null, .int 0, .int 0, .int 0]))] sz) b 0 N) (va_A [(b, .inr (0, [.null, .int 0, .int 0, .int 0]))] sz)) 2 1500 (va_A [(b, .inr (0, [.null, .int 0, .int 0, .int 0]))] sz) := by
  refine Met.ofW (cc := prog_15_method_3_code) (maxL := 5) (ret := none) (by decide) rfl ?_
  intro p e s m args below meth c s₁ B hml hv
  obtain ⟨rfl, hsz, hP, hK, hD0, hF⟩ := hv
  have hx := B.exec
  have hb := B.bytes
  have hr := B.returns
  have hts0 := atoms_spec (ws := Cond.code ye_ainit prog_15_method_3_code 5 none :: eb_gw) B.pre
  have hts : ∀ w ∈ eb_gw, w.before _ s = true := fun w hw => hts0 w (List.mem_cons_of_mem _ hw)
  have hown : s.vm.findClass "java/lang/AbstractStringBuilder" = some m.cls := findClass_of_methodNamed B.named
  have hlocks := B.notSynchronized
  subst hsz
  have hD := hD0.self (sz := s.heap.size)
  generalize hAe : va_A [(b, .inr (0, [.null, .int 0, .int 0, .int 0]))] s.heap.size = A at hD hF ⊢
  have hA : ∀ q : Nat, s.heap.size ≤ q → A q := fun q h => by rw [← hAe]; exact Or.inr h
  have hS : va_S A s.heap s.heap [] := va_S.rf
  have hl := lv_entry ([.ref b, .ref a]) (n := 5) (Nat.le_of_ble_eq_true rfl)
  rw [lg_entry_eq]
  generalize (lg_sl ([.ref b, .ref a]) ++ List.replicate (5 - (lg_sl ([.ref b, .ref a])).length) Slot.unset).toArray = ls at hl ⊢
  have hl : lv_has ls 5 [(0, .ref b), (1, .ref a)] := hl
  have d0 : decode prog_15_method_3_code 0 = .ok (.aload_n 0, 1) := by decide +kernel
  have d1 : decode prog_15_method_3_code 1 = .ok (.invokespecial 3, 3) := by decide +kernel
  have d4 : decode prog_15_method_3_code 4 = .ok (.aload_n 1, 1) := by decide +kernel
  have d5 : decode prog_15_method_3_code 5 = .ok (.invokevirtual 32, 3) := by decide +kernel
  have d8 : decode prog_15_method_3_code 8 = .ok (.istore_n 2, 1) := by decide +kernel
  have d9 : decode prog_15_method_3_code 9 = .ok (.iload_n 2, 1) := by decide +kernel
  have d10 : decode prog_15_method_3_code 10 = .ok (.ldc 38, 2) := by decide +kernel
  have d12 : decode prog_15_method_3_code 12 = .ok (.if_icmp .ge (10), 3) := by decide +kernel
  have d15 : decode prog_15_method_3_code 15 = .ok (.iload_n 2, 1) := by decide +kernel
  have d16 : decode prog_15_method_3_code 16 = .ok (.bipush (16), 2) := by decide +kernel
  have d18 : decode prog_15_method_3_code 18 = .ok (.iadd, 1) := by decide +kernel
  have d19 : decode prog_15_method_3_code 19 = .ok (.goto (5), 3) := by decide +kernel
  have d24 : decode prog_15_method_3_code 24 = .ok (.istore_n 3, 1) := by decide +kernel
  have d25 : decode prog_15_method_3_code 25 = .ok (.aload_n 1, 1) := by decide +kernel
  have d26 : decode prog_15_method_3_code 26 = .ok (.invokevirtual 40, 3) := by decide +kernel
  have d29 : decode prog_15_method_3_code 29 = .ok (.istore 4, 2) := by decide +kernel
  have d31 : decode prog_15_method_3_code 31 = .ok (.aload_n 0, 1) := by decide +kernel
  have d32 : decode prog_15_method_3_code 32 = .ok (.iload 4, 2) := by decide +kernel
  have d34 : decode prog_15_method_3_code 34 = .ok (.putfield 22, 3) := by decide +kernel
  have d37 : decode prog_15_method_3_code 37 = .ok (.aload_n 0, 1) := by decide +kernel
  have d38 : decode prog_15_method_3_code 38 = .ok (.iload 4, 2) := by decide +kernel
  have d40 : decode prog_15_method_3_code 40 = .ok (.ifCond .ne (9), 3) := by decide +kernel
  have d43 : decode prog_15_method_3_code 43 = .ok (.iload_n 3, 1) := by decide +kernel
  have d44 : decode prog_15_method_3_code 44 = .ok (.newarray .byte, 2) := by decide +kernel
  have d46 : decode prog_15_method_3_code 46 = .ok (.goto (7), 3) := by decide +kernel
  have d53 : decode prog_15_method_3_code 53 = .ok (.putfield 15, 3) := by decide +kernel
  have d56 : decode prog_15_method_3_code 56 = .ok (.aload_n 0, 1) := by decide +kernel
  have d57 : decode prog_15_method_3_code 57 = .ok (.aload_n 1, 1) := by decide +kernel
  have d58 : decode prog_15_method_3_code 58 = .ok (.invokevirtual 43, 3) := by decide +kernel
  have d61 : decode prog_15_method_3_code 61 = .ok (.pop, 1) := by decide +kernel
  have d62 : decode prog_15_method_3_code 62 = .ok (.return_, 1) := by decide +kernel
  obtain ⟨hT, hft⟩ := hF
  refine lv_aload_n hx hb d0 rfl (lv_at hl 0 rfl) ?_
  refine W.objInit hx hb hown (hts _ (eb_m (ev_gm (p := 14149) (by decide +kernel) rfl))) (hts _ (eb_m (ev_gm (p := 11037) (by decide +kernel) rfl))) (hts _ (eb_m (ev_gm (p := 11038) (by decide +kernel) rfl))) rfl (by rw [hml]; exact hl.1) rfl d1 (Nat.le_of_ble_eq_true rfl) (Nat.le_of_ble_eq_true rfl) ?_
  show W _ _ _ _ _ _ _ _ _ _ _ _ _ _ _ (F0 m 4 ls [])
  refine lv_aload_n hx hb d4 rfl (lv_at hl 1 rfl) ?_
  refine va_calli (va_runV (As := []) (rest := []) ⟨hx, hb, hml, hown, hts⟩ (ej_length l N fx a w) (cwV 0 hts (eb_gV eb_ok2 (eb_m (ev_gm (p := 14150) (by decide +kernel) rfl)) (eb_m (ev_gm (p := 13208) (by decide +kernel) rfl)) (eb_m (ev_gm (p := 13209) (by decide +kernel) rfl)) (eb_m (ev_ginit (by decide +kernel) rfl)) (eb_m (ev_gm (p := 13210) (by decide +kernel) rfl))) rfl rfl rfl (by decide +kernel) ⟨Nat.le_of_ble_eq_true rfl, Nat.le_of_ble_eq_true rfl⟩) ⟨fun a U g mk q => ⟨q.1, ev_Js.moved (Vm.Alike.refl U.vm) q.2.1, q.2.2⟩, va_Orecv hT.1 hS, fun U hU hW => ⟨rfl, by show ev_Js N fx _ w U U.heap; rw [hU]; exact (hT.kept hS.2.1).js.moved hW.alike, by omega⟩⟩ rfl rfl hl.1 rfl (lv_room (Nat.le_of_ble_eq_true rfl)) d5 ⟨Nat.zero_le _, Nat.zero_le _⟩) hS (fun q _ h => h.elim) (fun q h => h.elim) (fun r u t H1 locs1 ht hvm hw hB hz1 hk1 hS => ?_)
  have hw : r = nI N := hw
  subst hw
  have hP := eb_keep hP hk1
  refine lv_istore_n hx hb d8 rfl hl (by decide) rfl (fun ls hl => ?_)
  refine lv_iload_n hx hb d9 rfl (lv_at hl 0 rfl) ?_
  refine lv_ldc (v := nI 2147483631) hx hb hown (hts _ (eb_m (ev_gm (p := 14151) (by decide +kernel) rfl))) d10 ?_
  refine lv_icmp_ge (tgt := 22) hx hb d12 (by decide) (fun z => absurd z (nI_ge (by omega) (by decide))) (fun _ => ?_)
  refine lv_iload_n hx hb d15 rfl (lv_at hl 0 rfl) ?_
  refine lv_bipush (v := nI 16) hx hb d16 (by decide) ?_
  refine lv_iadd hx hb d18 ?_
  refine lv_topi (fun y ey => ?_); obtain rfl : y = nI (N + 16) := ey.trans (nI_add _ _)
  refine lv_goto (tgt := 24) hx hb d19 (by decide) ?_
  refine lv_istore_n hx hb d24 rfl hl (by decide) rfl (fun ls hl => ?_)
  refine lv_aload_n hx hb d25 rfl (lv_at hl 3 rfl) ?_
  refine va_calli (va_runV (As := []) (rest := []) ⟨hx, hb, hml, hown, hts⟩ (ej_coder l N fx a w) (cwV 0 hts (eb_gV eb_ok2 (eb_m (ev_gm (p := 14153) (by decide +kernel) rfl)) (eb_m (ev_gm (p := 13212) (by decide +kernel) rfl)) (eb_m (ev_gm (p := 13213) (by decide +kernel) rfl)) (eb_m (ev_ginit (by decide +kernel) rfl)) (eb_m (ev_gm (p := 13214) (by decide +kernel) rfl))) rfl rfl rfl (by decide +kernel) ⟨Nat.le_of_ble_eq_true rfl, Nat.le_of_ble_eq_true rfl⟩) ⟨fun a U g mk q => ⟨q.1, ev_Js.moved (Vm.Alike.refl U.vm) q.2⟩, va_Orecv hT.1 hS, fun U hU hW => ⟨rfl, by show ev_Js N fx _ w U U.heap; rw [hU]; exact (hT.kept hS.2.1).js.moved hW.alike⟩⟩ rfl rfl hl.1 rfl (lv_room (Nat.le_of_ble_eq_true rfl)) d26 ⟨Nat.zero_le _, Nat.zero_le _⟩) hS (fun q _ h => h.elim) (fun q h => h.elim) (fun r u t H1 locs1 ht hvm hw hB hz1 hk1 hS => ?_)
  have hw : r = 0 := hw
  subst hw
  have hP := eb_keep hP hk1
  refine lv_istore hx hb d29 hl (by decide) rfl (fun ls hl => ?_)
  refine lv_aload_n hx hb d31 rfl (lv_at hl 3 rfl) ?_
  refine lv_iload hx hb d32 (lv_at hl 0 rfl) ?_
  refine va_put (D := D) (ci := 0) (v := .int 0) (ty := .byte) (C := "java/lang/StringBuilder") (T := eb_F) (N := 4) hx hb hts eb_sw eb_ty eb_tyo eb_nm hown hK hP hD hS 0 rfl rfl 1 (by decide) (hts _ (eb_m (ev_gm (p := 15023) (by decide +kernel) rfl))) (fun _ h9 => h9) rfl (by decide +kernel) rfl rfl (Nat.le_of_ble_eq_true rfl) d34 (fun H locs hP hD hS => ?_)
  have hP : va_P D eb_cl [(b, .inr (0, [.null, .int 0, .int 0, .int 0]))] H := hP
  have hD : va_D A [(b, .inr (0, [.null, .int 0, .int 0, .int 0]))] := hD
  refine lv_aload_n hx hb d37 rfl (lv_at hl 3 rfl) ?_
  refine lv_iload hx hb d38 (lv_at hl 0 rfl) ?_
  refine lv_if_ne (tgt := 49) hx hb d40 (by decide) (fun z => absurd rfl z) (fun _ => ?_)
  refine lv_iload_n hx hb d43 rfl (lv_at hl 1 rfl) ?_
  refine va_newa (atype := .byte) (ty := .byte) hx hb (hts _ (eb_m (ev_gm (p := 11079) (by decide +kernel) rfl))) rfl hK hP hD hS hA (a0 := (N + 16, .inl (fun _ => 0))) (fun cA => rfl) (nI_pos (by omega)) (nI_clamp (by omega)) (by show (N + 16) * 1 ≤ _; omega) (by show 0 + 0 + 0 + 1 ≤ 2; omega) (by show 0 + 0 + 0 + (N + 16) ≤ 1500; omega) d44 (fun q c2 H hK hP hD hS => ?_)
  refine W.widen (k := 1) (n := 200) (by omega) (by omega) ?_
  refine lv_goto (tgt := 53) hx hb d46 (by decide) ?_
  refine va_put (D := D) (ci := 0) (v := .ref q) (ty := .array .byte) (C := "java/lang/StringBuilder") (T := eb_F) (N := 4) hx hb hts eb_sw eb_ty eb_tyo eb_nm hown hK hP hD hS 0 rfl rfl 0 (by decide) (hts _ (eb_m (ev_gm (p := 15022) (by decide +kernel) rfl))) (fun _ h9 => h9) rfl (by decide +kernel) rfl rfl (Nat.le_of_ble_eq_true rfl) d53 (fun H locs hP hD hS => ?_)
  have hP : va_P D eb_cl (eb_W b q c2 (N + 16) (fun _ => 0) 0 0) H := hP
  have hD : va_D A (eb_W b q c2 (N + 16) (fun _ => 0) 0 0) := hD
  have hK : va_K D eb_cl [(c2, .byte)] s := hK
  refine lv_aload_n hx hb d56 rfl (lv_at hl 3 rfl) ?_
  refine lv_aload_n hx hb d57 rfl (lv_at hl 4 rfl) ?_
  have hFc := va_free (wc := (eb_W b q c2 (N + 16) (fun _ => 0) 0 0)) hD hS hA [0, 1] rfl
  refine va_callr (va_runU (As := [.ref a]) (rest := []) ⟨hx, hb, hml, hown, hts⟩ (eb_bri l D H.size b q c2 (N + 16) (fun _ => 0) 0 0 N fx a w (by omega) (by omega) (by omega)) (va_cwO (C := "java/lang/StringBuilder") (x := ye_aappS) (y := ye_bri) (b0 := prog_15_method_22_code) (m0 := 3) (r0 := some (.object "java/lang/AbstractStringBuilder")) 1 hts (eb_gO eb_ok1 (owner := "java/lang/AbstractStringBuilder") (eb_m (ev_gm (p := 14161) (by decide +kernel) rfl)) (eb_m (ev_gm (p := 14163) (by decide +kernel) rfl)) (eb_m (ev_gm (p := 14162) (by decide +kernel) rfl)) (eb_m (ev_gm (p := 14164) (by decide +kernel) rfl)) (eb_m (ev_gm (p := 14165) (by decide +kernel) rfl)) (eb_m (ev_ginit (by decide +kernel) rfl)) (eb_m (ev_gm (p := 14166) (by decide +kernel) rfl))) rfl rfl rfl (eb_m (ev_gm (p := 14173) (by decide +kernel) rfl)) (by decide +kernel) ⟨Nat.le_of_ble_eq_true rfl, Nat.le_of_ble_eq_true rfl⟩) ⟨fun a U g mk q => by obtain ⟨q0, q1, qP, qK, qD, qF⟩ := q; exact ⟨q0, q1, qP, va_K.moved (u := U) (U := U.calling g mk a) (Vm.Alike.refl U.vm) qK, qD, eb_T.moved (u := U) (U := U.calling g mk a) (Vm.Alike.refl U.vm) qF.1, qF.2⟩, va_recv hK hP (ci := 0) (q0 := 0) rfl rfl, fun U hU hW => ⟨rfl, by rw [hU], by rw [hU]; exact hP, va_K.moved hW.alike hK, hD.weaken (fun _ _ _ _ => trivial), by show eb_T _ N fx _ w U U.heap; rw [hU]; exact ((hT.kept hS.2.1).narrow hFc).moved hW.alike, hft, fun _ _ => rfl⟩⟩ rfl rfl hl.1 rfl (lv_room (Nat.le_of_ble_eq_true rfl)) d58 ⟨Nat.le_of_ble_eq_true rfl, Nat.le_of_ble_eq_true rfl⟩) hS (fun q _ h => hFc q h) hFc (fun u ra t H1 locs1 ht hvm hw hB hz1 hk1 hS => ?_)
  obtain ⟨v1, c1, M1, f1⟩ := u
  obtain ⟨hq, hB⟩ := hB
  subst hq
  obtain ⟨hP1, hK1, hD1⟩ := hB
  dsimp only at hP1 hK1 hD1
  rw [ht] at hP1
  have hK := va_K.moved hvm.symm hK1
  obtain ⟨hP, hD⟩ := va_join (wr := []) (w1 := (eb_W _ v1 c1 M1 f1 0 (0 + N))) hP hD [0, 1] [] rfl rfl (by decide) (by decide) hk1 hFc hP1 hD1
  have hP : va_P D eb_cl (eb_W _ v1 c1 M1 f1 0 (0 + N)) H1 := hP
  have hD : va_D A (eb_W _ v1 c1 M1 f1 0 (0 + N)) := hD
  refine lv_pop hx hb d61 rfl ?_
  rw [Nat.zero_add] at hP hD
  exact W.vret hx hb hr (fun t ht hW => ⟨⟨(v1, c1, M1, f1), rfl, hw, by unfold eb_B; exact ⟨by rw [ht]; exact hP, va_K.moved hW.alike hK, hD⟩⟩, hS.F ht⟩) hS.2.2 d62
abbrev ye_sinit : MethodName := ⟨"java/lang/StringBuilder", "<init>", "(Ljava/lang/String;)V"⟩
set_option maxHeartbeats 4000000 in
set_option maxRecDepth 100000 in
theorem eb_sinit (l : Launch) (D : va_G) (sz : Nat) (b : Nat) (N : Nat) (fx : Nat → Int32) (a w : Nat) (hN : N ≤ 100) : Met l ye_sinit (Cond.code ye_sinit prog_29_method_3_code 2 none :: eb_gw) ({ frames := 8, cells := 2, slots := 1500, locals := 245 }) (va_Pc [.ref b, .ref a] (fun U => U.heap.size = sz ∧ va_P D eb_cl [(b, .inr (0, [.null, .int 0, .int 0, .int 0]))] U.heap ∧ va_K D eb_cl [] U ∧ va_D (fun _ => True) [(b, .inr (0, [.null, .int 0, .int 0, .int 0]))] ∧ eb_T (va_A [(b, .inr (0, [.null, .int 0, .int 0, .int 0]))] sz) N fx a w U U.heap ∧ eb_ft N fx)) (va_Qv (eb_ap 0 N (fun _ => 0) fx) (eb_B D (va_A [(b, .inr (0, [.null, .int 0, .int 0, .int 0]))] sz) b 0 N) (va_A [(b, .inr (0, [.null, .int 0, .int 0, .int 0]))] sz)) 2 1500 (va_A [(b, .inr (0, [.null, .int 0, .int 0, .int 0]))] sz) := by
  refine Met.ofW (cc := prog_29_method_3_code) (maxL := 2) (ret := none) (by decide) rfl ?_
  intro p e s m args below meth c s₁ B hml hv
  obtain ⟨rfl, hsz, hP, hK, hD0, hF⟩ := hv
  have hx := B.exec
  have hb := B.bytes
  have hr := B.returns
  have hts0 := atoms_spec (ws := Cond.code ye_sinit prog_29_method_3_code 2 none :: eb_gw) B.pre
  have hts : ∀ w ∈ eb_gw, w.before _ s = true := fun w hw => hts0 w (List.mem_cons_of_mem _ hw)
  have hown : s.vm.findClass "java/lang/StringBuilder" = some m.cls := findClass_of_methodNamed B.named
  have hlocks := B.notSynchronized
  subst hsz
  have hD := hD0.self (sz := s.heap.size)
  generalize hAe : va_A [(b, .inr (0, [.null, .int 0, .int 0, .int 0]))] s.heap.size = A at hD hF ⊢
  have hA : ∀ q : Nat, s.heap.size ≤ q → A q := fun q h => by rw [← hAe]; exact Or.inr h
  have hS : va_S A s.heap s.heap [] := va_S.rf
  have hl := lv_entry ([.ref b, .ref a]) (n := 2) (Nat.le_of_ble_eq_true rfl)
  rw [lg_entry_eq]
  generalize (lg_sl ([.ref b, .ref a]) ++ List.replicate (2 - (lg_sl ([.ref b, .ref a])).length) Slot.unset).toArray = ls at hl ⊢
  have hl : lv_has ls 2 [(0, .ref b), (1, .ref a)] := hl
  have d0 : decode prog_29_method_3_code 0 = .ok (.aload_n 0, 1) := by decide +kernel
  have d1 : decode prog_29_method_3_code 1 = .ok (.aload_n 1, 1) := by decide +kernel
  have d2 : decode prog_29_method_3_code 2 = .ok (.invokespecial 7, 3) := by decide +kernel
  have d5 : decode prog_29_method_3_code 5 = .ok (.return_, 1) := by decide +kernel
  refine lv_aload_n hx hb d0 rfl (lv_at hl 0 rfl) ?_
  refine lv_aload_n hx hb d1 rfl (lv_at hl 1 rfl) ?_
  have hFc := va_free (wc := [(b, .inr (0, [.null, .int 0, .int 0, .int 0]))]) hD hS hA [0] rfl
  refine va_callv (va_runI (As := [.ref a]) (rest := []) ⟨hx, hb, hml, hown, hts⟩ (eb_ainit l D s.heap.size b N fx a w hN) (cwI 1 hts (eb_gI eb_ok1 (eb_m (ev_gm (p := 14148) (by decide +kernel) rfl))) rfl rfl rfl (hts _ (eb_m (ev_ginit (by decide +kernel) rfl))) (hts _ (eb_m (ev_gm (p := 14146) (by decide +kernel) rfl))) (hts _ (eb_m (ev_gm (p := 14147) (by decide +kernel) rfl))) rfl (by decide +kernel) ⟨Nat.le_of_ble_eq_true rfl, Nat.le_of_ble_eq_true rfl⟩) ⟨fun a U g mk q => by obtain ⟨q0, q1, qP, qK, qD, qF⟩ := q; exact ⟨q0, q1, qP, va_K.moved (u := U) (U := U.calling g mk a) (Vm.Alike.refl U.vm) qK, qD, eb_T.moved (u := U) (U := U.calling g mk a) (Vm.Alike.refl U.vm) qF.1, qF.2⟩, fun U hU hW => ⟨rfl, by rw [hU], by rw [hU]; exact hP, va_K.moved hW.alike hK, hD.weaken (fun _ _ _ _ => trivial), by show eb_T _ N fx _ w U U.heap; rw [hU]; exact ((hF.1.kept hS.2.1).narrow hFc).moved hW.alike, hF.2⟩⟩ rfl rfl hl.1 rfl (lv_room (Nat.le_of_ble_eq_true rfl)) d2 ⟨Nat.le_of_ble_eq_true rfl, Nat.le_of_ble_eq_true rfl⟩) hS (fun q _ h => hFc q h) hFc (fun u t H1 locs1 ht hvm hw hB hz1 hk1 hS => ?_)
  obtain ⟨v1, c1, M1, f1⟩ := u
  obtain ⟨hP1, hK1, hD1⟩ := hB
  dsimp only at hP1 hK1 hD1
  rw [ht] at hP1
  have hK := va_K.moved hvm.symm hK1
  obtain ⟨hP, hD⟩ := va_join (wr := []) (w1 := (eb_W b v1 c1 M1 f1 0 N)) hP hD [0] [] rfl rfl (by decide) (by decide) hk1 hFc hP1 hD1
  have hP : va_P D eb_cl (eb_W b v1 c1 M1 f1 0 N) H1 := hP
  have hD : va_D A (eb_W b v1 c1 M1 f1 0 N) := hD
  exact W.vret hx hb hr (fun t ht hW => ⟨⟨(v1, c1, M1, f1), rfl, hw, by unfold eb_B; exact ⟨by rw [ht]; exact hP, va_K.moved hW.alike hK, hD⟩⟩, hS.F ht⟩) hS.2.2 d5
