/-- what a text at the end does to the builder's bytes -/
def eb_ap (n N : Nat) (f fx : Nat → Int32) (u : eb_S) : Prop := n + N ≤ u.2.2.1 ∧ u.2.2.1 ≤ 600 ∧ (∀ j, j < n → u.2.2.2 j = f j) ∧ (∀ j, j < N → u.2.2.2 (n + j) = fx j) ∧ eb_ft u.2.2.1 u.2.2.2
abbrev ye_aappS : MethodName := ⟨"java/lang/AbstractStringBuilder", "append", "(Ljava/lang/String;)Ljava/lang/AbstractStringBuilder;"⟩
set_option maxHeartbeats 4000000 in
set_option maxRecDepth 100000 in
theorem eb_aappS (l : Launch) (D : va_G) (sz : Nat) (b v : Nat) (cB : ClassId) (M : Nat) (f : Nat → Int32) (ml : Int32) (n : Nat) (N : Nat) (fx : Nat → Int32) (a w : Nat) (hM : M ≤ 600) (hn : n ≤ M) (hN : n + N ≤ 300) : Met l ye_aappS (Cond.code ye_aappS prog_15_method_22_code 3 (some ((Jvm.ClassFile.FieldType.object "java/lang/AbstractStringBuilder"))) :: eb_gw) ({ frames := 4, cells := 1, slots := 1300, locals := 120 }) (va_Pc [.ref b, .ref a] (fun U => U.heap.size = sz ∧ va_P D eb_cl (eb_W b v cB M f ml n) U.heap ∧ va_K D eb_cl [(cB, .byte)] U ∧ va_D (fun _ => True) (eb_W b v cB M f ml n) ∧ eb_T (va_A (eb_W b v cB M f ml n) sz) N fx a w U U.heap ∧ eb_ft N fx ∧ eb_ft M f)) (va_Qr (eb_ap n N f fx) (fun (u : eb_S) q t => q = b ∧ eb_B D (va_A (eb_W b v cB M f ml n) sz) b ml (n + N) u t) (va_A (eb_W b v cB M f ml n) sz)) 1 1300 (va_A (eb_W b v cB M f ml n) sz) := by
  refine Met.ofW (cc := prog_15_method_22_code) (maxL := 3) (ret := (some ((Jvm.ClassFile.FieldType.object "java/lang/AbstractStringBuilder")))) (by decide) rfl ?_
  intro p e s m args below meth c s₁ B hml hv
  obtain ⟨rfl, hsz, hP, hK, hD0, hF⟩ := hv
  have hx := B.exec
  have hb := B.bytes
  have hr := B.returns
  have hts0 := atoms_spec (ws := Cond.code ye_aappS prog_15_method_22_code 3 (some ((Jvm.ClassFile.FieldType.object "java/lang/AbstractStringBuilder"))) :: eb_gw) B.pre
  have hts : ∀ w ∈ eb_gw, w.before _ s = true := fun w hw => hts0 w (List.mem_cons_of_mem _ hw)
  have hown : s.vm.findClass "java/lang/AbstractStringBuilder" = some m.cls := findClass_of_methodNamed B.named
  have hlocks := B.notSynchronized
  subst hsz
  have hD := hD0.self (sz := s.heap.size)
  generalize hAe : va_A (eb_W b v cB M f ml n) s.heap.size = A at hD hF ⊢
  have hA : ∀ q : Nat, s.heap.size ≤ q → A q := fun q h => by rw [← hAe]; exact Or.inr h
  have hS : va_S A s.heap s.heap [] := va_S.rf
  have hl := lv_entry ([.ref b, .ref a]) (n := 3) (Nat.le_of_ble_eq_true rfl)
  rw [lg_entry_eq]
  generalize (lg_sl ([.ref b, .ref a]) ++ List.replicate (3 - (lg_sl ([.ref b, .ref a])).length) Slot.unset).toArray = ls at hl ⊢
  have hl : lv_has ls 3 [(0, .ref b), (1, .ref a)] := hl
  have d0 : decode prog_15_method_22_code 0 = .ok (.aload_n 1, 1) := by decide +kernel
  have d1 : decode prog_15_method_22_code 1 = .ok (.ifnonnull (8), 3) := by decide +kernel
  have d9 : decode prog_15_method_22_code 9 = .ok (.aload_n 1, 1) := by decide +kernel
  have d10 : decode prog_15_method_22_code 10 = .ok (.invokevirtual 32, 3) := by decide +kernel
  have d13 : decode prog_15_method_22_code 13 = .ok (.istore_n 2, 1) := by decide +kernel
  have d14 : decode prog_15_method_22_code 14 = .ok (.aload_n 0, 1) := by decide +kernel
  have d15 : decode prog_15_method_22_code 15 = .ok (.aload_n 0, 1) := by decide +kernel
  have d16 : decode prog_15_method_22_code 16 = .ok (.getfield 79, 3) := by decide +kernel
  have d19 : decode prog_15_method_22_code 19 = .ok (.iload_n 2, 1) := by decide +kernel
  have d20 : decode prog_15_method_22_code 20 = .ok (.iadd, 1) := by decide +kernel
  have d21 : decode prog_15_method_22_code 21 = .ok (.invokevirtual 100, 3) := by decide +kernel
  have d24 : decode prog_15_method_22_code 24 = .ok (.aload_n 0, 1) := by decide +kernel
  have d25 : decode prog_15_method_22_code 25 = .ok (.aload_n 0, 1) := by decide +kernel
  have d26 : decode prog_15_method_22_code 26 = .ok (.getfield 79, 3) := by decide +kernel
  have d29 : decode prog_15_method_22_code 29 = .ok (.aload_n 1, 1) := by decide +kernel
  have d30 : decode prog_15_method_22_code 30 = .ok (.invokevirtual 208, 3) := by decide +kernel
  have d33 : decode prog_15_method_22_code 33 = .ok (.aload_n 0, 1) := by decide +kernel
  have d34 : decode prog_15_method_22_code 34 = .ok (.dup, 1) := by decide +kernel
  have d35 : decode prog_15_method_22_code 35 = .ok (.getfield 79, 3) := by decide +kernel
  have d38 : decode prog_15_method_22_code 38 = .ok (.iload_n 2, 1) := by decide +kernel
  have d39 : decode prog_15_method_22_code 39 = .ok (.iadd, 1) := by decide +kernel
  have d40 : decode prog_15_method_22_code 40 = .ok (.putfield 79, 3) := by decide +kernel
  have d43 : decode prog_15_method_22_code 43 = .ok (.aload_n 0, 1) := by decide +kernel
  have d44 : decode prog_15_method_22_code 44 = .ok (.areturn, 1) := by decide +kernel
  obtain ⟨hT, hft, hff⟩ := hF
  refine lv_aload_n hx hb d0 rfl (lv_at hl 1 rfl) ?_
  refine lv_ifnonnull (tgt := 9) hx hb d1 (by decide) ?_
  refine lv_aload_n hx hb d9 rfl (lv_at hl 1 rfl) ?_
  refine va_calli (va_runV (As := []) (rest := []) ⟨hx, hb, hml, hown, hts⟩ (ej_length l N fx a w) (cwV 0 hts (eb_gV eb_ok2 (eb_m (ev_gm (p := 14150) (by decide +kernel) rfl)) (eb_m (ev_gm (p := 13208) (by decide +kernel) rfl)) (eb_m (ev_gm (p := 13209) (by decide +kernel) rfl)) (eb_m (ev_ginit (by decide +kernel) rfl)) (eb_m (ev_gm (p := 13210) (by decide +kernel) rfl))) rfl rfl rfl (by decide +kernel) ⟨Nat.le_of_ble_eq_true rfl, Nat.le_of_ble_eq_true rfl⟩) ⟨fun a U g mk q => ⟨q.1, ev_Js.moved (Vm.Alike.refl U.vm) q.2.1, q.2.2⟩, va_Orecv hT.1 hS, fun U hU hW => ⟨rfl, by show ev_Js N fx _ w U U.heap; rw [hU]; exact (hT.kept hS.2.1).js.moved hW.alike, by omega⟩⟩ rfl rfl hl.1 rfl (lv_room (Nat.le_of_ble_eq_true rfl)) d10 ⟨Nat.zero_le _, Nat.zero_le _⟩) hS (fun q _ h => h.elim) (fun q h => h.elim) (fun r u t H1 locs1 ht hvm hw hB hz1 hk1 hS => ?_)
  have hw : r = nI N := hw
  subst hw
  have hP := eb_keep hP hk1
  refine lv_istore_n hx hb d13 rfl hl (by decide) rfl (fun ls hl => ?_)
  refine lv_aload_n hx hb d14 rfl (lv_at hl 1 rfl) ?_
  refine lv_aload_n hx hb d15 rfl (lv_at hl 1 rfl) ?_
  refine va_get (D := D) (ci := 0) (v := .int (nI n)) (C := "java/lang/StringBuilder") (T := eb_F) (N := 4) hx hb hts eb_sw hown hK hP 0 rfl rfl 3 (by decide) (hts _ (eb_m (ev_gm (p := 15025) (by decide +kernel) rfl))) (fun _ h9 => h9) rfl d16 ?_
  refine lv_iload_n hx hb d19 rfl (lv_at hl 0 rfl) ?_
  refine lv_iadd hx hb d20 ?_
  refine lv_topi (fun y ey => ?_); obtain rfl : y = nI (n + N) := ey.trans (nI_add _ _)
  have hFc := va_free (wc := (eb_W b v cB M f ml n)) hD hS hA [0, 1] rfl
  refine va_callv (va_runU (As := [.int (nI (n + N))]) (rest := []) ⟨hx, hb, hml, hown, hts⟩ (eb_ensure l D H1.size b v cB M f ml n (n + N) hM hN) (va_cwU (C := "java/lang/StringBuilder") 1 hts (eb_gU eb_ok1 (owner := "java/lang/AbstractStringBuilder") (eb_m (ev_gm (p := 14178) (by decide +kernel) rfl)) (eb_m (ev_gm (p := 17022) (by decide +kernel) rfl)) (eb_p (k := 0) rfl) (eb_m (ev_gm (p := 14180) (by decide +kernel) rfl)) (eb_m (ev_ginit (by decide +kernel) rfl)) (eb_m (ev_gm (p := 14181) (by decide +kernel) rfl))) rfl rfl rfl rfl (by decide +kernel) ⟨Nat.le_of_ble_eq_true rfl, Nat.le_of_ble_eq_true rfl⟩) ⟨fun a U g mk q => by obtain ⟨q0, q1, qP, qK, qD, qF⟩ := q; exact ⟨q0, q1, qP, va_K.moved (u := U) (U := U.calling g mk a) (Vm.Alike.refl U.vm) qK, qD, qF⟩, va_recv hK hP (ci := 0) (q0 := 0) rfl rfl, fun U hU hW => ⟨rfl, by rw [hU], by rw [hU]; exact hP, va_K.moved hW.alike hK, hD.weaken (fun _ _ _ _ => trivial), hff⟩⟩ rfl rfl hl.1 rfl (lv_room (Nat.le_of_ble_eq_true rfl)) d21 ⟨Nat.le_of_ble_eq_true rfl, Nat.le_of_ble_eq_true rfl⟩) hS (fun q _ h => hFc q h) hFc (fun u t H2 locs2 ht hvm hw hB hz1 hk1 hS => ?_)
  obtain ⟨v1, c1, M1, f1⟩ := u
  obtain ⟨hP1, hK1, hD1⟩ := hB
  dsimp only at hP1 hK1 hD1
  rw [ht] at hP1
  have hK := va_K.moved hvm.symm hK1
  obtain ⟨hP, hD⟩ := va_join (wr := []) (w1 := (eb_W b v1 c1 M1 f1 ml n)) hP hD [0, 1] [] rfl rfl (by decide) (by decide) hk1 hFc hP1 hD1
  have hP : va_P D eb_cl (eb_W b v1 c1 M1 f1 ml n) H2 := hP
  have hD : va_D A (eb_W b v1 c1 M1 f1 ml n) := hD
  obtain ⟨w1, w2, w3, w4, w5⟩ := hw
  dsimp only at w1 w2 w3 w4 w5
  refine lv_aload_n hx hb d24 rfl (lv_at hl 1 rfl) ?_
  refine lv_aload_n hx hb d25 rfl (lv_at hl 1 rfl) ?_
  refine va_get (D := D) (ci := 0) (v := .int (nI n)) (C := "java/lang/StringBuilder") (T := eb_F) (N := 4) hx hb hts eb_sw hown hK hP 0 rfl rfl 3 (by decide) (hts _ (eb_m (ev_gm (p := 15025) (by decide +kernel) rfl))) (fun _ h9 => h9) rfl d26 ?_
  refine lv_aload_n hx hb d29 rfl (lv_at hl 2 rfl) ?_
  have hFc := va_free (wc := (eb_W b v1 c1 M1 f1 ml n)) hD hS hA [0, 1] rfl
  refine va_callv (va_runU (As := [.int (nI n), .ref a]) (rest := []) ⟨hx, hb, hml, hown, hts⟩ (eb_putStringAt l D H2.size b v1 c1 M1 f1 ml n N fx a w w1 (by omega)) (va_cwU (C := "java/lang/StringBuilder") 2 hts (eb_gU eb_ok1 (owner := "java/lang/AbstractStringBuilder") (eb_m (ev_gm (p := 14229) (by decide +kernel) rfl)) (eb_m (ev_gm (p := 17024) (by decide +kernel) rfl)) (eb_p (k := 2) rfl) (eb_m (ev_gm (p := 14231) (by decide +kernel) rfl)) (eb_m (ev_ginit (by decide +kernel) rfl)) (eb_m (ev_gm (p := 14232) (by decide +kernel) rfl))) rfl rfl rfl rfl (by decide +kernel) ⟨Nat.le_of_ble_eq_true rfl, Nat.le_of_ble_eq_true rfl⟩) ⟨fun a U g mk q => by obtain ⟨q0, q1, qP, qK, qD, qF⟩ := q; exact ⟨q0, q1, qP, va_K.moved (u := U) (U := U.calling g mk a) (Vm.Alike.refl U.vm) qK, qD, eb_T.moved (u := U) (U := U.calling g mk a) (Vm.Alike.refl U.vm) qF.1, qF.2⟩, va_recv hK hP (ci := 0) (q0 := 0) rfl rfl, fun U hU hW => ⟨rfl, by rw [hU], by rw [hU]; exact hP, va_K.moved hW.alike hK, hD.weaken (fun _ _ _ _ => trivial), by show eb_T _ N fx _ w U U.heap; rw [hU]; exact ((hT.kept hS.2.1).narrow hFc).moved hW.alike, hft⟩⟩ rfl rfl hl.1 rfl (lv_room (Nat.le_of_ble_eq_true rfl)) d30 ⟨Nat.le_of_ble_eq_true rfl, Nat.le_of_ble_eq_true rfl⟩) hS (fun q _ h => hFc q h) hFc (fun u t H3 locs3 ht hvm hw hB hz1 hk1 hS => ?_)
  obtain ⟨hP1, hK1, hD1⟩ := hB
  dsimp only at hP1 hK1 hD1
  rw [ht] at hP1
  have hK := va_K.moved hvm.symm hK1
  obtain ⟨hP, hD⟩ := va_join (wr := []) (w1 := (eb_W b v1 c1 M1 (va_cpy fx f1 0 n N) ml n)) hP hD [0, 1] [] rfl rfl (by decide) (by decide) hk1 hFc hP1 hD1
  have hP : va_P D eb_cl (eb_W b v1 c1 M1 (va_cpy fx f1 0 n N) ml n) H3 := hP
  have hD : va_D A (eb_W b v1 c1 M1 (va_cpy fx f1 0 n N) ml n) := hD
  refine lv_aload_n hx hb d33 rfl (lv_at hl 1 rfl) ?_
  refine lv_dup hx hb d34 rfl ?_
  refine va_get (D := D) (ci := 0) (v := .int (nI n)) (C := "java/lang/StringBuilder") (T := eb_F) (N := 4) hx hb hts eb_sw hown hK hP 0 rfl rfl 3 (by decide) (hts _ (eb_m (ev_gm (p := 15025) (by decide +kernel) rfl))) (fun _ h9 => h9) rfl d35 ?_
  refine lv_iload_n hx hb d38 rfl (lv_at hl 0 rfl) ?_
  refine lv_iadd hx hb d39 ?_
  refine lv_topi (fun y ey => ?_); obtain rfl : y = nI (n + N) := ey.trans (nI_add _ _)
  refine va_put (D := D) (ci := 0) (v := .int (nI (n + N))) (ty := .int) (C := "java/lang/StringBuilder") (T := eb_F) (N := 4) hx hb hts eb_sw eb_ty eb_tyo eb_nm hown hK hP hD hS 0 rfl rfl 3 (by decide) (hts _ (eb_m (ev_gm (p := 15025) (by decide +kernel) rfl))) (fun _ h9 => h9) rfl (by decide +kernel) rfl rfl (Nat.le_of_ble_eq_true rfl) d40 (fun H locs hP hD hS => ?_)
  have hP : va_P D eb_cl (eb_W b v1 c1 M1 (va_cpy fx f1 0 n N) ml (n + N)) H := hP
  have hD : va_D A (eb_W b v1 c1 M1 (va_cpy fx f1 0 n N) ml (n + N)) := hD
  refine lv_aload_n hx hb d43 rfl (lv_at hl 1 rfl) ?_
  have hap : eb_ap n N f fx (v1, c1, M1, va_cpy fx f1 0 n N) := by
    refine ⟨w1, w3, fun j hj => ?_, fun j hj => ?_, fun j hj => ?_⟩
    · show va_cpy fx f1 0 n N j = f j
      unfold va_cpy
      rw [if_neg (by omega)]
      exact w4 j (by omega)
    · show va_cpy fx f1 0 n N (n + j) = fx j
      unfold va_cpy
      rw [if_pos (by omega), Nat.zero_add, Nat.add_sub_cancel_left]
    · show fits .byte (.int (va_cpy fx f1 0 n N j)) = true
      unfold va_cpy
      by_cases hh : n ≤ j ∧ j < n + N
      · rw [if_pos hh]
        exact hft _ (by omega)
      · rw [if_neg hh]
        exact w5 j hj
  exact W.aret hx hb hr (.inl ⟨_, rfl⟩) (.inr ⟨_, rfl⟩) (fun t ht hW => ⟨⟨_, b, rfl, hap, rfl, by unfold eb_B; exact ⟨by rw [ht]; exact hP, va_K.moved hW.alike hK, hD⟩⟩, hS.F ht⟩) hS.2.2 d44
abbrev ye_sappS : MethodName := ⟨"java/lang/StringBuilder", "append", "(Ljava/lang/String;)Ljava/lang/StringBuilder;"⟩
set_option maxHeartbeats 4000000 in
set_option maxRecDepth 100000 in
theorem eb_sappS (l : Launch) (D : va_G) (sz : Nat) (b v : Nat) (cB : ClassId) (M : Nat) (f : Nat → Int32) (ml : Int32) (n : Nat) (N : Nat) (fx : Nat → Int32) (a w : Nat) (hM : M ≤ 600) (hn : n ≤ M) (hN : n + N ≤ 300) : Met l ye_sappS (Cond.code ye_sappS prog_29_method_7_code 2 (some ((Jvm.ClassFile.FieldType.object "java/lang/StringBuilder"))) :: eb_gw) ({ frames := 5, cells := 1, slots := 1300, locals := 150 }) (va_Pc [.ref b, .ref a] (fun U => U.heap.size = sz ∧ va_P D eb_cl (eb_W b v cB M f ml n) U.heap ∧ va_K D eb_cl [(cB, .byte)] U ∧ va_D (fun _ => True) (eb_W b v cB M f ml n) ∧ eb_T (va_A (eb_W b v cB M f ml n) sz) N fx a w U U.heap ∧ eb_ft N fx ∧ eb_ft M f)) (va_Qr (eb_ap n N f fx) (fun (u : eb_S) q t => q = b ∧ eb_B D (va_A (eb_W b v cB M f ml n) sz) b ml (n + N) u t) (va_A (eb_W b v cB M f ml n) sz)) 1 1300 (va_A (eb_W b v cB M f ml n) sz) := by
  refine Met.ofW (cc := prog_29_method_7_code) (maxL := 2) (ret := (some ((Jvm.ClassFile.FieldType.object "java/lang/StringBuilder")))) (by decide) rfl ?_
  intro p e s m args below meth c s₁ B hml hv
  obtain ⟨rfl, hsz, hP, hK, hD0, hF⟩ := hv
  have hx := B.exec
  have hb := B.bytes
  have hr := B.returns
  have hts0 := atoms_spec (ws := Cond.code ye_sappS prog_29_method_7_code 2 (some ((Jvm.ClassFile.FieldType.object "java/lang/StringBuilder"))) :: eb_gw) B.pre
  have hts : ∀ w ∈ eb_gw, w.before _ s = true := fun w hw => hts0 w (List.mem_cons_of_mem _ hw)
  have hown : s.vm.findClass "java/lang/StringBuilder" = some m.cls := findClass_of_methodNamed B.named
  have hlocks := B.notSynchronized
  subst hsz
  have hD := hD0.self (sz := s.heap.size)
  generalize hAe : va_A (eb_W b v cB M f ml n) s.heap.size = A at hD hF ⊢
  have hA : ∀ q : Nat, s.heap.size ≤ q → A q := fun q h => by rw [← hAe]; exact Or.inr h
  have hS : va_S A s.heap s.heap [] := va_S.rf
  have hl := lv_entry ([.ref b, .ref a]) (n := 2) (Nat.le_of_ble_eq_true rfl)
  rw [lg_entry_eq]
  generalize (lg_sl ([.ref b, .ref a]) ++ List.replicate (2 - (lg_sl ([.ref b, .ref a])).length) Slot.unset).toArray = ls at hl ⊢
  have hl : lv_has ls 2 [(0, .ref b), (1, .ref a)] := hl
  have d0 : decode prog_29_method_7_code 0 = .ok (.aload_n 0, 1) := by decide +kernel
  have d1 : decode prog_29_method_7_code 1 = .ok (.aload_n 1, 1) := by decide +kernel
  have d2 : decode prog_29_method_7_code 2 = .ok (.invokespecial 29, 3) := by decide +kernel
  have d5 : decode prog_29_method_7_code 5 = .ok (.pop, 1) := by decide +kernel
  have d6 : decode prog_29_method_7_code 6 = .ok (.aload_n 0, 1) := by decide +kernel
  have d7 : decode prog_29_method_7_code 7 = .ok (.areturn, 1) := by decide +kernel
  refine lv_aload_n hx hb d0 rfl (lv_at hl 0 rfl) ?_
  refine lv_aload_n hx hb d1 rfl (lv_at hl 1 rfl) ?_
  have hFc := va_free (wc := (eb_W b v cB M f ml n)) hD hS hA [0, 1] rfl
  refine va_callr (va_runSU (hK.1 0 _ rfl).2 (As := [.ref a]) (rest := []) ⟨hx, hb, hml, hown, hts⟩ (eb_aappS l D s.heap.size b v cB M f ml n N fx a w hM hn hN) (va_cwSU 1 hts (eb_gSU eb_ok1 (eb_m (ev_gm (p := 14171) (by decide +kernel) rfl)) (eb_m (ev_gm (p := 14163) (by decide +kernel) rfl)) (eb_m (ev_gm (p := 14172) (by decide +kernel) rfl)) (eb_m (ev_gm (p := 14162) (by decide +kernel) rfl)) (eb_m (ev_ginit (by decide +kernel) rfl)) (eb_m (ev_gm (p := 14173) (by decide +kernel) rfl))) rfl rfl rfl (by decide +kernel) ⟨Nat.le_of_ble_eq_true rfl, Nat.le_of_ble_eq_true rfl⟩) ⟨fun a U g mk q => by obtain ⟨q0, q1, qP, qK, qD, qF⟩ := q; exact ⟨q0, q1, qP, va_K.moved (u := U) (U := U.calling g mk a) (Vm.Alike.refl U.vm) qK, qD, eb_T.moved (u := U) (U := U.calling g mk a) (Vm.Alike.refl U.vm) qF.1, qF.2⟩, va_recv hK hP (ci := 0) (q0 := 0) rfl rfl, fun U hU hW => ⟨rfl, by rw [hU], by rw [hU]; exact hP, va_K.moved hW.alike hK, hD.weaken (fun _ _ _ _ => trivial), by show eb_T _ N fx _ w U U.heap; rw [hU]; exact ((hF.1.kept hS.2.1).narrow hFc).moved hW.alike, hF.2⟩⟩ rfl rfl hl.1 rfl (lv_room (Nat.le_of_ble_eq_true rfl)) d2 ⟨Nat.le_of_ble_eq_true rfl, Nat.le_of_ble_eq_true rfl⟩) hS (fun q _ h => hFc q h) hFc (fun u ra t H1 locs1 ht hvm hw hB hz1 hk1 hS => ?_)
  obtain ⟨v1, c1, M1, f1⟩ := u
  obtain ⟨hq, hB⟩ := hB
  subst hq
  obtain ⟨hP1, hK1, hD1⟩ := hB
  dsimp only at hP1 hK1 hD1
  rw [ht] at hP1
  have hK := va_K.moved hvm.symm hK1
  obtain ⟨hP, hD⟩ := va_join (wr := []) (w1 := (eb_W _ v1 c1 M1 f1 ml (n + N))) hP hD [0, 1] [] rfl rfl (by decide) (by decide) hk1 hFc hP1 hD1
  have hP : va_P D eb_cl (eb_W _ v1 c1 M1 f1 ml (n + N)) H1 := hP
  have hD : va_D A (eb_W _ v1 c1 M1 f1 ml (n + N)) := hD
  refine lv_pop hx hb d5 rfl ?_
  refine lv_aload_n hx hb d6 rfl (lv_at hl 0 rfl) ?_
  exact W.aret hx hb hr (.inl ⟨_, rfl⟩) (.inr ⟨_, rfl⟩) (fun t ht hW => ⟨⟨(v1, c1, M1, f1), _, rfl, hw, rfl, by unfold eb_B; exact ⟨by rw [ht]; exact hP, va_K.moved hW.alike hK, hD⟩⟩, hS.F ht⟩) hS.2.2 d7
