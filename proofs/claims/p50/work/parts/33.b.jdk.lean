abbrev ye_ensure : MethodName := ⟨"java/lang/AbstractStringBuilder", "ensureCapacityInternal", "(I)V"⟩
set_option maxHeartbeats 4000000 in
set_option maxRecDepth 100000 in
theorem eb_ensure (l : Launch) (D : va_G) (sz : Nat) (b v : Nat) (cB : ClassId) (M : Nat) (f : Nat → Int32) (ml : Int32) (n : Nat) (mn : Nat) (hM : M ≤ 600) (hmn : mn ≤ 300) : Met l ye_ensure (Cond.code ye_ensure prog_15_method_9_code 3 none :: eb_gw) ({ frames := 3, cells := 1, slots := 1300, locals := 90 }) (va_Pc [.ref b, .int (nI mn)] (fun U => U.heap.size = sz ∧ va_P D eb_cl (eb_W b v cB M f ml n) U.heap ∧ va_K D eb_cl [(cB, .byte)] U ∧ va_D (fun _ => True) (eb_W b v cB M f ml n) ∧ eb_ft M f)) (va_Qv (fun (u : eb_S) => mn ≤ u.2.2.1 ∧ M ≤ u.2.2.1 ∧ u.2.2.1 ≤ 600 ∧ (∀ j, j < M → u.2.2.2 j = f j) ∧ eb_ft u.2.2.1 u.2.2.2) (eb_B D (va_A (eb_W b v cB M f ml n) sz) b ml n) (va_A (eb_W b v cB M f ml n) sz)) 1 1300 (va_A (eb_W b v cB M f ml n) sz) := by
  refine Met.ofW (cc := prog_15_method_9_code) (maxL := 3) (ret := none) (by decide) rfl ?_
  intro p e s m args below meth c s₁ B hml hv
  obtain ⟨rfl, hsz, hP, hK, hD0, hF⟩ := hv
  have hx := B.exec
  have hb := B.bytes
  have hr := B.returns
  have hts0 := atoms_spec (ws := Cond.code ye_ensure prog_15_method_9_code 3 none :: eb_gw) B.pre
  have hts : ∀ w ∈ eb_gw, w.before _ s = true := fun w hw => hts0 w (List.mem_cons_of_mem _ hw)
  have hown : s.vm.findClass "java/lang/AbstractStringBuilder" = some m.cls := findClass_of_methodNamed B.named
  have hlocks := B.notSynchronized
  subst hsz
  have hD := hD0.self (sz := s.heap.size)
  generalize hAe : va_A (eb_W b v cB M f ml n) s.heap.size = A at hD hF ⊢
  have hA : ∀ q : Nat, s.heap.size ≤ q → A q := fun q h => by rw [← hAe]; exact Or.inr h
  have hS : va_S A s.heap s.heap [] := va_S.rf
  have hl := lv_entry ([.ref b, .int (nI mn)]) (n := 3) (Nat.le_of_ble_eq_true rfl)
  rw [lg_entry_eq]
  generalize (lg_sl ([.ref b, .int (nI mn)]) ++ List.replicate (3 - (lg_sl ([.ref b, .int (nI mn)])).length) Slot.unset).toArray = ls at hl ⊢
  have hl : lv_has ls 3 [(0, .ref b), (1, .int (nI mn))] := hl
  have d0 : decode prog_15_method_9_code 0 = .ok (.aload_n 0, 1) := by decide +kernel
  have d1 : decode prog_15_method_9_code 1 = .ok (.getfield 15, 3) := by decide +kernel
  have d4 : decode prog_15_method_9_code 4 = .ok (.arraylength, 1) := by decide +kernel
  have d5 : decode prog_15_method_9_code 5 = .ok (.aload_n 0, 1) := by decide +kernel
  have d6 : decode prog_15_method_9_code 6 = .ok (.getfield 22, 3) := by decide +kernel
  have d9 : decode prog_15_method_9_code 9 = .ok (.ishr, 1) := by decide +kernel
  have d10 : decode prog_15_method_9_code 10 = .ok (.istore_n 2, 1) := by decide +kernel
  have d11 : decode prog_15_method_9_code 11 = .ok (.iload_n 1, 1) := by decide +kernel
  have d12 : decode prog_15_method_9_code 12 = .ok (.iload_n 2, 1) := by decide +kernel
  have d13 : decode prog_15_method_9_code 13 = .ok (.isub, 1) := by decide +kernel
  have d14 : decode prog_15_method_9_code 14 = .ok (.ifCond .le (24), 3) := by decide +kernel
  have d17 : decode prog_15_method_9_code 17 = .ok (.aload_n 0, 1) := by decide +kernel
  have d18 : decode prog_15_method_9_code 18 = .ok (.aload_n 0, 1) := by decide +kernel
  have d19 : decode prog_15_method_9_code 19 = .ok (.getfield 15, 3) := by decide +kernel
  have d22 : decode prog_15_method_9_code 22 = .ok (.aload_n 0, 1) := by decide +kernel
  have d23 : decode prog_15_method_9_code 23 = .ok (.iload_n 1, 1) := by decide +kernel
  have d24 : decode prog_15_method_9_code 24 = .ok (.invokevirtual 104, 3) := by decide +kernel
  have d27 : decode prog_15_method_9_code 27 = .ok (.aload_n 0, 1) := by decide +kernel
  have d28 : decode prog_15_method_9_code 28 = .ok (.getfield 22, 3) := by decide +kernel
  have d31 : decode prog_15_method_9_code 31 = .ok (.ishl, 1) := by decide +kernel
  have d32 : decode prog_15_method_9_code 32 = .ok (.invokestatic 108, 3) := by decide +kernel
  have d35 : decode prog_15_method_9_code 35 = .ok (.putfield 15, 3) := by decide +kernel
  have d38 : decode prog_15_method_9_code 38 = .ok (.return_, 1) := by decide +kernel
  refine lv_aload_n hx hb d0 rfl (lv_at hl 0 rfl) ?_
  refine va_get (D := D) (ci := 0) (v := .ref v) (C := "java/lang/StringBuilder") (T := eb_F) (N := 4) hx hb hts eb_sw hown hK hP 0 rfl rfl 0 (by decide) (hts _ (eb_m (ev_gm (p := 15022) (by decide +kernel) rfl))) (fun _ h9 => h9) rfl d1 ?_
  refine va_alen hx hb hK hP 1 0 (v := nI M) rfl rfl rfl d4 ?_
  refine lv_aload_n hx hb d5 rfl (lv_at hl 0 rfl) ?_
  refine va_get (D := D) (ci := 0) (v := .int 0) (C := "java/lang/StringBuilder") (T := eb_F) (N := 4) hx hb hts eb_sw hown hK hP 0 rfl rfl 1 (by decide) (hts _ (eb_m (ev_gm (p := 15023) (by decide +kernel) rfl))) (fun _ h9 => h9) rfl d6 ?_
  refine lv_ishr hx hb d9 ?_
  refine lv_topi (fun y ey => ?_); obtain rfl : y = nI M := ey.trans (sb_shr0 _)
  refine lv_istore_n hx hb d10 rfl hl (by decide) rfl (fun ls hl => ?_)
  refine lv_iload_n hx hb d11 rfl (lv_at hl 2 rfl) ?_
  refine lv_iload_n hx hb d12 rfl (lv_at hl 0 rfl) ?_
  refine lv_isub hx hb d13 ?_
  have ed : (nI mn - nI M).toInt = (mn : Int) - M := pk_sub_toInt (by omega) (by omega)
  by_cases hc : mn ≤ M
  · refine lv_if_le (tgt := 38) hx hb d14 (by decide) (fun _ => ?_) (fun z => absurd (by rw [Int32.le_iff_toInt_le, ed, Int32.toInt_zero]; omega) z)
    have hD9 := hD
    refine W.widen (k := 1) (n := 1300) (by omega) (by omega) ?_
    exact W.vret hx hb hr (fun t ht hW => ⟨⟨(v, cB, M, f), rfl, ⟨hc, Nat.le_refl _, hM, fun _ _ => rfl, hF⟩, by unfold eb_B; exact ⟨by rw [ht]; exact hP, va_K.moved hW.alike hK, hD9⟩⟩, hS.F ht⟩) hS.2.2 d38
  · refine lv_if_le (tgt := 38) hx hb d14 (by decide) (fun z => absurd z (by rw [Int32.le_iff_toInt_le, ed, Int32.toInt_zero]; omega)) (fun _ => ?_)
    refine lv_aload_n hx hb d17 rfl (lv_at hl 1 rfl) ?_
    refine lv_aload_n hx hb d18 rfl (lv_at hl 1 rfl) ?_
    refine va_get (D := D) (ci := 0) (v := .ref v) (C := "java/lang/StringBuilder") (T := eb_F) (N := 4) hx hb hts eb_sw hown hK hP 0 rfl rfl 0 (by decide) (hts _ (eb_m (ev_gm (p := 15022) (by decide +kernel) rfl))) (fun _ h9 => h9) rfl d19 ?_
    refine lv_aload_n hx hb d22 rfl (lv_at hl 1 rfl) ?_
    refine lv_iload_n hx hb d23 rfl (lv_at hl 2 rfl) ?_
    refine va_calli (va_runU (As := [.int (nI mn)]) (rest := [.ref v, .ref b]) ⟨hx, hb, hml, hown, hts⟩ (eb_newCapacity l D b v cB M f ml n mn (by omega) (by omega)) (va_cwU (C := "java/lang/StringBuilder") 1 hts (eb_gU eb_ok1 (owner := "java/lang/AbstractStringBuilder") (eb_m (ev_gm (p := 14182) (by decide +kernel) rfl)) (eb_m (ev_gm (p := 17023) (by decide +kernel) rfl)) (eb_p (k := 1) rfl) (eb_m (ev_gm (p := 14184) (by decide +kernel) rfl)) (eb_m (ev_ginit (by decide +kernel) rfl)) (eb_m (ev_gm (p := 14185) (by decide +kernel) rfl))) rfl rfl rfl rfl (by decide +kernel) ⟨Nat.le_of_ble_eq_true rfl, Nat.le_of_ble_eq_true rfl⟩) ⟨fun a U g mk q => ⟨q.1, va_K.moved (u := U) (U := U.calling g mk a) (Vm.Alike.refl U.vm) q.2.1, q.2.2⟩, va_recv hK hP (ci := 0) (q0 := 0) rfl rfl, fun U hU hW => ⟨rfl, va_K.moved hW.alike hK, by show va_P D eb_cl _ U.heap; rw [hU]; exact hP⟩⟩ rfl rfl hl.1 rfl (lv_room (Nat.le_of_ble_eq_true rfl)) d24 ⟨Nat.zero_le _, Nat.zero_le _⟩) hS (fun q _ h => h.elim) (fun q h => h.elim) (fun r u t H1 locs1 ht hvm hw hB hz1 hk1 hS => ?_)
    have hP := eb_keep hP hk1
    have hw : r = nI (eb_gr M mn) := hw
    subst hw
    have gg : eb_gr M mn ≤ 600 ∧ mn ≤ eb_gr M mn ∧ M < eb_gr M mn := by unfold eb_gr; omega
    refine lv_aload_n hx hb d27 rfl (lv_at hl 1 rfl) ?_
    refine va_get (D := D) (ci := 0) (v := .int 0) (C := "java/lang/StringBuilder") (T := eb_F) (N := 4) hx hb hts eb_sw hown hK hP 0 rfl rfl 1 (by decide) (hts _ (eb_m (ev_gm (p := 15023) (by decide +kernel) rfl))) (fun _ h9 => h9) rfl d28 ?_
    refine lv_ishl hx hb d31 ?_
    refine lv_topi (fun y ey => ?_); obtain rfl : y = nI (eb_gr M mn) := ey.trans (sb_shl0 _)
    have hPc := hP.sub (ws' := [(v, .inl (cB, M, .inl f))]) [1] rfl
    have hDc := hD.sub (ws' := [(v, .inl (cB, M, .inl f))]) [1] (by decide) rfl
    have hFc := va_free (wc := [(v, .inl (cB, M, .inl f))]) hD hS hA [1] rfl
    refine va_callr (va_runS (As := [.ref v, .int (nI (eb_gr M mn))]) (rest := [.ref b]) ⟨hx, hb, hml, hown, hts⟩ (eb_copyOf l D H1.size v cB M f (eb_gr M mn) gg.2.2 (by omega)) (va_cwS 2 hts (eb_gS eb_ok1 (eb_m (ev_gm (p := 14196) (by decide +kernel) rfl)) (eb_m (ev_gm (p := 14197) (by decide +kernel) rfl)) (eb_m (ev_ginit (by decide +kernel) rfl)) (eb_m (ev_gm (p := 14198) (by decide +kernel) rfl))) rfl rfl rfl (by decide +kernel) ⟨Nat.le_of_ble_eq_true rfl, Nat.le_of_ble_eq_true rfl⟩) ⟨fun a U g mk q => by obtain ⟨q0, q1, qP, qK, qD, qF⟩ := q; exact ⟨q0, q1, qP, va_K.moved (u := U) (U := U.calling g mk a) (Vm.Alike.refl U.vm) qK, qD, qF⟩, fun U hU hW => ⟨rfl, by rw [hU], by rw [hU]; exact hPc, va_K.moved hW.alike hK, hDc.weaken (fun _ _ _ _ => trivial), hF⟩⟩ rfl rfl hl.1 rfl (lv_room (Nat.le_of_ble_eq_true rfl)) d32 ⟨Nat.le_of_ble_eq_true rfl, Nat.le_of_ble_eq_true rfl⟩) hS (fun q _ h => hFc q h) hFc (fun u ra t H1 locs1 ht hvm hw hB hz1 hk1 hS => ?_)
    obtain ⟨c2, f2⟩ := u
    obtain ⟨hP1, hK1, hD1⟩ := hB
    rw [ht] at hP1
    have hK1 := va_K.moved hvm.symm hK1
    obtain ⟨hP, hD⟩ := va_join (wr := [(b, .inr (0, [.ref v, .int 0, .int ml, .int (nI n)]))]) (w1 := [(ra, .inl (c2, eb_gr M mn, .inl f2))]) hP hD [1] [0] rfl rfl (by decide) (by decide) hk1 hFc hP1 hD1
    have hK := (hK.sub (tys' := []) [] rfl).app hK1
    have hP : va_P D eb_cl [(b, .inr (0, [.ref v, .int 0, .int ml, .int (nI n)])), (ra, .inl (c2, eb_gr M mn, .inl f2))] H1 := hP
    have hD : va_D A [(b, .inr (0, [.ref v, .int 0, .int ml, .int (nI n)])), (ra, .inl (c2, eb_gr M mn, .inl f2))] := hD
    have hK : va_K D eb_cl [(c2, .byte)] s := hK
    refine va_put (D := D) (ci := 0) (v := .ref ra) (ty := .array .byte) (C := "java/lang/StringBuilder") (T := eb_F) (N := 4) hx hb hts eb_sw eb_ty eb_tyo eb_nm hown hK hP hD hS 0 rfl rfl 0 (by decide) (hts _ (eb_m (ev_gm (p := 15022) (by decide +kernel) rfl))) (fun _ h9 => h9) rfl (by decide +kernel) rfl rfl (Nat.le_of_ble_eq_true rfl) d35 (fun H locs hP hD hS => ?_)
    have hP : va_P D eb_cl (eb_W b ra c2 (eb_gr M mn) f2 ml n) H := hP
    have hD : va_D A (eb_W b ra c2 (eb_gr M mn) f2 ml n) := hD
    exact W.vret hx hb hr (fun t ht hW => ⟨⟨(ra, c2, eb_gr M mn, f2), rfl, ⟨gg.2.1, Nat.le_of_lt gg.2.2, gg.1, hw.1, hw.2⟩, by unfold eb_B; exact ⟨by rw [ht]; exact hP, va_K.moved hW.alike hK, hD⟩⟩, hS.F ht⟩) hS.2.2 d38
