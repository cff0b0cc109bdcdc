/-- the digits' number; facts of small numbers -/
def eb_sz (k : Nat) : Nat := if k < 10 then 1 else if k < 100 then 2 else 3
theorem eb_b7 : ∀ c, c < 128 → (nI c).toInt8.toInt32 = nI c ∧ fits .byte (.int (nI c)) = true := by decide +kernel
theorem eb_k1 : ∀ k, k < 1000 → (decide (-(nI k) ≤ (-10 : Int32)) = decide (10 ≤ k)) ∧ (decide (-(nI k) ≤ (-100 : Int32)) = decide (100 ≤ k)) ∧ (decide (-(nI k) ≤ (-1000 : Int32)) = false) ∧ -(-(nI k)) = nI k := by decide +kernel
theorem eb_k2 : ∀ k, k < 1000 → (decide ((-100 : Int32) < -(nI k)) = decide (k < 100)) ∧ (decide ((-9 : Int32) ≤ -(nI k)) = decide (k < 10)) ∧ -(nI k) / 100 = -(nI (k / 100)) ∧ -(nI (k / 100)) * 100 - -(nI k) = nI (k % 100) := by decide +kernel
theorem eb_dq {p q : Prop} [Decidable p] [Decidable q] (h : decide p = decide q) : p ↔ q := by
  by_cases hp : p <;> by_cases hq : q <;> simp_all
theorem eb_dec (a : Nat) : nI (a + 1) + Int32.ofInt (-1) = nI a := by
  rw [show Int32.ofInt (-1) = -1 from by decide]
  exact sb_m1 (Nat.succ_pos a)
theorem eb_put {f : Nat → Int32} {a d : Nat} (ha : a < 2 ^ 31) (hd : d < 128) : upd f (nI a).toNatClampNeg (vp_nar .byte (nI d)) = upd f a (nI d) := by
  rw [nI_clamp ha, vp_nar_byte, (eb_b7 d hd).1]
theorem eb_fu {M : Nat} {f : Nat → Int32} {a d : Nat} (h : eb_ft M f) (hd : d < 128) : eb_ft M (upd f a (nI d)) := by
  intro i hi
  unfold upd
  by_cases hh : i = a
  · rw [if_pos hh]
    exact (eb_b7 d hd).2
  · rw [if_neg hh]
    exact h i hi
theorem eb_un {f : Nat → Int32} {a j : Nat} {x : Int32} (h : j ≠ a) : upd f a x j = f j := if_neg h
theorem eb_us {f : Nat → Int32} {a : Nat} {x : Int32} : upd f a x a = x := if_pos rfl
abbrev ye_aappC : MethodName := ⟨"java/lang/AbstractStringBuilder", "append", "(C)Ljava/lang/AbstractStringBuilder;"⟩
set_option maxHeartbeats 4000000 in
set_option maxRecDepth 100000 in
theorem eb_aappC (l : Launch) (D : va_G) (sz : Nat) (b v : Nat) (cB : ClassId) (M : Nat) (f : Nat → Int32) (ml : Int32) (n : Nat) (c0 : Nat) (hc : c0 < 128) (hM : M ≤ 600) (hn : n ≤ M) (hN : n + 1 ≤ 300) : Met l ye_aappC (Cond.code ye_aappC prog_15_method_31_code 2 (some ((Jvm.ClassFile.FieldType.object "java/lang/AbstractStringBuilder"))) :: eb_gw) ({ frames := 4, cells := 1, slots := 1300, locals := 120 }) (va_Pc [.ref b, .int (nI c0)] (fun U => U.heap.size = sz ∧ va_P D eb_cl (eb_W b v cB M f ml n) U.heap ∧ va_K D eb_cl [(cB, .byte)] U ∧ va_D (fun _ => True) (eb_W b v cB M f ml n) ∧ va_Z "java/lang/String" "COMPACT_STRINGS" "Z" (.int 1) (va_A (eb_W b v cB M f ml n) sz) U U.heap ∧ eb_ft M f)) (va_Qr (eb_ap n 1 f (fun _ => nI c0)) (fun (u : eb_S) q t => q = b ∧ eb_B D (va_A (eb_W b v cB M f ml n) sz) b ml (n + 1) u t) (va_A (eb_W b v cB M f ml n) sz)) 1 1300 (va_A (eb_W b v cB M f ml n) sz) := by
  refine Met.ofW (cc := prog_15_method_31_code) (maxL := 2) (ret := (some ((Jvm.ClassFile.FieldType.object "java/lang/AbstractStringBuilder")))) (by decide) rfl ?_
  intro p e s m args below meth c s₁ B hml hv
  obtain ⟨rfl, hsz, hP, hK, hD0, hF⟩ := hv
  have hx := B.exec
  have hb := B.bytes
  have hr := B.returns
  have hts0 := atoms_spec (ws := Cond.code ye_aappC prog_15_method_31_code 2 (some ((Jvm.ClassFile.FieldType.object "java/lang/AbstractStringBuilder"))) :: eb_gw) B.pre
  have hts : ∀ w ∈ eb_gw, w.before _ s = true := fun w hw => hts0 w (List.mem_cons_of_mem _ hw)
  have hown : s.vm.findClass "java/lang/AbstractStringBuilder" = some m.cls := findClass_of_methodNamed B.named
  have hlocks := B.notSynchronized
  subst hsz
  have hD := hD0.self (sz := s.heap.size)
  generalize hAe : va_A (eb_W b v cB M f ml n) s.heap.size = A at hD hF ⊢
  have hA : ∀ q : Nat, s.heap.size ≤ q → A q := fun q h => by rw [← hAe]; exact Or.inr h
  have hS : va_S A s.heap s.heap [] := va_S.rf
  have hl := lv_entry ([.ref b, .int (nI c0)]) (n := 2) (Nat.le_of_ble_eq_true rfl)
  rw [lg_entry_eq]
  generalize (lg_sl ([.ref b, .int (nI c0)]) ++ List.replicate (2 - (lg_sl ([.ref b, .int (nI c0)])).length) Slot.unset).toArray = ls at hl ⊢
  have hl : lv_has ls 2 [(0, .ref b), (1, .int (nI c0))] := hl
  have d0 : decode prog_15_method_31_code 0 = .ok (.aload_n 0, 1) := by decide +kernel
  have d1 : decode prog_15_method_31_code 1 = .ok (.aload_n 0, 1) := by decide +kernel
  have d2 : decode prog_15_method_31_code 2 = .ok (.getfield 79, 3) := by decide +kernel
  have d5 : decode prog_15_method_31_code 5 = .ok (.iconst 1, 1) := by decide +kernel
  have d6 : decode prog_15_method_31_code 6 = .ok (.iadd, 1) := by decide +kernel
  have d7 : decode prog_15_method_31_code 7 = .ok (.invokevirtual 100, 3) := by decide +kernel
  have d10 : decode prog_15_method_31_code 10 = .ok (.aload_n 0, 1) := by decide +kernel
  have d11 : decode prog_15_method_31_code 11 = .ok (.invokevirtual 83, 3) := by decide +kernel
  have d14 : decode prog_15_method_31_code 14 = .ok (.ifCond .eq (31), 3) := by decide +kernel
  have d17 : decode prog_15_method_31_code 17 = .ok (.iload_n 1, 1) := by decide +kernel
  have d18 : decode prog_15_method_31_code 18 = .ok (.invokestatic 191, 3) := by decide +kernel
  have d21 : decode prog_15_method_31_code 21 = .ok (.ifCond .eq (24), 3) := by decide +kernel
  have d24 : decode prog_15_method_31_code 24 = .ok (.aload_n 0, 1) := by decide +kernel
  have d25 : decode prog_15_method_31_code 25 = .ok (.getfield 15, 3) := by decide +kernel
  have d28 : decode prog_15_method_31_code 28 = .ok (.aload_n 0, 1) := by decide +kernel
  have d29 : decode prog_15_method_31_code 29 = .ok (.dup, 1) := by decide +kernel
  have d30 : decode prog_15_method_31_code 30 = .ok (.getfield 79, 3) := by decide +kernel
  have d33 : decode prog_15_method_31_code 33 = .ok (.dup_x1, 1) := by decide +kernel
  have d34 : decode prog_15_method_31_code 34 = .ok (.iconst 1, 1) := by decide +kernel
  have d35 : decode prog_15_method_31_code 35 = .ok (.iadd, 1) := by decide +kernel
  have d36 : decode prog_15_method_31_code 36 = .ok (.putfield 79, 3) := by decide +kernel
  have d39 : decode prog_15_method_31_code 39 = .ok (.iload_n 1, 1) := by decide +kernel
  have d40 : decode prog_15_method_31_code 40 = .ok (.i2b, 1) := by decide +kernel
  have d41 : decode prog_15_method_31_code 41 = .ok (.bastore, 1) := by decide +kernel
  have d42 : decode prog_15_method_31_code 42 = .ok (.goto (33), 3) := by decide +kernel
  have d75 : decode prog_15_method_31_code 75 = .ok (.aload_n 0, 1) := by decide +kernel
  have d76 : decode prog_15_method_31_code 76 = .ok (.areturn, 1) := by decide +kernel
  obtain ⟨hZ, hff⟩ := hF
  refine lv_aload_n hx hb d0 rfl (lv_at hl 0 rfl) ?_
  refine lv_aload_n hx hb d1 rfl (lv_at hl 0 rfl) ?_
  refine va_get (D := D) (ci := 0) (v := .int (nI n)) (C := "java/lang/StringBuilder") (T := eb_F) (N := 4) hx hb hts eb_sw hown hK hP 0 rfl rfl 3 (by decide) (hts _ (eb_m (ev_gm (p := 15025) (by decide +kernel) rfl))) (fun _ h9 => h9) rfl d2 ?_
  refine lv_iconst (v := nI 1) hx hb d5 (by decide) ?_
  refine lv_iadd hx hb d6 ?_
  refine lv_topi (fun y ey => ?_); obtain rfl : y = nI (n + 1) := ey.trans (nI_add n 1)
  have hFc := va_free (wc := (eb_W b v cB M f ml n)) hD hS hA [0, 1] rfl
  refine va_callv (va_runU (As := [.int (nI (n + 1))]) (rest := []) ⟨hx, hb, hml, hown, hts⟩ (eb_ensure l D s.heap.size b v cB M f ml n (n + 1) hM hN) (va_cwU (C := "java/lang/StringBuilder") 1 hts (eb_gU eb_ok1 (owner := "java/lang/AbstractStringBuilder") (eb_m (ev_gm (p := 14178) (by decide +kernel) rfl)) (eb_m (ev_gm (p := 17022) (by decide +kernel) rfl)) (eb_p (k := 0) rfl) (eb_m (ev_gm (p := 14180) (by decide +kernel) rfl)) (eb_m (ev_ginit (by decide +kernel) rfl)) (eb_m (ev_gm (p := 14181) (by decide +kernel) rfl))) rfl rfl rfl rfl (by decide +kernel) ⟨Nat.le_of_ble_eq_true rfl, Nat.le_of_ble_eq_true rfl⟩) ⟨fun a U g mk q => by obtain ⟨q0, q1, qP, qK, qD, qF⟩ := q; exact ⟨q0, q1, qP, va_K.moved (u := U) (U := U.calling g mk a) (Vm.Alike.refl U.vm) qK, qD, qF⟩, va_recv hK hP (ci := 0) (q0 := 0) rfl rfl, fun U hU hW => ⟨rfl, by rw [hU], by rw [hU]; exact hP, va_K.moved hW.alike hK, hD.weaken (fun _ _ _ _ => trivial), hff⟩⟩ rfl rfl hl.1 rfl (lv_room (Nat.le_of_ble_eq_true rfl)) d7 ⟨Nat.le_of_ble_eq_true rfl, Nat.le_of_ble_eq_true rfl⟩) hS (fun q _ h => hFc q h) hFc (fun u t H1 locs2 ht hvm hw hB hz1 hk1 hS => ?_)
  obtain ⟨v1, c1, M1, f1⟩ := u
  obtain ⟨hP1, hK1, hD1⟩ := hB
  dsimp only at hP1 hK1 hD1
  rw [ht] at hP1
  have hK := va_K.moved hvm.symm hK1
  obtain ⟨hP, hD⟩ := va_join (wr := []) (w1 := (eb_W b v1 c1 M1 f1 ml n)) hP hD [0, 1] [] rfl rfl (by decide) (by decide) hk1 hFc hP1 hD1
  have hP : va_P D eb_cl (eb_W b v1 c1 M1 f1 ml n) H1 := hP
  have hD : va_D A (eb_W b v1 c1 M1 f1 ml n) := hD
  obtain ⟨w1, w2, w3, w4, w5⟩ := hw
  dsimp only at w1 w2 w3 w4 w5
  refine lv_aload_n hx hb d10 rfl (lv_at hl 0 rfl) ?_
  refine va_calli (va_runU (As := []) (rest := []) ⟨hx, hb, hml, hown, hts⟩ (eb_isLatin1 l D b v1 c1 M1 f1 ml n) (va_cwU (C := "java/lang/StringBuilder") (x := ye_isLatin1) 0 hts (eb_gU eb_ok1 (owner := "java/lang/AbstractStringBuilder") (eb_m (ev_gm (p := 14208) (by decide +kernel) rfl)) (eb_m (ev_gm (p := 14210) (by decide +kernel) rfl)) (eb_m (ev_gm (p := 14211) (by decide +kernel) rfl)) (eb_m (ev_gm (p := 14209) (by decide +kernel) rfl)) (eb_m (ev_ginit (by decide +kernel) rfl)) (eb_m (ev_gm (p := 14212) (by decide +kernel) rfl))) rfl rfl rfl rfl (by decide +kernel) ⟨Nat.le_of_ble_eq_true rfl, Nat.le_of_ble_eq_true rfl⟩) ⟨fun a U g mk q => ⟨q.1, va_K.moved (u := U) (U := U.calling g mk a) (Vm.Alike.refl U.vm) q.2.1, q.2.2.1, va_Z.moved (u := U) (U := U.calling g mk a) (Vm.Alike.refl U.vm) q.2.2.2⟩, va_recv hK hP (ci := 0) (q0 := 0) rfl rfl, fun U hU hW => ⟨rfl, va_K.moved hW.alike hK, by show va_P D eb_cl _ U.heap; rw [hU]; exact hP, by show va_Z _ _ _ _ _ U U.heap; rw [hU]; exact ((hZ.kept hS.2.1).narrow (fun _ z => z.elim)).moved hW.alike⟩⟩ rfl rfl hl.1 rfl (lv_room (Nat.le_of_ble_eq_true rfl)) d11 ⟨Nat.le_of_ble_eq_true rfl, Nat.le_of_ble_eq_true rfl⟩) hS (fun q _ h => h.elim) (fun q h => h.elim) (fun r u t H3 locs1 ht hvm hw hB hz1 hk1 hS => ?_)
  have hw : r = 1 := hw
  subst hw
  have hP := eb_keep hP hk1
  refine lv_if_eq (tgt := 45) hx hb d14 (by decide) (fun z => absurd z (by decide)) (fun _ => ?_)
  refine lv_iload_n hx hb d17 rfl (lv_at hl 1 rfl) ?_
  refine va_calli (va_runS (As := [.int (nI c0)]) (rest := []) ⟨hx, hb, hml, hown, hts⟩ (eb_canEncode l D c0 (by omega)) (va_cwS 1 hts (eb_gS eb_ok1 (eb_m (ev_gm (p := 15067) (by decide +kernel) rfl)) (eb_m (ev_gm (p := 15068) (by decide +kernel) rfl)) (eb_m (ev_ginit (by decide +kernel) rfl)) (eb_m (ev_gm (p := 15069) (by decide +kernel) rfl))) rfl rfl rfl (by decide +kernel) ⟨Nat.le_of_ble_eq_true rfl, Nat.le_of_ble_eq_true rfl⟩) ⟨fun a U g mk q => ⟨q.1, trivial⟩, fun U hU hW => ⟨rfl, trivial⟩⟩ rfl rfl hl.1 rfl (lv_room (Nat.le_of_ble_eq_true rfl)) d18 ⟨Nat.le_of_ble_eq_true rfl, Nat.le_of_ble_eq_true rfl⟩) hS (fun q _ h => h.elim) (fun q h => h.elim) (fun r u t H4 locs1 ht hvm hw hB hz1 hk1 hS => ?_)
  have hw : r = 1 := hw
  subst hw
  have hP := eb_keep hP hk1
  refine lv_if_eq (tgt := 45) hx hb d21 (by decide) (fun z => absurd z (by decide)) (fun _ => ?_)
  refine lv_aload_n hx hb d24 rfl (lv_at hl 0 rfl) ?_
  refine va_get (D := D) (ci := 0) (v := .ref v1) (C := "java/lang/StringBuilder") (T := eb_F) (N := 4) hx hb hts eb_sw hown hK hP 0 rfl rfl 0 (by decide) (hts _ (eb_m (ev_gm (p := 15022) (by decide +kernel) rfl))) (fun _ h9 => h9) rfl d25 ?_
  refine lv_aload_n hx hb d28 rfl (lv_at hl 0 rfl) ?_
  refine lv_dup hx hb d29 rfl ?_
  refine va_get (D := D) (ci := 0) (v := .int (nI n)) (C := "java/lang/StringBuilder") (T := eb_F) (N := 4) hx hb hts eb_sw hown hK hP 0 rfl rfl 3 (by decide) (hts _ (eb_m (ev_gm (p := 15025) (by decide +kernel) rfl))) (fun _ h9 => h9) rfl d30 ?_
  refine lv_dup_x1 hx hb d33 rfl rfl ?_
  refine lv_iconst (v := nI 1) hx hb d34 (by decide) ?_
  refine lv_iadd hx hb d35 ?_
  refine lv_topi (fun y ey => ?_); obtain rfl : y = nI (n + 1) := ey.trans (nI_add n 1)
  refine va_put (D := D) (ci := 0) (v := .int (nI (n + 1))) (ty := .int) (C := "java/lang/StringBuilder") (T := eb_F) (N := 4) hx hb hts eb_sw eb_ty eb_tyo eb_nm hown hK hP hD hS 0 rfl rfl 3 (by decide) (hts _ (eb_m (ev_gm (p := 15025) (by decide +kernel) rfl))) (fun _ h9 => h9) rfl (by decide +kernel) rfl rfl (Nat.le_of_ble_eq_true rfl) d36 (fun H locs hP hD hS => ?_)
  have hP : va_P D eb_cl (eb_W b v1 c1 M1 f1 ml (n + 1)) H := hP
  have hD : va_D A (eb_W b v1 c1 M1 f1 ml (n + 1)) := hD
  refine lv_iload_n hx hb d39 rfl (lv_at hl 1 rfl) ?_
  refine lv_i2b hx hb d40 (eb_b7 c0 hc).1 ?_
  refine va_bast hx hb hK hP hD hS 1 0 rfl rfl (vp_in_nI (by omega) (by omega)) d41 (fun H5 locs5 hP hD hS => ?_)
  rw [eb_put (by omega) hc] at hP hD
  have hP : va_P D eb_cl (eb_W b v1 c1 M1 (upd f1 n (nI c0)) ml (n + 1)) H5 := hP
  have hD : va_D A (eb_W b v1 c1 M1 (upd f1 n (nI c0)) ml (n + 1)) := hD
  refine lv_goto (tgt := 75) hx hb d42 (by decide) ?_
  refine lv_aload_n hx hb d75 rfl (lv_at hl 0 rfl) ?_
  have hap : eb_ap n 1 f (fun _ => nI c0) (v1, c1, M1, upd f1 n (nI c0)) := ⟨w1, w3, fun j hj => (eb_un (by omega)).trans (w4 j (by omega)), fun j hj => by
    obtain rfl : j = 0 := by omega
    exact eb_us, eb_fu w5 hc⟩
  exact W.aret hx hb hr (.inl ⟨_, rfl⟩) (.inr ⟨_, rfl⟩) (fun t ht hW => ⟨⟨_, b, rfl, hap, rfl, by unfold eb_B; exact ⟨by rw [ht]; exact hP, va_K.moved hW.alike hK, hD⟩⟩, hS.F ht⟩) hS.2.2 d76
abbrev ye_sappC : MethodName := ⟨"java/lang/StringBuilder", "append", "(C)Ljava/lang/StringBuilder;"⟩
set_option maxHeartbeats 4000000 in
set_option maxRecDepth 100000 in
theorem eb_sappC (l : Launch) (D : va_G) (sz : Nat) (b v : Nat) (cB : ClassId) (M : Nat) (f : Nat → Int32) (ml : Int32) (n : Nat) (c0 : Nat) (hc : c0 < 128) (hM : M ≤ 600) (hn : n ≤ M) (hN : n + 1 ≤ 300) : Met l ye_sappC (Cond.code ye_sappC prog_29_method_14_code 2 (some ((Jvm.ClassFile.FieldType.object "java/lang/StringBuilder"))) :: eb_gw) ({ frames := 5, cells := 1, slots := 1300, locals := 150 }) (va_Pc [.ref b, .int (nI c0)] (fun U => U.heap.size = sz ∧ va_P D eb_cl (eb_W b v cB M f ml n) U.heap ∧ va_K D eb_cl [(cB, .byte)] U ∧ va_D (fun _ => True) (eb_W b v cB M f ml n) ∧ va_Z "java/lang/String" "COMPACT_STRINGS" "Z" (.int 1) (va_A (eb_W b v cB M f ml n) sz) U U.heap ∧ eb_ft M f)) (va_Qr (eb_ap n 1 f (fun _ => nI c0)) (fun (u : eb_S) q t => q = b ∧ eb_B D (va_A (eb_W b v cB M f ml n) sz) b ml (n + 1) u t) (va_A (eb_W b v cB M f ml n) sz)) 1 1300 (va_A (eb_W b v cB M f ml n) sz) := by
  refine Met.ofW (cc := prog_29_method_14_code) (maxL := 2) (ret := (some ((Jvm.ClassFile.FieldType.object "java/lang/StringBuilder")))) (by decide) rfl ?_
  intro p e s m args below meth c s₁ B hml hv
  obtain ⟨rfl, hsz, hP, hK, hD0, hF⟩ := hv
  have hx := B.exec
  have hb := B.bytes
  have hr := B.returns
  have hts0 := atoms_spec (ws := Cond.code ye_sappC prog_29_method_14_code 2 (some ((Jvm.ClassFile.FieldType.object "java/lang/StringBuilder"))) :: eb_gw) B.pre
  have hts : ∀ w ∈ eb_gw, w.before _ s = true := fun w hw => hts0 w (List.mem_cons_of_mem _ hw)
  have hown : s.vm.findClass "java/lang/StringBuilder" = some m.cls := findClass_of_methodNamed B.named
  have hlocks := B.notSynchronized
  subst hsz
  have hD := hD0.self (sz := s.heap.size)
  generalize hAe : va_A (eb_W b v cB M f ml n) s.heap.size = A at hD hF ⊢
  have hA : ∀ q : Nat, s.heap.size ≤ q → A q := fun q h => by rw [← hAe]; exact Or.inr h
  have hS : va_S A s.heap s.heap [] := va_S.rf
  have hl := lv_entry ([.ref b, .int (nI c0)]) (n := 2) (Nat.le_of_ble_eq_true rfl)
  rw [lg_entry_eq]
  generalize (lg_sl ([.ref b, .int (nI c0)]) ++ List.replicate (2 - (lg_sl ([.ref b, .int (nI c0)])).length) Slot.unset).toArray = ls at hl ⊢
  have hl : lv_has ls 2 [(0, .ref b), (1, .int (nI c0))] := hl
  have d0 : decode prog_29_method_14_code 0 = .ok (.aload_n 0, 1) := by decide +kernel
  have d1 : decode prog_29_method_14_code 1 = .ok (.iload_n 1, 1) := by decide +kernel
  have d2 : decode prog_29_method_14_code 2 = .ok (.invokespecial 50, 3) := by decide +kernel
  have d5 : decode prog_29_method_14_code 5 = .ok (.pop, 1) := by decide +kernel
  have d6 : decode prog_29_method_14_code 6 = .ok (.aload_n 0, 1) := by decide +kernel
  have d7 : decode prog_29_method_14_code 7 = .ok (.areturn, 1) := by decide +kernel
  refine lv_aload_n hx hb d0 rfl (lv_at hl 0 rfl) ?_
  refine lv_iload_n hx hb d1 rfl (lv_at hl 1 rfl) ?_
  have hFc := va_free (wc := (eb_W b v cB M f ml n)) hD hS hA [0, 1] rfl
  refine va_callr (va_runSU (hK.1 0 _ rfl).2 (As := [.int (nI c0)]) (rest := []) ⟨hx, hb, hml, hown, hts⟩ (eb_aappC l D s.heap.size b v cB M f ml n c0 hc hM hn hN) (va_cwSU 1 hts (eb_gSU eb_ok1 (eb_m (ev_gm (p := 15064) (by decide +kernel) rfl)) (eb_m (ev_gm (p := 17028) (by decide +kernel) rfl)) (eb_m (ev_gm (p := 14172) (by decide +kernel) rfl)) (eb_m (ev_gm (p := 15065) (by decide +kernel) rfl)) (eb_m (ev_ginit (by decide +kernel) rfl)) (eb_m (ev_gm (p := 15066) (by decide +kernel) rfl))) rfl rfl rfl (by decide +kernel) ⟨Nat.le_of_ble_eq_true rfl, Nat.le_of_ble_eq_true rfl⟩) ⟨fun a U g mk q => by obtain ⟨q0, q1, qP, qK, qD, qF⟩ := q; exact ⟨q0, q1, qP, va_K.moved (u := U) (U := U.calling g mk a) (Vm.Alike.refl U.vm) qK, qD, va_Z.moved (u := U) (U := U.calling g mk a) (Vm.Alike.refl U.vm) qF.1, qF.2⟩, va_recv hK hP (ci := 0) (q0 := 0) rfl rfl, fun U hU hW => ⟨rfl, by rw [hU], by rw [hU]; exact hP, va_K.moved hW.alike hK, hD.weaken (fun _ _ _ _ => trivial), by show va_Z _ _ _ _ _ U U.heap; rw [hU]; exact ((hF.1.kept hS.2.1).narrow hFc).moved hW.alike, hF.2⟩⟩ rfl rfl hl.1 rfl (lv_room (Nat.le_of_ble_eq_true rfl)) d2 ⟨Nat.le_of_ble_eq_true rfl, Nat.le_of_ble_eq_true rfl⟩) hS (fun q _ h => hFc q h) hFc (fun u ra t H1 locs1 ht hvm hw hB hz1 hk1 hS => ?_)
  obtain ⟨v1, c1, M1, f1⟩ := u
  obtain ⟨hq, hB⟩ := hB
  subst hq
  obtain ⟨hP1, hK1, hD1⟩ := hB
  dsimp only at hP1 hK1 hD1
  rw [ht] at hP1
  have hK := va_K.moved hvm.symm hK1
  obtain ⟨hP, hD⟩ := va_join (wr := []) (w1 := (eb_W _ v1 c1 M1 f1 ml (n + 1))) hP hD [0, 1] [] rfl rfl (by decide) (by decide) hk1 hFc hP1 hD1
  have hP : va_P D eb_cl (eb_W _ v1 c1 M1 f1 ml (n + 1)) H1 := hP
  have hD : va_D A (eb_W _ v1 c1 M1 f1 ml (n + 1)) := hD
  refine lv_pop hx hb d5 rfl ?_
  refine lv_aload_n hx hb d6 rfl (lv_at hl 0 rfl) ?_
  exact W.aret hx hb hr (.inl ⟨_, rfl⟩) (.inr ⟨_, rfl⟩) (fun t ht hW => ⟨⟨(v1, c1, M1, f1), _, rfl, hw, rfl, by unfold eb_B; exact ⟨by rw [ht]; exact hP, va_K.moved hW.alike hK, hD⟩⟩, hS.F ht⟩) hS.2.2 d7
