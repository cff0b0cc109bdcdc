set_option maxHeartbeats 4000000 in
set_option maxRecDepth 100000 in
theorem eb_setup (l : Launch) (D : va_G) (sz : Nat) (L : Nat) (xs : Nat → Int32) (b0 : Nat) (hL : L ≤ 1000000) (av aw : Nat → Nat) : Met l ye_setup (Cond.code ye_setup method_7_code 9 (some ((Jvm.ClassFile.FieldType.object "java/lang/String"))) :: eb_gw) ({ frames := 9, cells := 400, slots := 600000, locals := 270 }) (va_Pc [.ref b0] (fun U => U.heap.size = sz ∧ va_P D eb_cl [] U.heap ∧ va_K D eb_cl [] U ∧ va_D (fun _ => True) [] ∧ eb_X L xs b0 av aw (va_A [] sz) U U.heap ∧ eb_Y av U)) (va_Qr (fun (_ : Unit) => True) (fun _ q t => ∃ (v : Nat) (lx : List Nat), eb_OK lx ∧ eb_T (fun _ => False) lx.length (eb_fx lx) q v t t.heap ∧ sz ≤ q ∧ sz ≤ v) (va_A [] sz)) 400 600000 (va_A [] sz) := by
  refine Met.ofW (cc := method_7_code) (maxL := 9) (ret := (some ((Jvm.ClassFile.FieldType.object "java/lang/String")))) (by decide) rfl ?_
  intro p e s m args below meth c s₁ B hml hv
  obtain ⟨rfl, hsz, hP, hK, hD0, hF⟩ := hv
  have hx := B.exec
  have hb := B.bytes
  have hr := B.returns
  have hts0 := atoms_spec (ws := Cond.code ye_setup method_7_code 9 (some ((Jvm.ClassFile.FieldType.object "java/lang/String"))) :: eb_gw) B.pre
  have hts : ∀ w ∈ eb_gw, w.before _ s = true := fun w hw => hts0 w (List.mem_cons_of_mem _ hw)
  have hown : s.vm.findClass "LanternChessLaw" = some m.cls := findClass_of_methodNamed B.named
  have hlocks := B.notSynchronized
  subst hsz
  have hD := hD0.self (sz := s.heap.size)
  generalize hAe : va_A [] s.heap.size = A at hD hF ⊢
  have hA : ∀ q : Nat, s.heap.size ≤ q → A q := fun q h => by rw [← hAe]; exact Or.inr h
  have hS : va_S A s.heap s.heap [] := va_S.rf
  have hl := lv_entry ([.ref b0]) (n := 9) (Nat.le_of_ble_eq_true rfl)
  rw [lg_entry_eq]
  generalize (lg_sl ([.ref b0]) ++ List.replicate (9 - (lg_sl ([.ref b0])).length) Slot.unset).toArray = ls at hl ⊢
  have hl : lv_has ls 9 [(0, .ref b0)] := hl
  have d0 : decode method_7_code 0 = .ok (.aload_n 0, 1) := by decide +kernel
  have d1 : decode method_7_code 1 = .ok (.iconst 0, 1) := by decide +kernel
  have d2 : decode method_7_code 2 = .ok (.iconst 4, 1) := by decide +kernel
  have d3 : decode method_7_code 3 = .ok (.bipush (6), 2) := by decide +kernel
  have d5 : decode method_7_code 5 = .ok (.invokestatic 52, 3) := by decide +kernel
  have d8 : decode method_7_code 8 = .ok (.istore_n 1, 1) := by decide +kernel
  have d9 : decode method_7_code 9 = .ok (.aload_n 0, 1) := by decide +kernel
  have d10 : decode method_7_code 10 = .ok (.iconst 1, 1) := by decide +kernel
  have d11 : decode method_7_code 11 = .ok (.iconst 4, 1) := by decide +kernel
  have d12 : decode method_7_code 12 = .ok (.bipush (6), 2) := by decide +kernel
  have d14 : decode method_7_code 14 = .ok (.invokestatic 52, 3) := by decide +kernel
  have d17 : decode method_7_code 17 = .ok (.istore_n 2, 1) := by decide +kernel
  have d18 : decode method_7_code 18 = .ok (.bipush (64), 2) := by decide +kernel
  have d20 : decode method_7_code 20 = .ok (.newarray .boolean, 2) := by decide +kernel
  have d22 : decode method_7_code 22 = .ok (.astore_n 3, 1) := by decide +kernel
  have d23 : decode method_7_code 23 = .ok (.new 56, 3) := by decide +kernel
  have d26 : decode method_7_code 26 = .ok (.dup, 1) := by decide +kernel
  have d27 : decode method_7_code 27 = .ok (.ldc 58, 2) := by decide +kernel
  have d29 : decode method_7_code 29 = .ok (.invokespecial 60, 3) := by decide +kernel
  have d32 : decode method_7_code 32 = .ok (.astore 4, 2) := by decide +kernel
  have d34 : decode method_7_code 34 = .ok (.aload 4, 2) := by decide +kernel
  have d36 : decode method_7_code 36 = .ok (.iload_n 1, 1) := by decide +kernel
  have d37 : decode method_7_code 37 = .ok (.invokevirtual 63, 3) := by decide +kernel
  have d40 : decode method_7_code 40 = .ok (.bipush (32), 2) := by decide +kernel
  have d42 : decode method_7_code 42 = .ok (.invokevirtual 67, 3) := by decide +kernel
  have d45 : decode method_7_code 45 = .ok (.iload_n 2, 1) := by decide +kernel
  have d46 : decode method_7_code 46 = .ok (.invokevirtual 63, 3) := by decide +kernel
  have d49 : decode method_7_code 49 = .ok (.ldc 70, 2) := by decide +kernel
  have d51 : decode method_7_code 51 = .ok (.invokevirtual 72, 3) := by decide +kernel
  have d54 : decode method_7_code 54 = .ok (.aload_n 0, 1) := by decide +kernel
  have d55 : decode method_7_code 55 = .ok (.iconst 2, 1) := by decide +kernel
  have d56 : decode method_7_code 56 = .ok (.bipush (60), 2) := by decide +kernel
  have d58 : decode method_7_code 58 = .ok (.sipush (900), 3) := by decide +kernel
  have d61 : decode method_7_code 61 = .ok (.invokestatic 52, 3) := by decide +kernel
  have d64 : decode method_7_code 64 = .ok (.invokevirtual 63, 3) := by decide +kernel
  have d67 : decode method_7_code 67 = .ok (.bipush (32), 2) := by decide +kernel
  have d69 : decode method_7_code 69 = .ok (.invokevirtual 67, 3) := by decide +kernel
  have d72 : decode method_7_code 72 = .ok (.aload_n 0, 1) := by decide +kernel
  have d73 : decode method_7_code 73 = .ok (.iconst 3, 1) := by decide +kernel
  have d74 : decode method_7_code 74 = .ok (.bipush (60), 2) := by decide +kernel
  have d76 : decode method_7_code 76 = .ok (.sipush (900), 3) := by decide +kernel
  have d79 : decode method_7_code 79 = .ok (.invokestatic 52, 3) := by decide +kernel
  have d82 : decode method_7_code 82 = .ok (.invokevirtual 63, 3) := by decide +kernel
  have d85 : decode method_7_code 85 = .ok (.ldc 75, 2) := by decide +kernel
  have d87 : decode method_7_code 87 = .ok (.invokevirtual 72, 3) := by decide +kernel
  have d90 : decode method_7_code 90 = .ok (.aload_n 0, 1) := by decide +kernel
  have d91 : decode method_7_code 91 = .ok (.iconst 4, 1) := by decide +kernel
  have d92 : decode method_7_code 92 = .ok (.iconst 1, 1) := by decide +kernel
  have d93 : decode method_7_code 93 = .ok (.iconst 3, 1) := by decide +kernel
  have d94 : decode method_7_code 94 = .ok (.invokestatic 52, 3) := by decide +kernel
  have d97 : decode method_7_code 97 = .ok (.invokevirtual 63, 3) := by decide +kernel
  have d100 : decode method_7_code 100 = .ok (.ldc 77, 2) := by decide +kernel
  have d102 : decode method_7_code 102 = .ok (.invokevirtual 72, 3) := by decide +kernel
  have d105 : decode method_7_code 105 = .ok (.aload_n 0, 1) := by decide +kernel
  have d106 : decode method_7_code 106 = .ok (.iconst 5, 1) := by decide +kernel
  have d107 : decode method_7_code 107 = .ok (.iconst 0, 1) := by decide +kernel
  have d108 : decode method_7_code 108 = .ok (.iconst 4, 1) := by decide +kernel
  have d109 : decode method_7_code 109 = .ok (.invokestatic 52, 3) := by decide +kernel
  have d112 : decode method_7_code 112 = .ok (.invokevirtual 63, 3) := by decide +kernel
  have d115 : decode method_7_code 115 = .ok (.ldc 79, 2) := by decide +kernel
  have d117 : decode method_7_code 117 = .ok (.invokevirtual 72, 3) := by decide +kernel
  have d120 : decode method_7_code 120 = .ok (.aload_n 0, 1) := by decide +kernel
  have d121 : decode method_7_code 121 = .ok (.bipush (6), 2) := by decide +kernel
  have d123 : decode method_7_code 123 = .ok (.iconst 1, 1) := by decide +kernel
  have d124 : decode method_7_code 124 = .ok (.iconst 4, 1) := by decide +kernel
  have d125 : decode method_7_code 125 = .ok (.invokestatic 52, 3) := by decide +kernel
  have d128 : decode method_7_code 128 = .ok (.invokevirtual 63, 3) := by decide +kernel
  have d131 : decode method_7_code 131 = .ok (.bipush (59), 2) := by decide +kernel
  have d133 : decode method_7_code 133 = .ok (.invokevirtual 67, 3) := by decide +kernel
  have d136 : decode method_7_code 136 = .ok (.pop, 1) := by decide +kernel
  have d137 : decode method_7_code 137 = .ok (.aload 4, 2) := by decide +kernel
  have d139 : decode method_7_code 139 = .ok (.ldc 81, 2) := by decide +kernel
  have d141 : decode method_7_code 141 = .ok (.invokevirtual 72, 3) := by decide +kernel
  have d144 : decode method_7_code 144 = .ok (.iload_n 1, 1) := by decide +kernel
  have d145 : decode method_7_code 145 = .ok (.iconst 1, 1) := by decide +kernel
  have d146 : decode method_7_code 146 = .ok (.isub, 1) := by decide +kernel
  have d147 : decode method_7_code 147 = .ok (.invokevirtual 63, 3) := by decide +kernel
  have d150 : decode method_7_code 150 = .ok (.bipush (32), 2) := by decide +kernel
  have d152 : decode method_7_code 152 = .ok (.invokevirtual 67, 3) := by decide +kernel
  have d155 : decode method_7_code 155 = .ok (.iload_n 2, 1) := by decide +kernel
  have d156 : decode method_7_code 156 = .ok (.iconst 1, 1) := by decide +kernel
  have d157 : decode method_7_code 157 = .ok (.isub, 1) := by decide +kernel
  have d158 : decode method_7_code 158 = .ok (.invokevirtual 63, 3) := by decide +kernel
  have d161 : decode method_7_code 161 = .ok (.bipush (59), 2) := by decide +kernel
  have d163 : decode method_7_code 163 = .ok (.invokevirtual 67, 3) := by decide +kernel
  have d166 : decode method_7_code 166 = .ok (.pop, 1) := by decide +kernel
  have d167 : decode method_7_code 167 = .ok (.aload_n 3, 1) := by decide +kernel
  have d168 : decode method_7_code 168 = .ok (.iconst 0, 1) := by decide +kernel
  have d169 : decode method_7_code 169 = .ok (.iconst 1, 1) := by decide +kernel
  have d170 : decode method_7_code 170 = .ok (.bastore, 1) := by decide +kernel
  have d171 : decode method_7_code 171 = .ok (.aload_n 3, 1) := by decide +kernel
  have d172 : decode method_7_code 172 = .ok (.iload_n 1, 1) := by decide +kernel
  have d173 : decode method_7_code 173 = .ok (.iload_n 2, 1) := by decide +kernel
  have d174 : decode method_7_code 174 = .ok (.imul, 1) := by decide +kernel
  have d175 : decode method_7_code 175 = .ok (.iconst 1, 1) := by decide +kernel
  have d176 : decode method_7_code 176 = .ok (.isub, 1) := by decide +kernel
  have d177 : decode method_7_code 177 = .ok (.iconst 1, 1) := by decide +kernel
  have d178 : decode method_7_code 178 = .ok (.bastore, 1) := by decide +kernel
  have d179 : decode method_7_code 179 = .ok (.aload_n 0, 1) := by decide +kernel
  have d180 : decode method_7_code 180 = .ok (.bipush (7), 2) := by decide +kernel
  have d182 : decode method_7_code 182 = .ok (.iconst 0, 1) := by decide +kernel
  have d183 : decode method_7_code 183 = .ok (.bipush (6), 2) := by decide +kernel
  have d185 : decode method_7_code 185 = .ok (.invokestatic 52, 3) := by decide +kernel
  have d188 : decode method_7_code 188 = .ok (.istore 5, 2) := by decide +kernel
  have d190 : decode method_7_code 190 = .ok (.iconst 0, 1) := by decide +kernel
  have d191 : decode method_7_code 191 = .ok (.istore 6, 2) := by decide +kernel
  obtain ⟨hX, hY⟩ := hF
  have hA2 : ∀ q, A q → s.heap.size ≤ q := fun q h => by rw [← hAe] at h; exact h.elim (fun ⟨k, e, z⟩ => nomatch z) id
  refine lv_aload_n hx hb d0 rfl (lv_at hl 0 rfl) ?_
  refine lv_iconst (v := nI 0) hx hb d1 (by decide) ?_
  refine lv_iconst (v := nI 4) hx hb d2 (by decide) ?_
  refine lv_bipush (v := nI 6) hx hb d3 (by decide) ?_
  refine va_calli (va_runS (As := [.ref b0, .int (nI (0)), .int (nI (4)), .int (nI (6))]) (rest := []) ⟨hx, hb, hml, hown, hts⟩ (eb_draw l D L xs b0 (by omega) (0) (4) (6) (by omega) (by omega) (by omega)) (va_cwS 4 hts (eb_gS eb_ok1 (eb_m (ev_gm (p := 13193) (by decide +kernel) rfl)) (eb_m (ev_gm (p := 13194) (by decide +kernel) rfl)) (eb_m (ev_ginit (by decide +kernel) rfl)) (eb_m (ev_gm (p := 13195) (by decide +kernel) rfl))) rfl rfl rfl (by decide +kernel) ⟨Nat.le_of_ble_eq_true rfl, Nat.le_of_ble_eq_true rfl⟩) ⟨fun a U g mk q => ⟨q.1, va_T.moved (u := U) (U := U.calling g mk a) (Vm.Alike.refl U.vm) q.2⟩, fun U hU hW => ⟨rfl, by show va_T _ _ _ _ _ U U.heap; rw [hU]; exact ((hX.2.1.kept hS.2.1).narrow (fun _ z => z.elim)).moved hW.alike⟩⟩ rfl rfl hl.1 rfl (lv_room (Nat.le_of_ble_eq_true rfl)) d5 ⟨by show _ ≤ 400; omega, by show _ ≤ 600000; omega⟩) hS (fun q _ h => h.elim) (fun q h => h.elim) (fun r u t Gy1 locs1 ht hvm hw hB hz1 hk1 hS => ?_)
  obtain ⟨y1, ey1⟩ : ∃ z : Nat, z = u := ⟨u, rfl⟩
  rw [← ey1] at hw
  obtain ⟨y1a, y1b, rfl⟩ := hw
  have hP := eb_keep hP hk1
  refine lv_istore_n hx hb d8 rfl hl (by decide) rfl (fun ls hl => ?_)
  refine lv_aload_n hx hb d9 rfl (lv_at hl 1 rfl) ?_
  refine lv_iconst (v := nI 1) hx hb d10 (by decide) ?_
  refine lv_iconst (v := nI 4) hx hb d11 (by decide) ?_
  refine lv_bipush (v := nI 6) hx hb d12 (by decide) ?_
  refine va_calli (va_runS (As := [.ref b0, .int (nI (1)), .int (nI (4)), .int (nI (6))]) (rest := []) ⟨hx, hb, hml, hown, hts⟩ (eb_draw l D L xs b0 (by omega) (1) (4) (6) (by omega) (by omega) (by omega)) (va_cwS 4 hts (eb_gS eb_ok1 (eb_m (ev_gm (p := 13193) (by decide +kernel) rfl)) (eb_m (ev_gm (p := 13194) (by decide +kernel) rfl)) (eb_m (ev_ginit (by decide +kernel) rfl)) (eb_m (ev_gm (p := 13195) (by decide +kernel) rfl))) rfl rfl rfl (by decide +kernel) ⟨Nat.le_of_ble_eq_true rfl, Nat.le_of_ble_eq_true rfl⟩) ⟨fun a U g mk q => ⟨q.1, va_T.moved (u := U) (U := U.calling g mk a) (Vm.Alike.refl U.vm) q.2⟩, fun U hU hW => ⟨rfl, by show va_T _ _ _ _ _ U U.heap; rw [hU]; exact ((hX.2.1.kept hS.2.1).narrow (fun _ z => z.elim)).moved hW.alike⟩⟩ rfl rfl hl.1 rfl (lv_room (Nat.le_of_ble_eq_true rfl)) d14 ⟨by show _ ≤ 400; omega, by show _ ≤ 600000; omega⟩) hS (fun q _ h => h.elim) (fun q h => h.elim) (fun r u t Gy2 locs1 ht hvm hw hB hz1 hk1 hS => ?_)
  obtain ⟨y2, ey2⟩ : ∃ z : Nat, z = u := ⟨u, rfl⟩
  rw [← ey2] at hw
  obtain ⟨y2a, y2b, rfl⟩ := hw
  have hP := eb_keep hP hk1
  refine lv_istore_n hx hb d17 rfl hl (by decide) rfl (fun ls hl => ?_)
  refine lv_bipush (v := nI 64) hx hb d18 (by decide) ?_
  refine va_newa (atype := .boolean) (ty := .boolean) hx hb (hts _ (eb_m (ev_gm (p := 15034) (by decide +kernel) rfl))) rfl hK hP hD hS hA (a0 := (64, .inl (fun _ => 0))) (fun cA => rfl) (nI_pos (by decide)) (nI_clamp (by decide)) (by decide) (by show _ ≤ 400; omega) (by show _ ≤ 600000; omega) d20 (fun bo cZ HB hK hP hD hS => ?_)
  refine lv_astore_n hx hb d22 rfl hl (by decide) rfl (fun ls hl => ?_)
  refine va_new (D := D) (ci := 0) (C := "java/lang/StringBuilder") (T := eb_F) (N := 4) (fs := [.null, .int 0, .int 0, .int 0]) hx hb hts eb_sw eb_ty eb_tyo hown (hts _ (eb_m (ev_gm (p := 14140) (by decide +kernel) rfl))) (hts _ (eb_m (ev_gm (p := 14141) (by decide +kernel) rfl))) (hts _ (eb_m (ev_ginit (by decide +kernel) rfl))) hK hP hD hS hA rfl (by decide) (by show _ ≤ 400; omega) (by show _ ≤ 600000; omega) d23 (fun b HS hP hD hS => ?_)
  refine lv_dup hx hb d26 rfl ?_
  refine va_ldcS hx hb hown (hY.1 5 (by decide)) d27 ?_
  have hP : va_P D eb_cl [(bo, .inl (cZ, 64, .inl (fun _ => 0))), (b, .inr (0, [.null, .int 0, .int 0, .int 0]))] HS := hP
  have hD : va_D A [(bo, .inl (cZ, 64, .inl (fun _ => 0))), (b, .inr (0, [.null, .int 0, .int 0, .int 0]))] := hD
  have hK : va_K D eb_cl [(cZ, .boolean)] s := hK
  have hPc := hP.sub (ws' := [(b, .inr (0, [.null, .int 0, .int 0, .int 0]))]) [1] rfl
  have hDc := hD.sub (ws' := [(b, .inr (0, [.null, .int 0, .int 0, .int 0]))]) [1] (by decide) rfl
  have hKc := hK.sub (tys' := []) [] rfl
  have hFc := va_free (wc := [(b, .inr (0, [.null, .int 0, .int 0, .int 0]))]) hD hS hA [1] rfl
  refine va_callv (va_runI (As := [.ref (av 5)]) (rest := [.ref b]) ⟨hx, hb, hml, hown, hts⟩ (eb_sinit l D HS.size b (eb_ll 5).length (eb_fx (eb_ll 5)) (av 5) (aw 5) (by decide)) (cwI 1 hts (eb_gI eb_ok1 (eb_m (ev_gm (p := 14145) (by decide +kernel) rfl))) rfl rfl rfl (hts _ (eb_m (ev_ginit (by decide +kernel) rfl))) (hts _ (eb_m (ev_gm (p := 14143) (by decide +kernel) rfl))) (hts _ (eb_m (ev_gm (p := 14144) (by decide +kernel) rfl))) rfl (by decide +kernel) ⟨Nat.le_of_ble_eq_true rfl, Nat.le_of_ble_eq_true rfl⟩) ⟨fun a U g mk q => by obtain ⟨q0, q1, qP, qK, qD, qF⟩ := q; exact ⟨q0, q1, qP, va_K.moved (u := U) (U := U.calling g mk a) (Vm.Alike.refl U.vm) qK, qD, eb_T.moved (u := U) (U := U.calling g mk a) (Vm.Alike.refl U.vm) qF.1, qF.2⟩, fun U hU hW => ⟨rfl, by rw [hU], by rw [hU]; exact hPc, va_K.moved hW.alike hKc, hDc.weaken (fun _ _ _ _ => trivial), by show eb_T _ _ _ _ _ U U.heap; rw [hU]; exact (((hX.1 5 (by decide)).kept hS.2.1).narrow hFc).moved hW.alike, eb_fx_ft 5 (by decide)⟩⟩ rfl rfl hl.1 rfl (lv_room (Nat.le_of_ble_eq_true rfl)) d29 ⟨by show _ ≤ 400; omega, by show _ ≤ 600000; omega⟩) hS (fun q _ h => hFc q h) hFc (fun u t H0 locs1 ht hvm hw hB hz1 hk1 hS => ?_)
  obtain ⟨v0, c0, M0, f0⟩ := u
  obtain ⟨hP1, hK1, hD1⟩ := hB
  dsimp only at hP1 hK1 hD1
  rw [ht] at hP1
  have hK1 := va_K.moved hvm.symm hK1
  have hU := eb_U.ap (l := []) (l2 := eb_ll 5) (K := 0) (M := 0) 5 (f := fun _ => 0) ⟨Nat.le_refl _, by decide, Nat.le_refl _, fun i hi => absurd hi (Nat.not_lt_zero i), fun i hi => absurd hi (Nat.not_lt_zero i)⟩ hw rfl (fun _ _ => rfl) (by decide)
  obtain ⟨lx0, el0⟩ : ∃ z, z = eb_ll 5 := ⟨_, rfl⟩
  obtain ⟨hP, hD⟩ := va_join (wr := [(bo, .inl (cZ, 64, .inl (fun _ => 0)))]) (w1 := (eb_W b v0 c0 M0 f0 0 (eb_ll 5).length)) hP hD [1] [0] rfl rfl (by decide) (by decide) hk1 hFc hP1 hD1
  have hK := (hK.sub (tys' := [(cZ, .boolean)]) [0] rfl).app hK1
  have hU : eb_U (eb_ll 5) 5 M0 f0 := hU
  rw [← el0] at hP hD hU
  have hP : va_P D eb_cl (eb_V bo cZ (fun _ => 0) b v0 c0 M0 f0 lx0) H0 := hP
  have hD : va_D A (eb_V bo cZ (fun _ => 0) b v0 c0 M0 f0 lx0) := hD
  have hK : va_K D eb_cl [(cZ, .boolean), (c0, .byte)] s := hK
  refine lv_astore hx hb d32 hl (by decide) rfl (fun ls hl => ?_)
  refine lv_aload hx hb d34 (lv_at hl 0 rfl) ?_
  refine lv_iload_n hx hb d36 rfl (lv_at hl 3 rfl) ?_
  have hPc := hP.sub (ws' := (eb_W b v0 c0 M0 f0 0 lx0.length)) [1, 2] rfl
  have hDc := hD.sub (ws' := (eb_W b v0 c0 M0 f0 0 lx0.length)) [1, 2] (by decide) rfl
  have hKc := hK.sub (tys' := [(c0, .byte)]) [1] rfl
  have hFc := va_free (wc := (eb_W b v0 c0 M0 f0 0 lx0.length)) hD hS hA [1, 2] rfl
  refine va_callr (va_runV (As := [.int (nI (y1))]) (rest := []) ⟨hx, hb, hml, hown, hts⟩ (eb_sappI l D H0.size b v0 c0 M0 f0 0 lx0.length (y1) (by omega) hU.2.1 hU.2.2.1 (by have := hU.1; have := eb_sz3 (y1); omega)) (cwV 1 hts (eb_gV eb_ok1 (eb_m (ev_gm (p := 15035) (by decide +kernel) rfl)) (eb_m (ev_gm (p := 15036) (by decide +kernel) rfl)) (eb_m (ev_gm (p := 15037) (by decide +kernel) rfl)) (eb_m (ev_ginit (by decide +kernel) rfl)) (eb_m (ev_gm (p := 15038) (by decide +kernel) rfl))) rfl rfl rfl (by decide +kernel) ⟨Nat.le_of_ble_eq_true rfl, Nat.le_of_ble_eq_true rfl⟩) ⟨fun a U g mk q => by obtain ⟨q0, q1, qP, qK, qD, qF⟩ := q; exact ⟨q0, q1, qP, va_K.moved (u := U) (U := U.calling g mk a) (Vm.Alike.refl U.vm) qK, qD, eb_I.moved (u := U) (U := U.calling g mk a) (Vm.Alike.refl U.vm) qF.1, va_Z.moved (u := U) (U := U.calling g mk a) (Vm.Alike.refl U.vm) qF.2.1, qF.2.2⟩, va_recv hK hP (ci := 0) (q0 := 1) rfl rfl, fun U hU9 hW => ⟨rfl, by rw [hU9], by rw [hU9]; exact hPc, va_K.moved hW.alike hKc, hDc.weaken (fun _ _ _ _ => trivial), by show eb_I _ U U.heap; rw [hU9]; exact ((hX.2.2.1.kept hS.2.1).narrow hFc).moved hW.alike, by show va_Z _ _ _ _ _ U U.heap; rw [hU9]; exact ((hX.2.2.2.kept hS.2.1).narrow hFc).moved hW.alike, hU.2.2.2.1⟩⟩ rfl rfl hl.1 rfl (lv_room (Nat.le_of_ble_eq_true rfl)) d37 ⟨by show _ ≤ 400; omega, by show _ ≤ 600000; omega⟩) hS (fun q _ h => hFc q h) hFc (fun u ra t H1 locs1 ht hvm hw hB hz1 hk1 hS => ?_)
  obtain ⟨v1, c1, M1, f1⟩ := u
  obtain ⟨hq, hP1, hK1, hD1⟩ := hB
  dsimp only at hP1 hK1 hD1
  rw [ht] at hP1
  have hK1 := va_K.moved hvm.symm hK1
  have hU := hU.ap (l2 := (dg (y1))) 3 hw (eb_dl (by omega)) (fun _ _ => rfl) (eb_sz3 _)
  have e9 : lx0.length + (eb_sz (y1)) = (lx0 ++ (dg (y1))).length := by rw [List.length_append, eb_dl (by omega)]
  rw [e9] at hP1 hD1
  obtain ⟨hP, hD⟩ := va_join (wr := [(bo, .inl (cZ, 64, .inl (fun _ => 0)))]) (w1 := (eb_W b v1 c1 M1 f1 0 (lx0 ++ (dg (y1))).length)) hP hD [1, 2] [0] rfl rfl (by decide) (by decide) hk1 hFc hP1 hD1
  have hK := (hK.sub (tys' := [(cZ, .boolean)]) [0] rfl).app hK1
  obtain ⟨lx1, el1⟩ : ∃ z, z = lx0 ++ (dg (y1)) := ⟨_, rfl⟩
  rw [← el1] at hP hD hU
  have hP : va_P D eb_cl (eb_V bo cZ (fun _ => 0) b v1 c1 M1 f1 lx1) H1 := hP
  have hD : va_D A (eb_V bo cZ (fun _ => 0) b v1 c1 M1 f1 lx1) := hD
  have hK : va_K D eb_cl [(cZ, .boolean), (c1, .byte)] s := hK
  have hU : eb_U lx1 (8) M1 f1 := hU
  rw [hq]
  refine lv_bipush (v := nI 32) hx hb d40 (by decide) ?_
  have hPc := hP.sub (ws' := (eb_W b v1 c1 M1 f1 0 lx1.length)) [1, 2] rfl
  have hDc := hD.sub (ws' := (eb_W b v1 c1 M1 f1 0 lx1.length)) [1, 2] (by decide) rfl
  have hKc := hK.sub (tys' := [(c1, .byte)]) [1] rfl
  have hFc := va_free (wc := (eb_W b v1 c1 M1 f1 0 lx1.length)) hD hS hA [1, 2] rfl
  refine va_callr (va_runV (As := [.int (nI (32))]) (rest := []) ⟨hx, hb, hml, hown, hts⟩ (eb_sappC l D H1.size b v1 c1 M1 f1 0 lx1.length 32 (by decide) hU.2.1 hU.2.2.1 (by have := hU.1; omega)) (cwV 1 hts (eb_gV eb_ok1 (eb_m (ev_gm (p := 15060) (by decide +kernel) rfl)) (eb_m (ev_gm (p := 15061) (by decide +kernel) rfl)) (eb_m (ev_gm (p := 15062) (by decide +kernel) rfl)) (eb_m (ev_ginit (by decide +kernel) rfl)) (eb_m (ev_gm (p := 15063) (by decide +kernel) rfl))) rfl rfl rfl (by decide +kernel) ⟨Nat.le_of_ble_eq_true rfl, Nat.le_of_ble_eq_true rfl⟩) ⟨fun a U g mk q => by obtain ⟨q0, q1, qP, qK, qD, qF⟩ := q; exact ⟨q0, q1, qP, va_K.moved (u := U) (U := U.calling g mk a) (Vm.Alike.refl U.vm) qK, qD, va_Z.moved (u := U) (U := U.calling g mk a) (Vm.Alike.refl U.vm) qF.1, qF.2⟩, va_recv hK hP (ci := 0) (q0 := 1) rfl rfl, fun U hU9 hW => ⟨rfl, by rw [hU9], by rw [hU9]; exact hPc, va_K.moved hW.alike hKc, hDc.weaken (fun _ _ _ _ => trivial), by show va_Z _ _ _ _ _ U U.heap; rw [hU9]; exact ((hX.2.2.2.kept hS.2.1).narrow hFc).moved hW.alike, hU.2.2.2.1⟩⟩ rfl rfl hl.1 rfl (lv_room (Nat.le_of_ble_eq_true rfl)) d42 ⟨by show _ ≤ 400; omega, by show _ ≤ 600000; omega⟩) hS (fun q _ h => hFc q h) hFc (fun u ra t H2 locs1 ht hvm hw hB hz1 hk1 hS => ?_)
  obtain ⟨v2, c2, M2, f2⟩ := u
  obtain ⟨hq, hP1, hK1, hD1⟩ := hB
  dsimp only at hP1 hK1 hD1
  rw [ht] at hP1
  have hK1 := va_K.moved hvm.symm hK1
  have hU := hU.ap (l2 := [32]) 1 hw rfl (eb_f1 _) (by decide)
  have e9 : lx1.length + 1 = (lx1 ++ [32]).length := by rw [List.length_append]; rfl
  rw [e9] at hP1 hD1
  obtain ⟨hP, hD⟩ := va_join (wr := [(bo, .inl (cZ, 64, .inl (fun _ => 0)))]) (w1 := (eb_W b v2 c2 M2 f2 0 (lx1 ++ [32]).length)) hP hD [1, 2] [0] rfl rfl (by decide) (by decide) hk1 hFc hP1 hD1
  have hK := (hK.sub (tys' := [(cZ, .boolean)]) [0] rfl).app hK1
  obtain ⟨lx2, el2⟩ : ∃ z, z = lx1 ++ [32] := ⟨_, rfl⟩
  rw [← el2] at hP hD hU
  have hP : va_P D eb_cl (eb_V bo cZ (fun _ => 0) b v2 c2 M2 f2 lx2) H2 := hP
  have hD : va_D A (eb_V bo cZ (fun _ => 0) b v2 c2 M2 f2 lx2) := hD
  have hK : va_K D eb_cl [(cZ, .boolean), (c2, .byte)] s := hK
  have hU : eb_U lx2 (9) M2 f2 := hU
  rw [hq]
  refine lv_iload_n hx hb d45 rfl (lv_at hl 2 rfl) ?_
  have hPc := hP.sub (ws' := (eb_W b v2 c2 M2 f2 0 lx2.length)) [1, 2] rfl
  have hDc := hD.sub (ws' := (eb_W b v2 c2 M2 f2 0 lx2.length)) [1, 2] (by decide) rfl
  have hKc := hK.sub (tys' := [(c2, .byte)]) [1] rfl
  have hFc := va_free (wc := (eb_W b v2 c2 M2 f2 0 lx2.length)) hD hS hA [1, 2] rfl
  refine va_callr (va_runV (As := [.int (nI (y2))]) (rest := []) ⟨hx, hb, hml, hown, hts⟩ (eb_sappI l D H2.size b v2 c2 M2 f2 0 lx2.length (y2) (by omega) hU.2.1 hU.2.2.1 (by have := hU.1; have := eb_sz3 (y2); omega)) (cwV 1 hts (eb_gV eb_ok1 (eb_m (ev_gm (p := 15035) (by decide +kernel) rfl)) (eb_m (ev_gm (p := 15036) (by decide +kernel) rfl)) (eb_m (ev_gm (p := 15037) (by decide +kernel) rfl)) (eb_m (ev_ginit (by decide +kernel) rfl)) (eb_m (ev_gm (p := 15038) (by decide +kernel) rfl))) rfl rfl rfl (by decide +kernel) ⟨Nat.le_of_ble_eq_true rfl, Nat.le_of_ble_eq_true rfl⟩) ⟨fun a U g mk q => by obtain ⟨q0, q1, qP, qK, qD, qF⟩ := q; exact ⟨q0, q1, qP, va_K.moved (u := U) (U := U.calling g mk a) (Vm.Alike.refl U.vm) qK, qD, eb_I.moved (u := U) (U := U.calling g mk a) (Vm.Alike.refl U.vm) qF.1, va_Z.moved (u := U) (U := U.calling g mk a) (Vm.Alike.refl U.vm) qF.2.1, qF.2.2⟩, va_recv hK hP (ci := 0) (q0 := 1) rfl rfl, fun U hU9 hW => ⟨rfl, by rw [hU9], by rw [hU9]; exact hPc, va_K.moved hW.alike hKc, hDc.weaken (fun _ _ _ _ => trivial), by show eb_I _ U U.heap; rw [hU9]; exact ((hX.2.2.1.kept hS.2.1).narrow hFc).moved hW.alike, by show va_Z _ _ _ _ _ U U.heap; rw [hU9]; exact ((hX.2.2.2.kept hS.2.1).narrow hFc).moved hW.alike, hU.2.2.2.1⟩⟩ rfl rfl hl.1 rfl (lv_room (Nat.le_of_ble_eq_true rfl)) d46 ⟨by show _ ≤ 400; omega, by show _ ≤ 600000; omega⟩) hS (fun q _ h => hFc q h) hFc (fun u ra t H3 locs1 ht hvm hw hB hz1 hk1 hS => ?_)
  obtain ⟨v3, c3, M3, f3⟩ := u
  obtain ⟨hq, hP1, hK1, hD1⟩ := hB
  dsimp only at hP1 hK1 hD1
  rw [ht] at hP1
  have hK1 := va_K.moved hvm.symm hK1
  have hU := hU.ap (l2 := (dg (y2))) 3 hw (eb_dl (by omega)) (fun _ _ => rfl) (eb_sz3 _)
  have e9 : lx2.length + (eb_sz (y2)) = (lx2 ++ (dg (y2))).length := by rw [List.length_append, eb_dl (by omega)]
  rw [e9] at hP1 hD1
  obtain ⟨hP, hD⟩ := va_join (wr := [(bo, .inl (cZ, 64, .inl (fun _ => 0)))]) (w1 := (eb_W b v3 c3 M3 f3 0 (lx2 ++ (dg (y2))).length)) hP hD [1, 2] [0] rfl rfl (by decide) (by decide) hk1 hFc hP1 hD1
  have hK := (hK.sub (tys' := [(cZ, .boolean)]) [0] rfl).app hK1
  obtain ⟨lx3, el3⟩ : ∃ z, z = lx2 ++ (dg (y2)) := ⟨_, rfl⟩
  rw [← el3] at hP hD hU
  have hP : va_P D eb_cl (eb_V bo cZ (fun _ => 0) b v3 c3 M3 f3 lx3) H3 := hP
  have hD : va_D A (eb_V bo cZ (fun _ => 0) b v3 c3 M3 f3 lx3) := hD
  have hK : va_K D eb_cl [(cZ, .boolean), (c3, .byte)] s := hK
  have hU : eb_U lx3 (12) M3 f3 := hU
  rw [hq]
  refine va_ldcS hx hb hown (hY.1 6 (by decide)) d49 ?_
  have hPc := hP.sub (ws' := (eb_W b v3 c3 M3 f3 0 lx3.length)) [1, 2] rfl
  have hDc := hD.sub (ws' := (eb_W b v3 c3 M3 f3 0 lx3.length)) [1, 2] (by decide) rfl
  have hKc := hK.sub (tys' := [(c3, .byte)]) [1] rfl
  have hFc := va_free (wc := (eb_W b v3 c3 M3 f3 0 lx3.length)) hD hS hA [1, 2] rfl
  refine va_callr (va_runV (As := [.ref (av 6)]) (rest := []) ⟨hx, hb, hml, hown, hts⟩ (eb_sappS l D H3.size b v3 c3 M3 f3 0 lx3.length (eb_ll 6).length (eb_fx (eb_ll 6)) (av 6) (aw 6) hU.2.1 hU.2.2.1 (by have := hU.1; show _ + 7 ≤ 300; omega)) (cwV 1 hts (eb_gV eb_ok1 (eb_m (ev_gm (p := 15074) (by decide +kernel) rfl)) (eb_m (ev_gm (p := 14168) (by decide +kernel) rfl)) (eb_m (ev_gm (p := 14169) (by decide +kernel) rfl)) (eb_m (ev_ginit (by decide +kernel) rfl)) (eb_m (ev_gm (p := 14170) (by decide +kernel) rfl))) rfl rfl rfl (by decide +kernel) ⟨Nat.le_of_ble_eq_true rfl, Nat.le_of_ble_eq_true rfl⟩) ⟨fun a U g mk q => by obtain ⟨q0, q1, qP, qK, qD, qF⟩ := q; exact ⟨q0, q1, qP, va_K.moved (u := U) (U := U.calling g mk a) (Vm.Alike.refl U.vm) qK, qD, eb_T.moved (u := U) (U := U.calling g mk a) (Vm.Alike.refl U.vm) qF.1, qF.2⟩, va_recv hK hP (ci := 0) (q0 := 1) rfl rfl, fun U hU9 hW => ⟨rfl, by rw [hU9], by rw [hU9]; exact hPc, va_K.moved hW.alike hKc, hDc.weaken (fun _ _ _ _ => trivial), by show eb_T _ _ _ _ _ U U.heap; rw [hU9]; exact (((hX.1 6 (by omega)).kept hS.2.1).narrow hFc).moved hW.alike, eb_fx_ft 6 (by omega), hU.2.2.2.1⟩⟩ rfl rfl hl.1 rfl (lv_room (Nat.le_of_ble_eq_true rfl)) d51 ⟨by show _ ≤ 400; omega, by show _ ≤ 600000; omega⟩) hS (fun q _ h => hFc q h) hFc (fun u ra t H4 locs1 ht hvm hw hB hz1 hk1 hS => ?_)
  obtain ⟨v4, c4, M4, f4⟩ := u
  obtain ⟨hq, hP1, hK1, hD1⟩ := hB
  dsimp only at hP1 hK1 hD1
  rw [ht] at hP1
  have hK1 := va_K.moved hvm.symm hK1
  have hU := hU.ap (l2 := (eb_ll 6)) 7 hw rfl (fun _ _ => rfl) (by decide)
  have e9 : lx3.length + (eb_ll 6).length = (lx3 ++ (eb_ll 6)).length := by rw [List.length_append]
  rw [e9] at hP1 hD1
  obtain ⟨hP, hD⟩ := va_join (wr := [(bo, .inl (cZ, 64, .inl (fun _ => 0)))]) (w1 := (eb_W b v4 c4 M4 f4 0 (lx3 ++ (eb_ll 6)).length)) hP hD [1, 2] [0] rfl rfl (by decide) (by decide) hk1 hFc hP1 hD1
  have hK := (hK.sub (tys' := [(cZ, .boolean)]) [0] rfl).app hK1
  obtain ⟨lx4, el4⟩ : ∃ z, z = lx3 ++ (eb_ll 6) := ⟨_, rfl⟩
  rw [← el4] at hP hD hU
  have hP : va_P D eb_cl (eb_V bo cZ (fun _ => 0) b v4 c4 M4 f4 lx4) H4 := hP
  have hD : va_D A (eb_V bo cZ (fun _ => 0) b v4 c4 M4 f4 lx4) := hD
  have hK : va_K D eb_cl [(cZ, .boolean), (c4, .byte)] s := hK
  have hU : eb_U lx4 (19) M4 f4 := hU
  rw [hq]
  refine lv_aload_n hx hb d54 rfl (lv_at hl 4 rfl) ?_
  refine lv_iconst (v := nI 2) hx hb d55 (by decide) ?_
  refine lv_bipush (v := nI 60) hx hb d56 (by decide) ?_
  refine lv_sipush (v := nI 900) hx hb d58 (by decide) ?_
  refine va_calli (va_runS (As := [.ref b0, .int (nI (2)), .int (nI (60)), .int (nI (900))]) (rest := [.ref b]) ⟨hx, hb, hml, hown, hts⟩ (eb_draw l D L xs b0 (by omega) (2) (60) (900) (by omega) (by omega) (by omega)) (va_cwS 4 hts (eb_gS eb_ok1 (eb_m (ev_gm (p := 13193) (by decide +kernel) rfl)) (eb_m (ev_gm (p := 13194) (by decide +kernel) rfl)) (eb_m (ev_ginit (by decide +kernel) rfl)) (eb_m (ev_gm (p := 13195) (by decide +kernel) rfl))) rfl rfl rfl (by decide +kernel) ⟨Nat.le_of_ble_eq_true rfl, Nat.le_of_ble_eq_true rfl⟩) ⟨fun a U g mk q => ⟨q.1, va_T.moved (u := U) (U := U.calling g mk a) (Vm.Alike.refl U.vm) q.2⟩, fun U hU hW => ⟨rfl, by show va_T _ _ _ _ _ U U.heap; rw [hU]; exact ((hX.2.1.kept hS.2.1).narrow (fun _ z => z.elim)).moved hW.alike⟩⟩ rfl rfl hl.1 rfl (lv_room (Nat.le_of_ble_eq_true rfl)) d61 ⟨by show _ ≤ 400; omega, by show _ ≤ 600000; omega⟩) hS (fun q _ h => h.elim) (fun q h => h.elim) (fun r u t Gy3 locs1 ht hvm hw hB hz1 hk1 hS => ?_)
  obtain ⟨y3, ey3⟩ : ∃ z : Nat, z = u := ⟨u, rfl⟩
  rw [← ey3] at hw
  obtain ⟨y3a, y3b, rfl⟩ := hw
  have hP := eb_keep hP hk1
  have hPc := hP.sub (ws' := (eb_W b v4 c4 M4 f4 0 lx4.length)) [1, 2] rfl
  have hDc := hD.sub (ws' := (eb_W b v4 c4 M4 f4 0 lx4.length)) [1, 2] (by decide) rfl
  have hKc := hK.sub (tys' := [(c4, .byte)]) [1] rfl
  have hFc := va_free (wc := (eb_W b v4 c4 M4 f4 0 lx4.length)) hD hS hA [1, 2] rfl
  refine va_callr (va_runV (As := [.int (nI (y3))]) (rest := []) ⟨hx, hb, hml, hown, hts⟩ (eb_sappI l D Gy3.size b v4 c4 M4 f4 0 lx4.length (y3) (by omega) hU.2.1 hU.2.2.1 (by have := hU.1; have := eb_sz3 (y3); omega)) (cwV 1 hts (eb_gV eb_ok1 (eb_m (ev_gm (p := 15035) (by decide +kernel) rfl)) (eb_m (ev_gm (p := 15036) (by decide +kernel) rfl)) (eb_m (ev_gm (p := 15037) (by decide +kernel) rfl)) (eb_m (ev_ginit (by decide +kernel) rfl)) (eb_m (ev_gm (p := 15038) (by decide +kernel) rfl))) rfl rfl rfl (by decide +kernel) ⟨Nat.le_of_ble_eq_true rfl, Nat.le_of_ble_eq_true rfl⟩) ⟨fun a U g mk q => by obtain ⟨q0, q1, qP, qK, qD, qF⟩ := q; exact ⟨q0, q1, qP, va_K.moved (u := U) (U := U.calling g mk a) (Vm.Alike.refl U.vm) qK, qD, eb_I.moved (u := U) (U := U.calling g mk a) (Vm.Alike.refl U.vm) qF.1, va_Z.moved (u := U) (U := U.calling g mk a) (Vm.Alike.refl U.vm) qF.2.1, qF.2.2⟩, va_recv hK hP (ci := 0) (q0 := 1) rfl rfl, fun U hU9 hW => ⟨rfl, by rw [hU9], by rw [hU9]; exact hPc, va_K.moved hW.alike hKc, hDc.weaken (fun _ _ _ _ => trivial), by show eb_I _ U U.heap; rw [hU9]; exact ((hX.2.2.1.kept hS.2.1).narrow hFc).moved hW.alike, by show va_Z _ _ _ _ _ U U.heap; rw [hU9]; exact ((hX.2.2.2.kept hS.2.1).narrow hFc).moved hW.alike, hU.2.2.2.1⟩⟩ rfl rfl hl.1 rfl (lv_room (Nat.le_of_ble_eq_true rfl)) d64 ⟨by show _ ≤ 400; omega, by show _ ≤ 600000; omega⟩) hS (fun q _ h => hFc q h) hFc (fun u ra t H5 locs1 ht hvm hw hB hz1 hk1 hS => ?_)
  obtain ⟨v5, c5, M5, f5⟩ := u
  obtain ⟨hq, hP1, hK1, hD1⟩ := hB
  dsimp only at hP1 hK1 hD1
  rw [ht] at hP1
  have hK1 := va_K.moved hvm.symm hK1
  have hU := hU.ap (l2 := (dg (y3))) 3 hw (eb_dl (by omega)) (fun _ _ => rfl) (eb_sz3 _)
  have e9 : lx4.length + (eb_sz (y3)) = (lx4 ++ (dg (y3))).length := by rw [List.length_append, eb_dl (by omega)]
  rw [e9] at hP1 hD1
  obtain ⟨hP, hD⟩ := va_join (wr := [(bo, .inl (cZ, 64, .inl (fun _ => 0)))]) (w1 := (eb_W b v5 c5 M5 f5 0 (lx4 ++ (dg (y3))).length)) hP hD [1, 2] [0] rfl rfl (by decide) (by decide) hk1 hFc hP1 hD1
  have hK := (hK.sub (tys' := [(cZ, .boolean)]) [0] rfl).app hK1
  obtain ⟨lx5, el5⟩ : ∃ z, z = lx4 ++ (dg (y3)) := ⟨_, rfl⟩
  rw [← el5] at hP hD hU
  have hP : va_P D eb_cl (eb_V bo cZ (fun _ => 0) b v5 c5 M5 f5 lx5) H5 := hP
  have hD : va_D A (eb_V bo cZ (fun _ => 0) b v5 c5 M5 f5 lx5) := hD
  have hK : va_K D eb_cl [(cZ, .boolean), (c5, .byte)] s := hK
  have hU : eb_U lx5 (22) M5 f5 := hU
  rw [hq]
  refine lv_bipush (v := nI 32) hx hb d67 (by decide) ?_
  have hPc := hP.sub (ws' := (eb_W b v5 c5 M5 f5 0 lx5.length)) [1, 2] rfl
  have hDc := hD.sub (ws' := (eb_W b v5 c5 M5 f5 0 lx5.length)) [1, 2] (by decide) rfl
  have hKc := hK.sub (tys' := [(c5, .byte)]) [1] rfl
  have hFc := va_free (wc := (eb_W b v5 c5 M5 f5 0 lx5.length)) hD hS hA [1, 2] rfl
  refine va_callr (va_runV (As := [.int (nI (32))]) (rest := []) ⟨hx, hb, hml, hown, hts⟩ (eb_sappC l D H5.size b v5 c5 M5 f5 0 lx5.length 32 (by decide) hU.2.1 hU.2.2.1 (by have := hU.1; omega)) (cwV 1 hts (eb_gV eb_ok1 (eb_m (ev_gm (p := 15060) (by decide +kernel) rfl)) (eb_m (ev_gm (p := 15061) (by decide +kernel) rfl)) (eb_m (ev_gm (p := 15062) (by decide +kernel) rfl)) (eb_m (ev_ginit (by decide +kernel) rfl)) (eb_m (ev_gm (p := 15063) (by decide +kernel) rfl))) rfl rfl rfl (by decide +kernel) ⟨Nat.le_of_ble_eq_true rfl, Nat.le_of_ble_eq_true rfl⟩) ⟨fun a U g mk q => by obtain ⟨q0, q1, qP, qK, qD, qF⟩ := q; exact ⟨q0, q1, qP, va_K.moved (u := U) (U := U.calling g mk a) (Vm.Alike.refl U.vm) qK, qD, va_Z.moved (u := U) (U := U.calling g mk a) (Vm.Alike.refl U.vm) qF.1, qF.2⟩, va_recv hK hP (ci := 0) (q0 := 1) rfl rfl, fun U hU9 hW => ⟨rfl, by rw [hU9], by rw [hU9]; exact hPc, va_K.moved hW.alike hKc, hDc.weaken (fun _ _ _ _ => trivial), by show va_Z _ _ _ _ _ U U.heap; rw [hU9]; exact ((hX.2.2.2.kept hS.2.1).narrow hFc).moved hW.alike, hU.2.2.2.1⟩⟩ rfl rfl hl.1 rfl (lv_room (Nat.le_of_ble_eq_true rfl)) d69 ⟨by show _ ≤ 400; omega, by show _ ≤ 600000; omega⟩) hS (fun q _ h => hFc q h) hFc (fun u ra t H6 locs1 ht hvm hw hB hz1 hk1 hS => ?_)
  obtain ⟨v6, c6, M6, f6⟩ := u
  obtain ⟨hq, hP1, hK1, hD1⟩ := hB
  dsimp only at hP1 hK1 hD1
  rw [ht] at hP1
  have hK1 := va_K.moved hvm.symm hK1
  have hU := hU.ap (l2 := [32]) 1 hw rfl (eb_f1 _) (by decide)
  have e9 : lx5.length + 1 = (lx5 ++ [32]).length := by rw [List.length_append]; rfl
  rw [e9] at hP1 hD1
  obtain ⟨hP, hD⟩ := va_join (wr := [(bo, .inl (cZ, 64, .inl (fun _ => 0)))]) (w1 := (eb_W b v6 c6 M6 f6 0 (lx5 ++ [32]).length)) hP hD [1, 2] [0] rfl rfl (by decide) (by decide) hk1 hFc hP1 hD1
  have hK := (hK.sub (tys' := [(cZ, .boolean)]) [0] rfl).app hK1
  obtain ⟨lx6, el6⟩ : ∃ z, z = lx5 ++ [32] := ⟨_, rfl⟩
  rw [← el6] at hP hD hU
  have hP : va_P D eb_cl (eb_V bo cZ (fun _ => 0) b v6 c6 M6 f6 lx6) H6 := hP
  have hD : va_D A (eb_V bo cZ (fun _ => 0) b v6 c6 M6 f6 lx6) := hD
  have hK : va_K D eb_cl [(cZ, .boolean), (c6, .byte)] s := hK
  have hU : eb_U lx6 (23) M6 f6 := hU
  rw [hq]
  refine lv_aload_n hx hb d72 rfl (lv_at hl 4 rfl) ?_
  refine lv_iconst (v := nI 3) hx hb d73 (by decide) ?_
  refine lv_bipush (v := nI 60) hx hb d74 (by decide) ?_
  refine lv_sipush (v := nI 900) hx hb d76 (by decide) ?_
  refine va_calli (va_runS (As := [.ref b0, .int (nI (3)), .int (nI (60)), .int (nI (900))]) (rest := [.ref b]) ⟨hx, hb, hml, hown, hts⟩ (eb_draw l D L xs b0 (by omega) (3) (60) (900) (by omega) (by omega) (by omega)) (va_cwS 4 hts (eb_gS eb_ok1 (eb_m (ev_gm (p := 13193) (by decide +kernel) rfl)) (eb_m (ev_gm (p := 13194) (by decide +kernel) rfl)) (eb_m (ev_ginit (by decide +kernel) rfl)) (eb_m (ev_gm (p := 13195) (by decide +kernel) rfl))) rfl rfl rfl (by decide +kernel) ⟨Nat.le_of_ble_eq_true rfl, Nat.le_of_ble_eq_true rfl⟩) ⟨fun a U g mk q => ⟨q.1, va_T.moved (u := U) (U := U.calling g mk a) (Vm.Alike.refl U.vm) q.2⟩, fun U hU hW => ⟨rfl, by show va_T _ _ _ _ _ U U.heap; rw [hU]; exact ((hX.2.1.kept hS.2.1).narrow (fun _ z => z.elim)).moved hW.alike⟩⟩ rfl rfl hl.1 rfl (lv_room (Nat.le_of_ble_eq_true rfl)) d79 ⟨by show _ ≤ 400; omega, by show _ ≤ 600000; omega⟩) hS (fun q _ h => h.elim) (fun q h => h.elim) (fun r u t Gy4 locs1 ht hvm hw hB hz1 hk1 hS => ?_)
  obtain ⟨y4, ey4⟩ : ∃ z : Nat, z = u := ⟨u, rfl⟩
  rw [← ey4] at hw
  obtain ⟨y4a, y4b, rfl⟩ := hw
  have hP := eb_keep hP hk1
  have hPc := hP.sub (ws' := (eb_W b v6 c6 M6 f6 0 lx6.length)) [1, 2] rfl
  have hDc := hD.sub (ws' := (eb_W b v6 c6 M6 f6 0 lx6.length)) [1, 2] (by decide) rfl
  have hKc := hK.sub (tys' := [(c6, .byte)]) [1] rfl
  have hFc := va_free (wc := (eb_W b v6 c6 M6 f6 0 lx6.length)) hD hS hA [1, 2] rfl
  refine va_callr (va_runV (As := [.int (nI (y4))]) (rest := []) ⟨hx, hb, hml, hown, hts⟩ (eb_sappI l D Gy4.size b v6 c6 M6 f6 0 lx6.length (y4) (by omega) hU.2.1 hU.2.2.1 (by have := hU.1; have := eb_sz3 (y4); omega)) (cwV 1 hts (eb_gV eb_ok1 (eb_m (ev_gm (p := 15035) (by decide +kernel) rfl)) (eb_m (ev_gm (p := 15036) (by decide +kernel) rfl)) (eb_m (ev_gm (p := 15037) (by decide +kernel) rfl)) (eb_m (ev_ginit (by decide +kernel) rfl)) (eb_m (ev_gm (p := 15038) (by decide +kernel) rfl))) rfl rfl rfl (by decide +kernel) ⟨Nat.le_of_ble_eq_true rfl, Nat.le_of_ble_eq_true rfl⟩) ⟨fun a U g mk q => by obtain ⟨q0, q1, qP, qK, qD, qF⟩ := q; exact ⟨q0, q1, qP, va_K.moved (u := U) (U := U.calling g mk a) (Vm.Alike.refl U.vm) qK, qD, eb_I.moved (u := U) (U := U.calling g mk a) (Vm.Alike.refl U.vm) qF.1, va_Z.moved (u := U) (U := U.calling g mk a) (Vm.Alike.refl U.vm) qF.2.1, qF.2.2⟩, va_recv hK hP (ci := 0) (q0 := 1) rfl rfl, fun U hU9 hW => ⟨rfl, by rw [hU9], by rw [hU9]; exact hPc, va_K.moved hW.alike hKc, hDc.weaken (fun _ _ _ _ => trivial), by show eb_I _ U U.heap; rw [hU9]; exact ((hX.2.2.1.kept hS.2.1).narrow hFc).moved hW.alike, by show va_Z _ _ _ _ _ U U.heap; rw [hU9]; exact ((hX.2.2.2.kept hS.2.1).narrow hFc).moved hW.alike, hU.2.2.2.1⟩⟩ rfl rfl hl.1 rfl (lv_room (Nat.le_of_ble_eq_true rfl)) d82 ⟨by show _ ≤ 400; omega, by show _ ≤ 600000; omega⟩) hS (fun q _ h => hFc q h) hFc (fun u ra t H7 locs1 ht hvm hw hB hz1 hk1 hS => ?_)
  obtain ⟨v7, c7, M7, f7⟩ := u
  obtain ⟨hq, hP1, hK1, hD1⟩ := hB
  dsimp only at hP1 hK1 hD1
  rw [ht] at hP1
  have hK1 := va_K.moved hvm.symm hK1
  have hU := hU.ap (l2 := (dg (y4))) 3 hw (eb_dl (by omega)) (fun _ _ => rfl) (eb_sz3 _)
  have e9 : lx6.length + (eb_sz (y4)) = (lx6 ++ (dg (y4))).length := by rw [List.length_append, eb_dl (by omega)]
  rw [e9] at hP1 hD1
  obtain ⟨hP, hD⟩ := va_join (wr := [(bo, .inl (cZ, 64, .inl (fun _ => 0)))]) (w1 := (eb_W b v7 c7 M7 f7 0 (lx6 ++ (dg (y4))).length)) hP hD [1, 2] [0] rfl rfl (by decide) (by decide) hk1 hFc hP1 hD1
  have hK := (hK.sub (tys' := [(cZ, .boolean)]) [0] rfl).app hK1
  obtain ⟨lx7, el7⟩ : ∃ z, z = lx6 ++ (dg (y4)) := ⟨_, rfl⟩
  rw [← el7] at hP hD hU
  have hP : va_P D eb_cl (eb_V bo cZ (fun _ => 0) b v7 c7 M7 f7 lx7) H7 := hP
  have hD : va_D A (eb_V bo cZ (fun _ => 0) b v7 c7 M7 f7 lx7) := hD
  have hK : va_K D eb_cl [(cZ, .boolean), (c7, .byte)] s := hK
  have hU : eb_U lx7 (26) M7 f7 := hU
  rw [hq]
  refine va_ldcS hx hb hown (hY.1 7 (by decide)) d85 ?_
  have hPc := hP.sub (ws' := (eb_W b v7 c7 M7 f7 0 lx7.length)) [1, 2] rfl
  have hDc := hD.sub (ws' := (eb_W b v7 c7 M7 f7 0 lx7.length)) [1, 2] (by decide) rfl
  have hKc := hK.sub (tys' := [(c7, .byte)]) [1] rfl
  have hFc := va_free (wc := (eb_W b v7 c7 M7 f7 0 lx7.length)) hD hS hA [1, 2] rfl
  refine va_callr (va_runV (As := [.ref (av 7)]) (rest := []) ⟨hx, hb, hml, hown, hts⟩ (eb_sappS l D H7.size b v7 c7 M7 f7 0 lx7.length (eb_ll 7).length (eb_fx (eb_ll 7)) (av 7) (aw 7) hU.2.1 hU.2.2.1 (by have := hU.1; show _ + 7 ≤ 300; omega)) (cwV 1 hts (eb_gV eb_ok1 (eb_m (ev_gm (p := 15074) (by decide +kernel) rfl)) (eb_m (ev_gm (p := 14168) (by decide +kernel) rfl)) (eb_m (ev_gm (p := 14169) (by decide +kernel) rfl)) (eb_m (ev_ginit (by decide +kernel) rfl)) (eb_m (ev_gm (p := 14170) (by decide +kernel) rfl))) rfl rfl rfl (by decide +kernel) ⟨Nat.le_of_ble_eq_true rfl, Nat.le_of_ble_eq_true rfl⟩) ⟨fun a U g mk q => by obtain ⟨q0, q1, qP, qK, qD, qF⟩ := q; exact ⟨q0, q1, qP, va_K.moved (u := U) (U := U.calling g mk a) (Vm.Alike.refl U.vm) qK, qD, eb_T.moved (u := U) (U := U.calling g mk a) (Vm.Alike.refl U.vm) qF.1, qF.2⟩, va_recv hK hP (ci := 0) (q0 := 1) rfl rfl, fun U hU9 hW => ⟨rfl, by rw [hU9], by rw [hU9]; exact hPc, va_K.moved hW.alike hKc, hDc.weaken (fun _ _ _ _ => trivial), by show eb_T _ _ _ _ _ U U.heap; rw [hU9]; exact (((hX.1 7 (by omega)).kept hS.2.1).narrow hFc).moved hW.alike, eb_fx_ft 7 (by omega), hU.2.2.2.1⟩⟩ rfl rfl hl.1 rfl (lv_room (Nat.le_of_ble_eq_true rfl)) d87 ⟨by show _ ≤ 400; omega, by show _ ≤ 600000; omega⟩) hS (fun q _ h => hFc q h) hFc (fun u ra t H8 locs1 ht hvm hw hB hz1 hk1 hS => ?_)
  obtain ⟨v8, c8, M8, f8⟩ := u
  obtain ⟨hq, hP1, hK1, hD1⟩ := hB
  dsimp only at hP1 hK1 hD1
  rw [ht] at hP1
  have hK1 := va_K.moved hvm.symm hK1
  have hU := hU.ap (l2 := (eb_ll 7)) 7 hw rfl (fun _ _ => rfl) (by decide)
  have e9 : lx7.length + (eb_ll 7).length = (lx7 ++ (eb_ll 7)).length := by rw [List.length_append]
  rw [e9] at hP1 hD1
  obtain ⟨hP, hD⟩ := va_join (wr := [(bo, .inl (cZ, 64, .inl (fun _ => 0)))]) (w1 := (eb_W b v8 c8 M8 f8 0 (lx7 ++ (eb_ll 7)).length)) hP hD [1, 2] [0] rfl rfl (by decide) (by decide) hk1 hFc hP1 hD1
  have hK := (hK.sub (tys' := [(cZ, .boolean)]) [0] rfl).app hK1
  obtain ⟨lx8, el8⟩ : ∃ z, z = lx7 ++ (eb_ll 7) := ⟨_, rfl⟩
  rw [← el8] at hP hD hU
  have hP : va_P D eb_cl (eb_V bo cZ (fun _ => 0) b v8 c8 M8 f8 lx8) H8 := hP
  have hD : va_D A (eb_V bo cZ (fun _ => 0) b v8 c8 M8 f8 lx8) := hD
  have hK : va_K D eb_cl [(cZ, .boolean), (c8, .byte)] s := hK
  have hU : eb_U lx8 (33) M8 f8 := hU
  rw [hq]
  refine lv_aload_n hx hb d90 rfl (lv_at hl 4 rfl) ?_
  refine lv_iconst (v := nI 4) hx hb d91 (by decide) ?_
  refine lv_iconst (v := nI 1) hx hb d92 (by decide) ?_
  refine lv_iconst (v := nI 3) hx hb d93 (by decide) ?_
  refine va_calli (va_runS (As := [.ref b0, .int (nI (4)), .int (nI (1)), .int (nI (3))]) (rest := [.ref b]) ⟨hx, hb, hml, hown, hts⟩ (eb_draw l D L xs b0 (by omega) (4) (1) (3) (by omega) (by omega) (by omega)) (va_cwS 4 hts (eb_gS eb_ok1 (eb_m (ev_gm (p := 13193) (by decide +kernel) rfl)) (eb_m (ev_gm (p := 13194) (by decide +kernel) rfl)) (eb_m (ev_ginit (by decide +kernel) rfl)) (eb_m (ev_gm (p := 13195) (by decide +kernel) rfl))) rfl rfl rfl (by decide +kernel) ⟨Nat.le_of_ble_eq_true rfl, Nat.le_of_ble_eq_true rfl⟩) ⟨fun a U g mk q => ⟨q.1, va_T.moved (u := U) (U := U.calling g mk a) (Vm.Alike.refl U.vm) q.2⟩, fun U hU hW => ⟨rfl, by show va_T _ _ _ _ _ U U.heap; rw [hU]; exact ((hX.2.1.kept hS.2.1).narrow (fun _ z => z.elim)).moved hW.alike⟩⟩ rfl rfl hl.1 rfl (lv_room (Nat.le_of_ble_eq_true rfl)) d94 ⟨by show _ ≤ 400; omega, by show _ ≤ 600000; omega⟩) hS (fun q _ h => h.elim) (fun q h => h.elim) (fun r u t Gy5 locs1 ht hvm hw hB hz1 hk1 hS => ?_)
  obtain ⟨y5, ey5⟩ : ∃ z : Nat, z = u := ⟨u, rfl⟩
  rw [← ey5] at hw
  obtain ⟨y5a, y5b, rfl⟩ := hw
  have hP := eb_keep hP hk1
  have hPc := hP.sub (ws' := (eb_W b v8 c8 M8 f8 0 lx8.length)) [1, 2] rfl
  have hDc := hD.sub (ws' := (eb_W b v8 c8 M8 f8 0 lx8.length)) [1, 2] (by decide) rfl
  have hKc := hK.sub (tys' := [(c8, .byte)]) [1] rfl
  have hFc := va_free (wc := (eb_W b v8 c8 M8 f8 0 lx8.length)) hD hS hA [1, 2] rfl
  refine va_callr (va_runV (As := [.int (nI (y5))]) (rest := []) ⟨hx, hb, hml, hown, hts⟩ (eb_sappI l D Gy5.size b v8 c8 M8 f8 0 lx8.length (y5) (by omega) hU.2.1 hU.2.2.1 (by have := hU.1; have := eb_sz3 (y5); omega)) (cwV 1 hts (eb_gV eb_ok1 (eb_m (ev_gm (p := 15035) (by decide +kernel) rfl)) (eb_m (ev_gm (p := 15036) (by decide +kernel) rfl)) (eb_m (ev_gm (p := 15037) (by decide +kernel) rfl)) (eb_m (ev_ginit (by decide +kernel) rfl)) (eb_m (ev_gm (p := 15038) (by decide +kernel) rfl))) rfl rfl rfl (by decide +kernel) ⟨Nat.le_of_ble_eq_true rfl, Nat.le_of_ble_eq_true rfl⟩) ⟨fun a U g mk q => by obtain ⟨q0, q1, qP, qK, qD, qF⟩ := q; exact ⟨q0, q1, qP, va_K.moved (u := U) (U := U.calling g mk a) (Vm.Alike.refl U.vm) qK, qD, eb_I.moved (u := U) (U := U.calling g mk a) (Vm.Alike.refl U.vm) qF.1, va_Z.moved (u := U) (U := U.calling g mk a) (Vm.Alike.refl U.vm) qF.2.1, qF.2.2⟩, va_recv hK hP (ci := 0) (q0 := 1) rfl rfl, fun U hU9 hW => ⟨rfl, by rw [hU9], by rw [hU9]; exact hPc, va_K.moved hW.alike hKc, hDc.weaken (fun _ _ _ _ => trivial), by show eb_I _ U U.heap; rw [hU9]; exact ((hX.2.2.1.kept hS.2.1).narrow hFc).moved hW.alike, by show va_Z _ _ _ _ _ U U.heap; rw [hU9]; exact ((hX.2.2.2.kept hS.2.1).narrow hFc).moved hW.alike, hU.2.2.2.1⟩⟩ rfl rfl hl.1 rfl (lv_room (Nat.le_of_ble_eq_true rfl)) d97 ⟨by show _ ≤ 400; omega, by show _ ≤ 600000; omega⟩) hS (fun q _ h => hFc q h) hFc (fun u ra t H9 locs1 ht hvm hw hB hz1 hk1 hS => ?_)
  obtain ⟨v9, c9, M9, f9⟩ := u
  obtain ⟨hq, hP1, hK1, hD1⟩ := hB
  dsimp only at hP1 hK1 hD1
  rw [ht] at hP1
  have hK1 := va_K.moved hvm.symm hK1
  have hU := hU.ap (l2 := (dg (y5))) 3 hw (eb_dl (by omega)) (fun _ _ => rfl) (eb_sz3 _)
  have e9 : lx8.length + (eb_sz (y5)) = (lx8 ++ (dg (y5))).length := by rw [List.length_append, eb_dl (by omega)]
  rw [e9] at hP1 hD1
  obtain ⟨hP, hD⟩ := va_join (wr := [(bo, .inl (cZ, 64, .inl (fun _ => 0)))]) (w1 := (eb_W b v9 c9 M9 f9 0 (lx8 ++ (dg (y5))).length)) hP hD [1, 2] [0] rfl rfl (by decide) (by decide) hk1 hFc hP1 hD1
  have hK := (hK.sub (tys' := [(cZ, .boolean)]) [0] rfl).app hK1
  obtain ⟨lx9, el9⟩ : ∃ z, z = lx8 ++ (dg (y5)) := ⟨_, rfl⟩
  rw [← el9] at hP hD hU
  have hP : va_P D eb_cl (eb_V bo cZ (fun _ => 0) b v9 c9 M9 f9 lx9) H9 := hP
  have hD : va_D A (eb_V bo cZ (fun _ => 0) b v9 c9 M9 f9 lx9) := hD
  have hK : va_K D eb_cl [(cZ, .boolean), (c9, .byte)] s := hK
  have hU : eb_U lx9 (36) M9 f9 := hU
  rw [hq]
  refine va_ldcS hx hb hown (hY.1 8 (by decide)) d100 ?_
  have hPc := hP.sub (ws' := (eb_W b v9 c9 M9 f9 0 lx9.length)) [1, 2] rfl
  have hDc := hD.sub (ws' := (eb_W b v9 c9 M9 f9 0 lx9.length)) [1, 2] (by decide) rfl
  have hKc := hK.sub (tys' := [(c9, .byte)]) [1] rfl
  have hFc := va_free (wc := (eb_W b v9 c9 M9 f9 0 lx9.length)) hD hS hA [1, 2] rfl
  refine va_callr (va_runV (As := [.ref (av 8)]) (rest := []) ⟨hx, hb, hml, hown, hts⟩ (eb_sappS l D H9.size b v9 c9 M9 f9 0 lx9.length (eb_ll 8).length (eb_fx (eb_ll 8)) (av 8) (aw 8) hU.2.1 hU.2.2.1 (by have := hU.1; show _ + 6 ≤ 300; omega)) (cwV 1 hts (eb_gV eb_ok1 (eb_m (ev_gm (p := 15074) (by decide +kernel) rfl)) (eb_m (ev_gm (p := 14168) (by decide +kernel) rfl)) (eb_m (ev_gm (p := 14169) (by decide +kernel) rfl)) (eb_m (ev_ginit (by decide +kernel) rfl)) (eb_m (ev_gm (p := 14170) (by decide +kernel) rfl))) rfl rfl rfl (by decide +kernel) ⟨Nat.le_of_ble_eq_true rfl, Nat.le_of_ble_eq_true rfl⟩) ⟨fun a U g mk q => by obtain ⟨q0, q1, qP, qK, qD, qF⟩ := q; exact ⟨q0, q1, qP, va_K.moved (u := U) (U := U.calling g mk a) (Vm.Alike.refl U.vm) qK, qD, eb_T.moved (u := U) (U := U.calling g mk a) (Vm.Alike.refl U.vm) qF.1, qF.2⟩, va_recv hK hP (ci := 0) (q0 := 1) rfl rfl, fun U hU9 hW => ⟨rfl, by rw [hU9], by rw [hU9]; exact hPc, va_K.moved hW.alike hKc, hDc.weaken (fun _ _ _ _ => trivial), by show eb_T _ _ _ _ _ U U.heap; rw [hU9]; exact (((hX.1 8 (by omega)).kept hS.2.1).narrow hFc).moved hW.alike, eb_fx_ft 8 (by omega), hU.2.2.2.1⟩⟩ rfl rfl hl.1 rfl (lv_room (Nat.le_of_ble_eq_true rfl)) d102 ⟨by show _ ≤ 400; omega, by show _ ≤ 600000; omega⟩) hS (fun q _ h => hFc q h) hFc (fun u ra t H10 locs1 ht hvm hw hB hz1 hk1 hS => ?_)
  obtain ⟨v10, c10, M10, f10⟩ := u
  obtain ⟨hq, hP1, hK1, hD1⟩ := hB
  dsimp only at hP1 hK1 hD1
  rw [ht] at hP1
  have hK1 := va_K.moved hvm.symm hK1
  have hU := hU.ap (l2 := (eb_ll 8)) 6 hw rfl (fun _ _ => rfl) (by decide)
  have e9 : lx9.length + (eb_ll 8).length = (lx9 ++ (eb_ll 8)).length := by rw [List.length_append]
  rw [e9] at hP1 hD1
  obtain ⟨hP, hD⟩ := va_join (wr := [(bo, .inl (cZ, 64, .inl (fun _ => 0)))]) (w1 := (eb_W b v10 c10 M10 f10 0 (lx9 ++ (eb_ll 8)).length)) hP hD [1, 2] [0] rfl rfl (by decide) (by decide) hk1 hFc hP1 hD1
  have hK := (hK.sub (tys' := [(cZ, .boolean)]) [0] rfl).app hK1
  obtain ⟨lx10, el10⟩ : ∃ z, z = lx9 ++ (eb_ll 8) := ⟨_, rfl⟩
  rw [← el10] at hP hD hU
  have hP : va_P D eb_cl (eb_V bo cZ (fun _ => 0) b v10 c10 M10 f10 lx10) H10 := hP
  have hD : va_D A (eb_V bo cZ (fun _ => 0) b v10 c10 M10 f10 lx10) := hD
  have hK : va_K D eb_cl [(cZ, .boolean), (c10, .byte)] s := hK
  have hU : eb_U lx10 (42) M10 f10 := hU
  rw [hq]
  refine lv_aload_n hx hb d105 rfl (lv_at hl 4 rfl) ?_
  refine lv_iconst (v := nI 5) hx hb d106 (by decide) ?_
  refine lv_iconst (v := nI 0) hx hb d107 (by decide) ?_
  refine lv_iconst (v := nI 4) hx hb d108 (by decide) ?_
  refine va_calli (va_runS (As := [.ref b0, .int (nI (5)), .int (nI (0)), .int (nI (4))]) (rest := [.ref b]) ⟨hx, hb, hml, hown, hts⟩ (eb_draw l D L xs b0 (by omega) (5) (0) (4) (by omega) (by omega) (by omega)) (va_cwS 4 hts (eb_gS eb_ok1 (eb_m (ev_gm (p := 13193) (by decide +kernel) rfl)) (eb_m (ev_gm (p := 13194) (by decide +kernel) rfl)) (eb_m (ev_ginit (by decide +kernel) rfl)) (eb_m (ev_gm (p := 13195) (by decide +kernel) rfl))) rfl rfl rfl (by decide +kernel) ⟨Nat.le_of_ble_eq_true rfl, Nat.le_of_ble_eq_true rfl⟩) ⟨fun a U g mk q => ⟨q.1, va_T.moved (u := U) (U := U.calling g mk a) (Vm.Alike.refl U.vm) q.2⟩, fun U hU hW => ⟨rfl, by show va_T _ _ _ _ _ U U.heap; rw [hU]; exact ((hX.2.1.kept hS.2.1).narrow (fun _ z => z.elim)).moved hW.alike⟩⟩ rfl rfl hl.1 rfl (lv_room (Nat.le_of_ble_eq_true rfl)) d109 ⟨by show _ ≤ 400; omega, by show _ ≤ 600000; omega⟩) hS (fun q _ h => h.elim) (fun q h => h.elim) (fun r u t Gy6 locs1 ht hvm hw hB hz1 hk1 hS => ?_)
  obtain ⟨y6, ey6⟩ : ∃ z : Nat, z = u := ⟨u, rfl⟩
  rw [← ey6] at hw
  obtain ⟨y6a, y6b, rfl⟩ := hw
  have hP := eb_keep hP hk1
  have hPc := hP.sub (ws' := (eb_W b v10 c10 M10 f10 0 lx10.length)) [1, 2] rfl
  have hDc := hD.sub (ws' := (eb_W b v10 c10 M10 f10 0 lx10.length)) [1, 2] (by decide) rfl
  have hKc := hK.sub (tys' := [(c10, .byte)]) [1] rfl
  have hFc := va_free (wc := (eb_W b v10 c10 M10 f10 0 lx10.length)) hD hS hA [1, 2] rfl
  refine va_callr (va_runV (As := [.int (nI (y6))]) (rest := []) ⟨hx, hb, hml, hown, hts⟩ (eb_sappI l D Gy6.size b v10 c10 M10 f10 0 lx10.length (y6) (by omega) hU.2.1 hU.2.2.1 (by have := hU.1; have := eb_sz3 (y6); omega)) (cwV 1 hts (eb_gV eb_ok1 (eb_m (ev_gm (p := 15035) (by decide +kernel) rfl)) (eb_m (ev_gm (p := 15036) (by decide +kernel) rfl)) (eb_m (ev_gm (p := 15037) (by decide +kernel) rfl)) (eb_m (ev_ginit (by decide +kernel) rfl)) (eb_m (ev_gm (p := 15038) (by decide +kernel) rfl))) rfl rfl rfl (by decide +kernel) ⟨Nat.le_of_ble_eq_true rfl, Nat.le_of_ble_eq_true rfl⟩) ⟨fun a U g mk q => by obtain ⟨q0, q1, qP, qK, qD, qF⟩ := q; exact ⟨q0, q1, qP, va_K.moved (u := U) (U := U.calling g mk a) (Vm.Alike.refl U.vm) qK, qD, eb_I.moved (u := U) (U := U.calling g mk a) (Vm.Alike.refl U.vm) qF.1, va_Z.moved (u := U) (U := U.calling g mk a) (Vm.Alike.refl U.vm) qF.2.1, qF.2.2⟩, va_recv hK hP (ci := 0) (q0 := 1) rfl rfl, fun U hU9 hW => ⟨rfl, by rw [hU9], by rw [hU9]; exact hPc, va_K.moved hW.alike hKc, hDc.weaken (fun _ _ _ _ => trivial), by show eb_I _ U U.heap; rw [hU9]; exact ((hX.2.2.1.kept hS.2.1).narrow hFc).moved hW.alike, by show va_Z _ _ _ _ _ U U.heap; rw [hU9]; exact ((hX.2.2.2.kept hS.2.1).narrow hFc).moved hW.alike, hU.2.2.2.1⟩⟩ rfl rfl hl.1 rfl (lv_room (Nat.le_of_ble_eq_true rfl)) d112 ⟨by show _ ≤ 400; omega, by show _ ≤ 600000; omega⟩) hS (fun q _ h => hFc q h) hFc (fun u ra t H11 locs1 ht hvm hw hB hz1 hk1 hS => ?_)
  obtain ⟨v11, c11, M11, f11⟩ := u
  obtain ⟨hq, hP1, hK1, hD1⟩ := hB
  dsimp only at hP1 hK1 hD1
  rw [ht] at hP1
  have hK1 := va_K.moved hvm.symm hK1
  have hU := hU.ap (l2 := (dg (y6))) 3 hw (eb_dl (by omega)) (fun _ _ => rfl) (eb_sz3 _)
  have e9 : lx10.length + (eb_sz (y6)) = (lx10 ++ (dg (y6))).length := by rw [List.length_append, eb_dl (by omega)]
  rw [e9] at hP1 hD1
  obtain ⟨hP, hD⟩ := va_join (wr := [(bo, .inl (cZ, 64, .inl (fun _ => 0)))]) (w1 := (eb_W b v11 c11 M11 f11 0 (lx10 ++ (dg (y6))).length)) hP hD [1, 2] [0] rfl rfl (by decide) (by decide) hk1 hFc hP1 hD1
  have hK := (hK.sub (tys' := [(cZ, .boolean)]) [0] rfl).app hK1
  obtain ⟨lx11, el11⟩ : ∃ z, z = lx10 ++ (dg (y6)) := ⟨_, rfl⟩
  rw [← el11] at hP hD hU
  have hP : va_P D eb_cl (eb_V bo cZ (fun _ => 0) b v11 c11 M11 f11 lx11) H11 := hP
  have hD : va_D A (eb_V bo cZ (fun _ => 0) b v11 c11 M11 f11 lx11) := hD
  have hK : va_K D eb_cl [(cZ, .boolean), (c11, .byte)] s := hK
  have hU : eb_U lx11 (45) M11 f11 := hU
  rw [hq]
  refine va_ldcS hx hb hown (hY.1 9 (by decide)) d115 ?_
  have hPc := hP.sub (ws' := (eb_W b v11 c11 M11 f11 0 lx11.length)) [1, 2] rfl
  have hDc := hD.sub (ws' := (eb_W b v11 c11 M11 f11 0 lx11.length)) [1, 2] (by decide) rfl
  have hKc := hK.sub (tys' := [(c11, .byte)]) [1] rfl
  have hFc := va_free (wc := (eb_W b v11 c11 M11 f11 0 lx11.length)) hD hS hA [1, 2] rfl
  refine va_callr (va_runV (As := [.ref (av 9)]) (rest := []) ⟨hx, hb, hml, hown, hts⟩ (eb_sappS l D H11.size b v11 c11 M11 f11 0 lx11.length (eb_ll 9).length (eb_fx (eb_ll 9)) (av 9) (aw 9) hU.2.1 hU.2.2.1 (by have := hU.1; show _ + 7 ≤ 300; omega)) (cwV 1 hts (eb_gV eb_ok1 (eb_m (ev_gm (p := 15074) (by decide +kernel) rfl)) (eb_m (ev_gm (p := 14168) (by decide +kernel) rfl)) (eb_m (ev_gm (p := 14169) (by decide +kernel) rfl)) (eb_m (ev_ginit (by decide +kernel) rfl)) (eb_m (ev_gm (p := 14170) (by decide +kernel) rfl))) rfl rfl rfl (by decide +kernel) ⟨Nat.le_of_ble_eq_true rfl, Nat.le_of_ble_eq_true rfl⟩) ⟨fun a U g mk q => by obtain ⟨q0, q1, qP, qK, qD, qF⟩ := q; exact ⟨q0, q1, qP, va_K.moved (u := U) (U := U.calling g mk a) (Vm.Alike.refl U.vm) qK, qD, eb_T.moved (u := U) (U := U.calling g mk a) (Vm.Alike.refl U.vm) qF.1, qF.2⟩, va_recv hK hP (ci := 0) (q0 := 1) rfl rfl, fun U hU9 hW => ⟨rfl, by rw [hU9], by rw [hU9]; exact hPc, va_K.moved hW.alike hKc, hDc.weaken (fun _ _ _ _ => trivial), by show eb_T _ _ _ _ _ U U.heap; rw [hU9]; exact (((hX.1 9 (by omega)).kept hS.2.1).narrow hFc).moved hW.alike, eb_fx_ft 9 (by omega), hU.2.2.2.1⟩⟩ rfl rfl hl.1 rfl (lv_room (Nat.le_of_ble_eq_true rfl)) d117 ⟨by show _ ≤ 400; omega, by show _ ≤ 600000; omega⟩) hS (fun q _ h => hFc q h) hFc (fun u ra t H12 locs1 ht hvm hw hB hz1 hk1 hS => ?_)
  obtain ⟨v12, c12, M12, f12⟩ := u
  obtain ⟨hq, hP1, hK1, hD1⟩ := hB
  dsimp only at hP1 hK1 hD1
  rw [ht] at hP1
  have hK1 := va_K.moved hvm.symm hK1
  have hU := hU.ap (l2 := (eb_ll 9)) 7 hw rfl (fun _ _ => rfl) (by decide)
  have e9 : lx11.length + (eb_ll 9).length = (lx11 ++ (eb_ll 9)).length := by rw [List.length_append]
  rw [e9] at hP1 hD1
  obtain ⟨hP, hD⟩ := va_join (wr := [(bo, .inl (cZ, 64, .inl (fun _ => 0)))]) (w1 := (eb_W b v12 c12 M12 f12 0 (lx11 ++ (eb_ll 9)).length)) hP hD [1, 2] [0] rfl rfl (by decide) (by decide) hk1 hFc hP1 hD1
  have hK := (hK.sub (tys' := [(cZ, .boolean)]) [0] rfl).app hK1
  obtain ⟨lx12, el12⟩ : ∃ z, z = lx11 ++ (eb_ll 9) := ⟨_, rfl⟩
  rw [← el12] at hP hD hU
  have hP : va_P D eb_cl (eb_V bo cZ (fun _ => 0) b v12 c12 M12 f12 lx12) H12 := hP
  have hD : va_D A (eb_V bo cZ (fun _ => 0) b v12 c12 M12 f12 lx12) := hD
  have hK : va_K D eb_cl [(cZ, .boolean), (c12, .byte)] s := hK
  have hU : eb_U lx12 (52) M12 f12 := hU
  rw [hq]
  refine lv_aload_n hx hb d120 rfl (lv_at hl 4 rfl) ?_
  refine lv_bipush (v := nI 6) hx hb d121 (by decide) ?_
  refine lv_iconst (v := nI 1) hx hb d123 (by decide) ?_
  refine lv_iconst (v := nI 4) hx hb d124 (by decide) ?_
  refine va_calli (va_runS (As := [.ref b0, .int (nI (6)), .int (nI (1)), .int (nI (4))]) (rest := [.ref b]) ⟨hx, hb, hml, hown, hts⟩ (eb_draw l D L xs b0 (by omega) (6) (1) (4) (by omega) (by omega) (by omega)) (va_cwS 4 hts (eb_gS eb_ok1 (eb_m (ev_gm (p := 13193) (by decide +kernel) rfl)) (eb_m (ev_gm (p := 13194) (by decide +kernel) rfl)) (eb_m (ev_ginit (by decide +kernel) rfl)) (eb_m (ev_gm (p := 13195) (by decide +kernel) rfl))) rfl rfl rfl (by decide +kernel) ⟨Nat.le_of_ble_eq_true rfl, Nat.le_of_ble_eq_true rfl⟩) ⟨fun a U g mk q => ⟨q.1, va_T.moved (u := U) (U := U.calling g mk a) (Vm.Alike.refl U.vm) q.2⟩, fun U hU hW => ⟨rfl, by show va_T _ _ _ _ _ U U.heap; rw [hU]; exact ((hX.2.1.kept hS.2.1).narrow (fun _ z => z.elim)).moved hW.alike⟩⟩ rfl rfl hl.1 rfl (lv_room (Nat.le_of_ble_eq_true rfl)) d125 ⟨by show _ ≤ 400; omega, by show _ ≤ 600000; omega⟩) hS (fun q _ h => h.elim) (fun q h => h.elim) (fun r u t Gy7 locs1 ht hvm hw hB hz1 hk1 hS => ?_)
  obtain ⟨y7, ey7⟩ : ∃ z : Nat, z = u := ⟨u, rfl⟩
  rw [← ey7] at hw
  obtain ⟨y7a, y7b, rfl⟩ := hw
  have hP := eb_keep hP hk1
  have hPc := hP.sub (ws' := (eb_W b v12 c12 M12 f12 0 lx12.length)) [1, 2] rfl
  have hDc := hD.sub (ws' := (eb_W b v12 c12 M12 f12 0 lx12.length)) [1, 2] (by decide) rfl
  have hKc := hK.sub (tys' := [(c12, .byte)]) [1] rfl
  have hFc := va_free (wc := (eb_W b v12 c12 M12 f12 0 lx12.length)) hD hS hA [1, 2] rfl
  refine va_callr (va_runV (As := [.int (nI (y7))]) (rest := []) ⟨hx, hb, hml, hown, hts⟩ (eb_sappI l D Gy7.size b v12 c12 M12 f12 0 lx12.length (y7) (by omega) hU.2.1 hU.2.2.1 (by have := hU.1; have := eb_sz3 (y7); omega)) (cwV 1 hts (eb_gV eb_ok1 (eb_m (ev_gm (p := 15035) (by decide +kernel) rfl)) (eb_m (ev_gm (p := 15036) (by decide +kernel) rfl)) (eb_m (ev_gm (p := 15037) (by decide +kernel) rfl)) (eb_m (ev_ginit (by decide +kernel) rfl)) (eb_m (ev_gm (p := 15038) (by decide +kernel) rfl))) rfl rfl rfl (by decide +kernel) ⟨Nat.le_of_ble_eq_true rfl, Nat.le_of_ble_eq_true rfl⟩) ⟨fun a U g mk q => by obtain ⟨q0, q1, qP, qK, qD, qF⟩ := q; exact ⟨q0, q1, qP, va_K.moved (u := U) (U := U.calling g mk a) (Vm.Alike.refl U.vm) qK, qD, eb_I.moved (u := U) (U := U.calling g mk a) (Vm.Alike.refl U.vm) qF.1, va_Z.moved (u := U) (U := U.calling g mk a) (Vm.Alike.refl U.vm) qF.2.1, qF.2.2⟩, va_recv hK hP (ci := 0) (q0 := 1) rfl rfl, fun U hU9 hW => ⟨rfl, by rw [hU9], by rw [hU9]; exact hPc, va_K.moved hW.alike hKc, hDc.weaken (fun _ _ _ _ => trivial), by show eb_I _ U U.heap; rw [hU9]; exact ((hX.2.2.1.kept hS.2.1).narrow hFc).moved hW.alike, by show va_Z _ _ _ _ _ U U.heap; rw [hU9]; exact ((hX.2.2.2.kept hS.2.1).narrow hFc).moved hW.alike, hU.2.2.2.1⟩⟩ rfl rfl hl.1 rfl (lv_room (Nat.le_of_ble_eq_true rfl)) d128 ⟨by show _ ≤ 400; omega, by show _ ≤ 600000; omega⟩) hS (fun q _ h => hFc q h) hFc (fun u ra t H13 locs1 ht hvm hw hB hz1 hk1 hS => ?_)
  obtain ⟨v13, c13, M13, f13⟩ := u
  obtain ⟨hq, hP1, hK1, hD1⟩ := hB
  dsimp only at hP1 hK1 hD1
  rw [ht] at hP1
  have hK1 := va_K.moved hvm.symm hK1
  have hU := hU.ap (l2 := (dg (y7))) 3 hw (eb_dl (by omega)) (fun _ _ => rfl) (eb_sz3 _)
  have e9 : lx12.length + (eb_sz (y7)) = (lx12 ++ (dg (y7))).length := by rw [List.length_append, eb_dl (by omega)]
  rw [e9] at hP1 hD1
  obtain ⟨hP, hD⟩ := va_join (wr := [(bo, .inl (cZ, 64, .inl (fun _ => 0)))]) (w1 := (eb_W b v13 c13 M13 f13 0 (lx12 ++ (dg (y7))).length)) hP hD [1, 2] [0] rfl rfl (by decide) (by decide) hk1 hFc hP1 hD1
  have hK := (hK.sub (tys' := [(cZ, .boolean)]) [0] rfl).app hK1
  obtain ⟨lx13, el13⟩ : ∃ z, z = lx12 ++ (dg (y7)) := ⟨_, rfl⟩
  rw [← el13] at hP hD hU
  have hP : va_P D eb_cl (eb_V bo cZ (fun _ => 0) b v13 c13 M13 f13 lx13) H13 := hP
  have hD : va_D A (eb_V bo cZ (fun _ => 0) b v13 c13 M13 f13 lx13) := hD
  have hK : va_K D eb_cl [(cZ, .boolean), (c13, .byte)] s := hK
  have hU : eb_U lx13 (55) M13 f13 := hU
  rw [hq]
  refine lv_bipush (v := nI 59) hx hb d131 (by decide) ?_
  have hPc := hP.sub (ws' := (eb_W b v13 c13 M13 f13 0 lx13.length)) [1, 2] rfl
  have hDc := hD.sub (ws' := (eb_W b v13 c13 M13 f13 0 lx13.length)) [1, 2] (by decide) rfl
  have hKc := hK.sub (tys' := [(c13, .byte)]) [1] rfl
  have hFc := va_free (wc := (eb_W b v13 c13 M13 f13 0 lx13.length)) hD hS hA [1, 2] rfl
  refine va_callr (va_runV (As := [.int (nI (59))]) (rest := []) ⟨hx, hb, hml, hown, hts⟩ (eb_sappC l D H13.size b v13 c13 M13 f13 0 lx13.length 59 (by decide) hU.2.1 hU.2.2.1 (by have := hU.1; omega)) (cwV 1 hts (eb_gV eb_ok1 (eb_m (ev_gm (p := 15060) (by decide +kernel) rfl)) (eb_m (ev_gm (p := 15061) (by decide +kernel) rfl)) (eb_m (ev_gm (p := 15062) (by decide +kernel) rfl)) (eb_m (ev_ginit (by decide +kernel) rfl)) (eb_m (ev_gm (p := 15063) (by decide +kernel) rfl))) rfl rfl rfl (by decide +kernel) ⟨Nat.le_of_ble_eq_true rfl, Nat.le_of_ble_eq_true rfl⟩) ⟨fun a U g mk q => by obtain ⟨q0, q1, qP, qK, qD, qF⟩ := q; exact ⟨q0, q1, qP, va_K.moved (u := U) (U := U.calling g mk a) (Vm.Alike.refl U.vm) qK, qD, va_Z.moved (u := U) (U := U.calling g mk a) (Vm.Alike.refl U.vm) qF.1, qF.2⟩, va_recv hK hP (ci := 0) (q0 := 1) rfl rfl, fun U hU9 hW => ⟨rfl, by rw [hU9], by rw [hU9]; exact hPc, va_K.moved hW.alike hKc, hDc.weaken (fun _ _ _ _ => trivial), by show va_Z _ _ _ _ _ U U.heap; rw [hU9]; exact ((hX.2.2.2.kept hS.2.1).narrow hFc).moved hW.alike, hU.2.2.2.1⟩⟩ rfl rfl hl.1 rfl (lv_room (Nat.le_of_ble_eq_true rfl)) d133 ⟨by show _ ≤ 400; omega, by show _ ≤ 600000; omega⟩) hS (fun q _ h => hFc q h) hFc (fun u ra t H14 locs1 ht hvm hw hB hz1 hk1 hS => ?_)
  obtain ⟨v14, c14, M14, f14⟩ := u
  obtain ⟨hq, hP1, hK1, hD1⟩ := hB
  dsimp only at hP1 hK1 hD1
  rw [ht] at hP1
  have hK1 := va_K.moved hvm.symm hK1
  have hU := hU.ap (l2 := [59]) 1 hw rfl (eb_f1 _) (by decide)
  have e9 : lx13.length + 1 = (lx13 ++ [59]).length := by rw [List.length_append]; rfl
  rw [e9] at hP1 hD1
  obtain ⟨hP, hD⟩ := va_join (wr := [(bo, .inl (cZ, 64, .inl (fun _ => 0)))]) (w1 := (eb_W b v14 c14 M14 f14 0 (lx13 ++ [59]).length)) hP hD [1, 2] [0] rfl rfl (by decide) (by decide) hk1 hFc hP1 hD1
  have hK := (hK.sub (tys' := [(cZ, .boolean)]) [0] rfl).app hK1
  obtain ⟨lx14, el14⟩ : ∃ z, z = lx13 ++ [59] := ⟨_, rfl⟩
  rw [← el14] at hP hD hU
  have hP : va_P D eb_cl (eb_V bo cZ (fun _ => 0) b v14 c14 M14 f14 lx14) H14 := hP
  have hD : va_D A (eb_V bo cZ (fun _ => 0) b v14 c14 M14 f14 lx14) := hD
  have hK : va_K D eb_cl [(cZ, .boolean), (c14, .byte)] s := hK
  have hU : eb_U lx14 (56) M14 f14 := hU
  rw [hq]
  refine lv_pop hx hb d136 rfl ?_
  refine lv_aload hx hb d137 (lv_at hl 0 rfl) ?_
  refine va_ldcS hx hb hown (hY.1 10 (by decide)) d139 ?_
  have hPc := hP.sub (ws' := (eb_W b v14 c14 M14 f14 0 lx14.length)) [1, 2] rfl
  have hDc := hD.sub (ws' := (eb_W b v14 c14 M14 f14 0 lx14.length)) [1, 2] (by decide) rfl
  have hKc := hK.sub (tys' := [(c14, .byte)]) [1] rfl
  have hFc := va_free (wc := (eb_W b v14 c14 M14 f14 0 lx14.length)) hD hS hA [1, 2] rfl
  refine va_callr (va_runV (As := [.ref (av 10)]) (rest := []) ⟨hx, hb, hml, hown, hts⟩ (eb_sappS l D H14.size b v14 c14 M14 f14 0 lx14.length (eb_ll 10).length (eb_fx (eb_ll 10)) (av 10) (aw 10) hU.2.1 hU.2.2.1 (by have := hU.1; show _ + 26 ≤ 300; omega)) (cwV 1 hts (eb_gV eb_ok1 (eb_m (ev_gm (p := 15074) (by decide +kernel) rfl)) (eb_m (ev_gm (p := 14168) (by decide +kernel) rfl)) (eb_m (ev_gm (p := 14169) (by decide +kernel) rfl)) (eb_m (ev_ginit (by decide +kernel) rfl)) (eb_m (ev_gm (p := 14170) (by decide +kernel) rfl))) rfl rfl rfl (by decide +kernel) ⟨Nat.le_of_ble_eq_true rfl, Nat.le_of_ble_eq_true rfl⟩) ⟨fun a U g mk q => by obtain ⟨q0, q1, qP, qK, qD, qF⟩ := q; exact ⟨q0, q1, qP, va_K.moved (u := U) (U := U.calling g mk a) (Vm.Alike.refl U.vm) qK, qD, eb_T.moved (u := U) (U := U.calling g mk a) (Vm.Alike.refl U.vm) qF.1, qF.2⟩, va_recv hK hP (ci := 0) (q0 := 1) rfl rfl, fun U hU9 hW => ⟨rfl, by rw [hU9], by rw [hU9]; exact hPc, va_K.moved hW.alike hKc, hDc.weaken (fun _ _ _ _ => trivial), by show eb_T _ _ _ _ _ U U.heap; rw [hU9]; exact (((hX.1 10 (by omega)).kept hS.2.1).narrow hFc).moved hW.alike, eb_fx_ft 10 (by omega), hU.2.2.2.1⟩⟩ rfl rfl hl.1 rfl (lv_room (Nat.le_of_ble_eq_true rfl)) d141 ⟨by show _ ≤ 400; omega, by show _ ≤ 600000; omega⟩) hS (fun q _ h => hFc q h) hFc (fun u ra t H15 locs1 ht hvm hw hB hz1 hk1 hS => ?_)
  obtain ⟨v15, c15, M15, f15⟩ := u
  obtain ⟨hq, hP1, hK1, hD1⟩ := hB
  dsimp only at hP1 hK1 hD1
  rw [ht] at hP1
  have hK1 := va_K.moved hvm.symm hK1
  have hU := hU.ap (l2 := (eb_ll 10)) 26 hw rfl (fun _ _ => rfl) (by decide)
  have e9 : lx14.length + (eb_ll 10).length = (lx14 ++ (eb_ll 10)).length := by rw [List.length_append]
  rw [e9] at hP1 hD1
  obtain ⟨hP, hD⟩ := va_join (wr := [(bo, .inl (cZ, 64, .inl (fun _ => 0)))]) (w1 := (eb_W b v15 c15 M15 f15 0 (lx14 ++ (eb_ll 10)).length)) hP hD [1, 2] [0] rfl rfl (by decide) (by decide) hk1 hFc hP1 hD1
  have hK := (hK.sub (tys' := [(cZ, .boolean)]) [0] rfl).app hK1
  obtain ⟨lx15, el15⟩ : ∃ z, z = lx14 ++ (eb_ll 10) := ⟨_, rfl⟩
  rw [← el15] at hP hD hU
  have hP : va_P D eb_cl (eb_V bo cZ (fun _ => 0) b v15 c15 M15 f15 lx15) H15 := hP
  have hD : va_D A (eb_V bo cZ (fun _ => 0) b v15 c15 M15 f15 lx15) := hD
  have hK : va_K D eb_cl [(cZ, .boolean), (c15, .byte)] s := hK
  have hU : eb_U lx15 (82) M15 f15 := hU
  rw [hq]
  refine lv_iload_n hx hb d144 rfl (lv_at hl 3 rfl) ?_
  refine lv_iconst (v := nI 1) hx hb d145 (by decide) ?_
  refine lv_isub hx hb d146 ?_
  refine lv_topi (fun y ey => ?_); obtain rfl : y = nI ((y1) - (1)) := ey.trans (pk_sub (a := y1) (b := 1) (by omega))
  have hPc := hP.sub (ws' := (eb_W b v15 c15 M15 f15 0 lx15.length)) [1, 2] rfl
  have hDc := hD.sub (ws' := (eb_W b v15 c15 M15 f15 0 lx15.length)) [1, 2] (by decide) rfl
  have hKc := hK.sub (tys' := [(c15, .byte)]) [1] rfl
  have hFc := va_free (wc := (eb_W b v15 c15 M15 f15 0 lx15.length)) hD hS hA [1, 2] rfl
  refine va_callr (va_runV (As := [.int (nI ((y1) - (1)))]) (rest := []) ⟨hx, hb, hml, hown, hts⟩ (eb_sappI l D H15.size b v15 c15 M15 f15 0 lx15.length ((y1) - (1)) (by omega) hU.2.1 hU.2.2.1 (by have := hU.1; have := eb_sz3 ((y1) - (1)); omega)) (cwV 1 hts (eb_gV eb_ok1 (eb_m (ev_gm (p := 15035) (by decide +kernel) rfl)) (eb_m (ev_gm (p := 15036) (by decide +kernel) rfl)) (eb_m (ev_gm (p := 15037) (by decide +kernel) rfl)) (eb_m (ev_ginit (by decide +kernel) rfl)) (eb_m (ev_gm (p := 15038) (by decide +kernel) rfl))) rfl rfl rfl (by decide +kernel) ⟨Nat.le_of_ble_eq_true rfl, Nat.le_of_ble_eq_true rfl⟩) ⟨fun a U g mk q => by obtain ⟨q0, q1, qP, qK, qD, qF⟩ := q; exact ⟨q0, q1, qP, va_K.moved (u := U) (U := U.calling g mk a) (Vm.Alike.refl U.vm) qK, qD, eb_I.moved (u := U) (U := U.calling g mk a) (Vm.Alike.refl U.vm) qF.1, va_Z.moved (u := U) (U := U.calling g mk a) (Vm.Alike.refl U.vm) qF.2.1, qF.2.2⟩, va_recv hK hP (ci := 0) (q0 := 1) rfl rfl, fun U hU9 hW => ⟨rfl, by rw [hU9], by rw [hU9]; exact hPc, va_K.moved hW.alike hKc, hDc.weaken (fun _ _ _ _ => trivial), by show eb_I _ U U.heap; rw [hU9]; exact ((hX.2.2.1.kept hS.2.1).narrow hFc).moved hW.alike, by show va_Z _ _ _ _ _ U U.heap; rw [hU9]; exact ((hX.2.2.2.kept hS.2.1).narrow hFc).moved hW.alike, hU.2.2.2.1⟩⟩ rfl rfl hl.1 rfl (lv_room (Nat.le_of_ble_eq_true rfl)) d147 ⟨by show _ ≤ 400; omega, by show _ ≤ 600000; omega⟩) hS (fun q _ h => hFc q h) hFc (fun u ra t H16 locs1 ht hvm hw hB hz1 hk1 hS => ?_)
  obtain ⟨v16, c16, M16, f16⟩ := u
  obtain ⟨hq, hP1, hK1, hD1⟩ := hB
  dsimp only at hP1 hK1 hD1
  rw [ht] at hP1
  have hK1 := va_K.moved hvm.symm hK1
  have hU := hU.ap (l2 := (dg ((y1) - (1)))) 3 hw (eb_dl (by omega)) (fun _ _ => rfl) (eb_sz3 _)
  have e9 : lx15.length + (eb_sz ((y1) - (1))) = (lx15 ++ (dg ((y1) - (1)))).length := by rw [List.length_append, eb_dl (by omega)]
  rw [e9] at hP1 hD1
  obtain ⟨hP, hD⟩ := va_join (wr := [(bo, .inl (cZ, 64, .inl (fun _ => 0)))]) (w1 := (eb_W b v16 c16 M16 f16 0 (lx15 ++ (dg ((y1) - (1)))).length)) hP hD [1, 2] [0] rfl rfl (by decide) (by decide) hk1 hFc hP1 hD1
  have hK := (hK.sub (tys' := [(cZ, .boolean)]) [0] rfl).app hK1
  obtain ⟨lx16, el16⟩ : ∃ z, z = lx15 ++ (dg ((y1) - (1))) := ⟨_, rfl⟩
  rw [← el16] at hP hD hU
  have hP : va_P D eb_cl (eb_V bo cZ (fun _ => 0) b v16 c16 M16 f16 lx16) H16 := hP
  have hD : va_D A (eb_V bo cZ (fun _ => 0) b v16 c16 M16 f16 lx16) := hD
  have hK : va_K D eb_cl [(cZ, .boolean), (c16, .byte)] s := hK
  have hU : eb_U lx16 (85) M16 f16 := hU
  rw [hq]
  refine lv_bipush (v := nI 32) hx hb d150 (by decide) ?_
  have hPc := hP.sub (ws' := (eb_W b v16 c16 M16 f16 0 lx16.length)) [1, 2] rfl
  have hDc := hD.sub (ws' := (eb_W b v16 c16 M16 f16 0 lx16.length)) [1, 2] (by decide) rfl
  have hKc := hK.sub (tys' := [(c16, .byte)]) [1] rfl
  have hFc := va_free (wc := (eb_W b v16 c16 M16 f16 0 lx16.length)) hD hS hA [1, 2] rfl
  refine va_callr (va_runV (As := [.int (nI (32))]) (rest := []) ⟨hx, hb, hml, hown, hts⟩ (eb_sappC l D H16.size b v16 c16 M16 f16 0 lx16.length 32 (by decide) hU.2.1 hU.2.2.1 (by have := hU.1; omega)) (cwV 1 hts (eb_gV eb_ok1 (eb_m (ev_gm (p := 15060) (by decide +kernel) rfl)) (eb_m (ev_gm (p := 15061) (by decide +kernel) rfl)) (eb_m (ev_gm (p := 15062) (by decide +kernel) rfl)) (eb_m (ev_ginit (by decide +kernel) rfl)) (eb_m (ev_gm (p := 15063) (by decide +kernel) rfl))) rfl rfl rfl (by decide +kernel) ⟨Nat.le_of_ble_eq_true rfl, Nat.le_of_ble_eq_true rfl⟩) ⟨fun a U g mk q => by obtain ⟨q0, q1, qP, qK, qD, qF⟩ := q; exact ⟨q0, q1, qP, va_K.moved (u := U) (U := U.calling g mk a) (Vm.Alike.refl U.vm) qK, qD, va_Z.moved (u := U) (U := U.calling g mk a) (Vm.Alike.refl U.vm) qF.1, qF.2⟩, va_recv hK hP (ci := 0) (q0 := 1) rfl rfl, fun U hU9 hW => ⟨rfl, by rw [hU9], by rw [hU9]; exact hPc, va_K.moved hW.alike hKc, hDc.weaken (fun _ _ _ _ => trivial), by show va_Z _ _ _ _ _ U U.heap; rw [hU9]; exact ((hX.2.2.2.kept hS.2.1).narrow hFc).moved hW.alike, hU.2.2.2.1⟩⟩ rfl rfl hl.1 rfl (lv_room (Nat.le_of_ble_eq_true rfl)) d152 ⟨by show _ ≤ 400; omega, by show _ ≤ 600000; omega⟩) hS (fun q _ h => hFc q h) hFc (fun u ra t H17 locs1 ht hvm hw hB hz1 hk1 hS => ?_)
  obtain ⟨v17, c17, M17, f17⟩ := u
  obtain ⟨hq, hP1, hK1, hD1⟩ := hB
  dsimp only at hP1 hK1 hD1
  rw [ht] at hP1
  have hK1 := va_K.moved hvm.symm hK1
  have hU := hU.ap (l2 := [32]) 1 hw rfl (eb_f1 _) (by decide)
  have e9 : lx16.length + 1 = (lx16 ++ [32]).length := by rw [List.length_append]; rfl
  rw [e9] at hP1 hD1
  obtain ⟨hP, hD⟩ := va_join (wr := [(bo, .inl (cZ, 64, .inl (fun _ => 0)))]) (w1 := (eb_W b v17 c17 M17 f17 0 (lx16 ++ [32]).length)) hP hD [1, 2] [0] rfl rfl (by decide) (by decide) hk1 hFc hP1 hD1
  have hK := (hK.sub (tys' := [(cZ, .boolean)]) [0] rfl).app hK1
  obtain ⟨lx17, el17⟩ : ∃ z, z = lx16 ++ [32] := ⟨_, rfl⟩
  rw [← el17] at hP hD hU
  have hP : va_P D eb_cl (eb_V bo cZ (fun _ => 0) b v17 c17 M17 f17 lx17) H17 := hP
  have hD : va_D A (eb_V bo cZ (fun _ => 0) b v17 c17 M17 f17 lx17) := hD
  have hK : va_K D eb_cl [(cZ, .boolean), (c17, .byte)] s := hK
  have hU : eb_U lx17 (86) M17 f17 := hU
  rw [hq]
  refine lv_iload_n hx hb d155 rfl (lv_at hl 2 rfl) ?_
  refine lv_iconst (v := nI 1) hx hb d156 (by decide) ?_
  refine lv_isub hx hb d157 ?_
  refine lv_topi (fun y ey => ?_); obtain rfl : y = nI ((y2) - (1)) := ey.trans (pk_sub (a := y2) (b := 1) (by omega))
  have hPc := hP.sub (ws' := (eb_W b v17 c17 M17 f17 0 lx17.length)) [1, 2] rfl
  have hDc := hD.sub (ws' := (eb_W b v17 c17 M17 f17 0 lx17.length)) [1, 2] (by decide) rfl
  have hKc := hK.sub (tys' := [(c17, .byte)]) [1] rfl
  have hFc := va_free (wc := (eb_W b v17 c17 M17 f17 0 lx17.length)) hD hS hA [1, 2] rfl
  refine va_callr (va_runV (As := [.int (nI ((y2) - (1)))]) (rest := []) ⟨hx, hb, hml, hown, hts⟩ (eb_sappI l D H17.size b v17 c17 M17 f17 0 lx17.length ((y2) - (1)) (by omega) hU.2.1 hU.2.2.1 (by have := hU.1; have := eb_sz3 ((y2) - (1)); omega)) (cwV 1 hts (eb_gV eb_ok1 (eb_m (ev_gm (p := 15035) (by decide +kernel) rfl)) (eb_m (ev_gm (p := 15036) (by decide +kernel) rfl)) (eb_m (ev_gm (p := 15037) (by decide +kernel) rfl)) (eb_m (ev_ginit (by decide +kernel) rfl)) (eb_m (ev_gm (p := 15038) (by decide +kernel) rfl))) rfl rfl rfl (by decide +kernel) ⟨Nat.le_of_ble_eq_true rfl, Nat.le_of_ble_eq_true rfl⟩) ⟨fun a U g mk q => by obtain ⟨q0, q1, qP, qK, qD, qF⟩ := q; exact ⟨q0, q1, qP, va_K.moved (u := U) (U := U.calling g mk a) (Vm.Alike.refl U.vm) qK, qD, eb_I.moved (u := U) (U := U.calling g mk a) (Vm.Alike.refl U.vm) qF.1, va_Z.moved (u := U) (U := U.calling g mk a) (Vm.Alike.refl U.vm) qF.2.1, qF.2.2⟩, va_recv hK hP (ci := 0) (q0 := 1) rfl rfl, fun U hU9 hW => ⟨rfl, by rw [hU9], by rw [hU9]; exact hPc, va_K.moved hW.alike hKc, hDc.weaken (fun _ _ _ _ => trivial), by show eb_I _ U U.heap; rw [hU9]; exact ((hX.2.2.1.kept hS.2.1).narrow hFc).moved hW.alike, by show va_Z _ _ _ _ _ U U.heap; rw [hU9]; exact ((hX.2.2.2.kept hS.2.1).narrow hFc).moved hW.alike, hU.2.2.2.1⟩⟩ rfl rfl hl.1 rfl (lv_room (Nat.le_of_ble_eq_true rfl)) d158 ⟨by show _ ≤ 400; omega, by show _ ≤ 600000; omega⟩) hS (fun q _ h => hFc q h) hFc (fun u ra t H18 locs1 ht hvm hw hB hz1 hk1 hS => ?_)
  obtain ⟨v18, c18, M18, f18⟩ := u
  obtain ⟨hq, hP1, hK1, hD1⟩ := hB
  dsimp only at hP1 hK1 hD1
  rw [ht] at hP1
  have hK1 := va_K.moved hvm.symm hK1
  have hU := hU.ap (l2 := (dg ((y2) - (1)))) 3 hw (eb_dl (by omega)) (fun _ _ => rfl) (eb_sz3 _)
  have e9 : lx17.length + (eb_sz ((y2) - (1))) = (lx17 ++ (dg ((y2) - (1)))).length := by rw [List.length_append, eb_dl (by omega)]
  rw [e9] at hP1 hD1
  obtain ⟨hP, hD⟩ := va_join (wr := [(bo, .inl (cZ, 64, .inl (fun _ => 0)))]) (w1 := (eb_W b v18 c18 M18 f18 0 (lx17 ++ (dg ((y2) - (1)))).length)) hP hD [1, 2] [0] rfl rfl (by decide) (by decide) hk1 hFc hP1 hD1
  have hK := (hK.sub (tys' := [(cZ, .boolean)]) [0] rfl).app hK1
  obtain ⟨lx18, el18⟩ : ∃ z, z = lx17 ++ (dg ((y2) - (1))) := ⟨_, rfl⟩
  rw [← el18] at hP hD hU
  have hP : va_P D eb_cl (eb_V bo cZ (fun _ => 0) b v18 c18 M18 f18 lx18) H18 := hP
  have hD : va_D A (eb_V bo cZ (fun _ => 0) b v18 c18 M18 f18 lx18) := hD
  have hK : va_K D eb_cl [(cZ, .boolean), (c18, .byte)] s := hK
  have hU : eb_U lx18 (89) M18 f18 := hU
  rw [hq]
  refine lv_bipush (v := nI 59) hx hb d161 (by decide) ?_
  have hPc := hP.sub (ws' := (eb_W b v18 c18 M18 f18 0 lx18.length)) [1, 2] rfl
  have hDc := hD.sub (ws' := (eb_W b v18 c18 M18 f18 0 lx18.length)) [1, 2] (by decide) rfl
  have hKc := hK.sub (tys' := [(c18, .byte)]) [1] rfl
  have hFc := va_free (wc := (eb_W b v18 c18 M18 f18 0 lx18.length)) hD hS hA [1, 2] rfl
  refine va_callr (va_runV (As := [.int (nI (59))]) (rest := []) ⟨hx, hb, hml, hown, hts⟩ (eb_sappC l D H18.size b v18 c18 M18 f18 0 lx18.length 59 (by decide) hU.2.1 hU.2.2.1 (by have := hU.1; omega)) (cwV 1 hts (eb_gV eb_ok1 (eb_m (ev_gm (p := 15060) (by decide +kernel) rfl)) (eb_m (ev_gm (p := 15061) (by decide +kernel) rfl)) (eb_m (ev_gm (p := 15062) (by decide +kernel) rfl)) (eb_m (ev_ginit (by decide +kernel) rfl)) (eb_m (ev_gm (p := 15063) (by decide +kernel) rfl))) rfl rfl rfl (by decide +kernel) ⟨Nat.le_of_ble_eq_true rfl, Nat.le_of_ble_eq_true rfl⟩) ⟨fun a U g mk q => by obtain ⟨q0, q1, qP, qK, qD, qF⟩ := q; exact ⟨q0, q1, qP, va_K.moved (u := U) (U := U.calling g mk a) (Vm.Alike.refl U.vm) qK, qD, va_Z.moved (u := U) (U := U.calling g mk a) (Vm.Alike.refl U.vm) qF.1, qF.2⟩, va_recv hK hP (ci := 0) (q0 := 1) rfl rfl, fun U hU9 hW => ⟨rfl, by rw [hU9], by rw [hU9]; exact hPc, va_K.moved hW.alike hKc, hDc.weaken (fun _ _ _ _ => trivial), by show va_Z _ _ _ _ _ U U.heap; rw [hU9]; exact ((hX.2.2.2.kept hS.2.1).narrow hFc).moved hW.alike, hU.2.2.2.1⟩⟩ rfl rfl hl.1 rfl (lv_room (Nat.le_of_ble_eq_true rfl)) d163 ⟨by show _ ≤ 400; omega, by show _ ≤ 600000; omega⟩) hS (fun q _ h => hFc q h) hFc (fun u ra t H19 locs1 ht hvm hw hB hz1 hk1 hS => ?_)
  obtain ⟨v19, c19, M19, f19⟩ := u
  obtain ⟨hq, hP1, hK1, hD1⟩ := hB
  dsimp only at hP1 hK1 hD1
  rw [ht] at hP1
  have hK1 := va_K.moved hvm.symm hK1
  have hU := hU.ap (l2 := [59]) 1 hw rfl (eb_f1 _) (by decide)
  have e9 : lx18.length + 1 = (lx18 ++ [59]).length := by rw [List.length_append]; rfl
  rw [e9] at hP1 hD1
  obtain ⟨hP, hD⟩ := va_join (wr := [(bo, .inl (cZ, 64, .inl (fun _ => 0)))]) (w1 := (eb_W b v19 c19 M19 f19 0 (lx18 ++ [59]).length)) hP hD [1, 2] [0] rfl rfl (by decide) (by decide) hk1 hFc hP1 hD1
  have hK := (hK.sub (tys' := [(cZ, .boolean)]) [0] rfl).app hK1
  obtain ⟨lx19, el19⟩ : ∃ z, z = lx18 ++ [59] := ⟨_, rfl⟩
  rw [← el19] at hP hD hU
  have hP : va_P D eb_cl (eb_V bo cZ (fun _ => 0) b v19 c19 M19 f19 lx19) H19 := hP
  have hD : va_D A (eb_V bo cZ (fun _ => 0) b v19 c19 M19 f19 lx19) := hD
  have hK : va_K D eb_cl [(cZ, .boolean), (c19, .byte)] s := hK
  have hU : eb_U lx19 (90) M19 f19 := hU
  rw [hq]
  refine lv_pop hx hb d166 rfl ?_
  refine lv_aload_n hx hb d167 rfl (lv_at hl 1 rfl) ?_
  refine lv_iconst (v := nI 0) hx hb d168 (by decide) ?_
  refine lv_iconst (v := nI 1) hx hb d169 (by decide) ?_
  have hwh : y1 * y2 ≤ 6 * 6 := Nat.mul_le_mul y1b y2b
  have hwh2 : 4 * 4 ≤ y1 * y2 := Nat.mul_le_mul y1a y2a
  refine va_zast hx hb hK hP hD hS 0 0 rfl rfl (vp_in_nI (show 0 < 64 by omega) (by decide)) d170 (fun HZ1 locsZ hP hD hS => ?_)
  rw [eb_zp (show 0 < 2 ^ 31 by omega)] at hP hD
  have hP : va_P D eb_cl (eb_V bo cZ (upd (fun _ => 0) (0) 1) b v19 c19 M19 f19 lx19) HZ1 := hP
  have hD : va_D A (eb_V bo cZ (upd (fun _ => 0) (0) 1) b v19 c19 M19 f19 lx19) := hD
  refine lv_aload_n hx hb d171 rfl (lv_at hl 1 rfl) ?_
  refine lv_iload_n hx hb d172 rfl (lv_at hl 3 rfl) ?_
  refine lv_iload_n hx hb d173 rfl (lv_at hl 2 rfl) ?_
  refine lv_imul hx hb d174 ?_
  refine lv_topi (fun y ey => ?_); obtain rfl : y = nI ((y1) * (y2)) := ey.trans (pk_mul (y1) (y2))
  refine lv_iconst (v := nI 1) hx hb d175 (by decide) ?_
  refine lv_isub hx hb d176 ?_
  refine lv_topi (fun y ey => ?_); obtain rfl : y = nI (((y1) * (y2)) - (1)) := ey.trans (pk_sub (a := (y1) * (y2)) (b := 1) (by omega))
  refine lv_iconst (v := nI 1) hx hb d177 (by decide) ?_
  refine va_zast hx hb hK hP hD hS 0 0 rfl rfl (vp_in_nI (show ((y1) * (y2)) - (1) < 64 by omega) (by decide)) d178 (fun HZ2 locsZ hP hD hS => ?_)
  rw [eb_zp (show ((y1) * (y2)) - (1) < 2 ^ 31 by omega)] at hP hD
  have hP : va_P D eb_cl (eb_V bo cZ (upd (upd (fun _ => 0) (0) 1) (((y1) * (y2)) - (1)) 1) b v19 c19 M19 f19 lx19) HZ2 := hP
  have hD : va_D A (eb_V bo cZ (upd (upd (fun _ => 0) (0) 1) (((y1) * (y2)) - (1)) 1) b v19 c19 M19 f19 lx19) := hD
  refine lv_aload_n hx hb d179 rfl (lv_at hl 4 rfl) ?_
  refine lv_bipush (v := nI 7) hx hb d180 (by decide) ?_
  refine lv_iconst (v := nI 0) hx hb d182 (by decide) ?_
  refine lv_bipush (v := nI 6) hx hb d183 (by decide) ?_
  refine va_calli (va_runS (As := [.ref b0, .int (nI (7)), .int (nI (0)), .int (nI (6))]) (rest := []) ⟨hx, hb, hml, hown, hts⟩ (eb_draw l D L xs b0 (by omega) (7) (0) (6) (by omega) (by omega) (by omega)) (va_cwS 4 hts (eb_gS eb_ok1 (eb_m (ev_gm (p := 13193) (by decide +kernel) rfl)) (eb_m (ev_gm (p := 13194) (by decide +kernel) rfl)) (eb_m (ev_ginit (by decide +kernel) rfl)) (eb_m (ev_gm (p := 13195) (by decide +kernel) rfl))) rfl rfl rfl (by decide +kernel) ⟨Nat.le_of_ble_eq_true rfl, Nat.le_of_ble_eq_true rfl⟩) ⟨fun a U g mk q => ⟨q.1, va_T.moved (u := U) (U := U.calling g mk a) (Vm.Alike.refl U.vm) q.2⟩, fun U hU hW => ⟨rfl, by show va_T _ _ _ _ _ U U.heap; rw [hU]; exact ((hX.2.1.kept hS.2.1).narrow (fun _ z => z.elim)).moved hW.alike⟩⟩ rfl rfl hl.1 rfl (lv_room (Nat.le_of_ble_eq_true rfl)) d185 ⟨by show _ ≤ 400; omega, by show _ ≤ 600000; omega⟩) hS (fun q _ h => h.elim) (fun q h => h.elim) (fun r u t Gy8 locs1 ht hvm hw hB hz1 hk1 hS => ?_)
  obtain ⟨y8, ey8⟩ : ∃ z : Nat, z = u := ⟨u, rfl⟩
  rw [← ey8] at hw
  obtain ⟨y8a, y8b, rfl⟩ := hw
  have hP := eb_keep hP hk1
  refine lv_istore hx hb d188 hl (by decide) rfl (fun ls hl => ?_)
  refine lv_iconst (v := nI 0) hx hb d190 (by decide) ?_
  refine lv_istore hx hb d191 hl (by decide) rfl (fun ls hl => ?_)
  have hG0 : eb_Gr y1 y2 [] (upd (upd (fun _ => 0) (0) 1) (((y1) * (y2)) - (1)) 1) := by
    intro c hc h0
    by_cases e1 : c = ((y1) * (y2)) - (1)
    · subst e1
      rw [eb_us] at h0
      exact absurd h0 (by decide)
    · rw [eb_un e1] at h0
      by_cases e2 : c = 0
      · subst e2
        rw [eb_us] at h0
        exact absurd h0 (by decide)
      · exact ⟨e2, e1, fun i hi => absurd hi (Nat.not_lt_zero i)⟩
  have et : lx19 = txt y1 y2 y3 y4 y5 y6 y7 (flP []) := by
    rw [el19, el18, el17, el16, el15, el14, el13, el12, el11, el10, el9, el8, el7, el6, el5, el4, el3, el2, el1, el0]
    unfold txt txB txP flP
    simp only [List.append_assoc, List.append_nil]
    rfl
  refine W.widen (k := 60 + 20 * 0) (n := 60000 + 30000 * 0) (by omega) (by omega) ?_
  exact eb_lp1 (l := l) (D := D) hL hx hb hml hr hown hts hlocks hA hX hY hA2 y1 y2 y3 y4 y5 y6 y7 bo b cZ ⟨y1a, by omega, y2a, by omega⟩ y1b y2b ⟨y3a, y3b⟩ ⟨y4a, y4b⟩ ⟨y5a, y5b⟩ y6b ⟨y7a, y7b⟩ y8 y8b y8 0 [] _ lx19 v19 c19 M19 f19 _ _ _ (by omega) (Nat.le_refl _) (fun i hi => absurd hi (Nat.not_lt_zero i)) hG0 et (hU.mono (by omega)) hP hD hS hK (lv_sub hl [0, 1, 2, 3, 4, 5, 6] rfl)
