theorem eb_l6 : ∀ k, k < 14 → k ≠ 6 ∧ k ≠ 7 ∧ k ≠ 9 ∧ k ≠ 10 → (eb_ll k).length ≤ 6 := by decide +kernel
theorem eb_f1 (c : Nat) : ∀ j, j < 1 → (fun _ : Nat => nI c) j = nI (([c] : List Nat).getD j 0) := fun j hj => by
  obtain rfl : j = 0 := by omega
  rfl
theorem eb_zp {f : Nat → Int32} {a : Nat} (ha : a < 2 ^ 31) : upd f (nI a).toNatClampNeg (vp_nar .boolean (nI 1)) = upd f a 1 := by
  rw [nI_clamp ha]
  exact congrArg (upd f a) (by decide)
theorem eb_kd : ∀ k, k ≤ 4 → eb_ll k = wd (6 + (k + 1)) := by decide
/-- a row of the board that says which cells are taken -/
def eb_Gr (Wd Hd : Nat) (ps : List (Nat × Nat × Nat × Nat)) (g : Nat → Int32) : Prop := ∀ c, c < 64 → g c = 0 → c ≠ 0 ∧ c ≠ Wd * Hd - 1 ∧ ∀ i, i < ps.length → pcl Wd (ps.getD i (0, 0, 0, 0)) ≠ c
theorem eb_Gr.st {Wd Hd : Nat} {ps : List (Nat × Nat × Nat × Nat)} {g : Nat → Int32} {q : Nat × Nat × Nat × Nat} (h : eb_Gr Wd Hd ps g) : eb_Gr Wd Hd (ps ++ [q]) (upd g (pcl Wd q) 1) := by
  intro c hc h0
  by_cases e : c = pcl Wd q
  · subst e
    rw [eb_us] at h0
    exact absurd h0 (by decide)
  · rw [eb_un e] at h0
    obtain ⟨a1, a2, a3⟩ := h c hc h0
    refine ⟨a1, a2, fun i hi => ?_⟩
    rw [List.length_append, List.length_cons, List.length_nil] at hi
    rw [gsn]
    by_cases hl : i < ps.length
    · rw [if_pos hl]
      exact a3 i hl
    · rw [if_neg hl, if_pos (by omega)]
      exact fun z => e z.symm
abbrev ye_setup : MethodName := ⟨"LanternChessLaw", "setup", "([I)Ljava/lang/String;"⟩
set_option maxHeartbeats 4000000 in
set_option maxRecDepth 100000 in
theorem eb_lp2 {l : Launch} {D : va_G} {L : Nat} {xs : Nat → Int32} {b0 : Nat} (hL : L ≤ 1000000) {av aw : Nat → Nat} {p : Program} {e : Env} {s : State} {m : MethodId} {below : List Frame} {meth : Method} {c : Code} {A : Nat → Prop} (hx : p.tables.exec = Jvm.exec) (hb : c.code = method_7_code) (hml : c.maxLocals = 9) (hr : meth.sig.returnType = (some (.object "java/lang/String"))) (hown : s.vm.findClass "LanternChessLaw" = some m.cls) (hts : ∀ w ∈ eb_gw, w.before #[Value.ref b0] s = true) (hlocks : meth.locks = false) (hA : ∀ q : Nat, s.heap.size ≤ q → A q) (hX : eb_X L xs b0 av aw A s s.heap) (hY : eb_Y av s) (hA2 : ∀ q, A q → s.heap.size ≤ q) : ∀ (Wd Hd a9 b9 p9 w9 t9 : Nat) (bo b : Nat) (cZ : ClassId), WH Wd Hd → Wd ≤ 6 → Hd ≤ 6 → (60 ≤ a9 ∧ a9 ≤ 900) → (60 ≤ b9 ∧ b9 ≤ 900) → (1 ≤ p9 ∧ p9 ≤ 3) → w9 ≤ 4 → (1 ≤ t9 ∧ t9 ≤ 4) → ∀ (ps : List (Nat × Nat × Nat × Nat)), okP Wd Hd ps → ps.length ≤ 6 → ∀ (F : Nat) (g : Nat → Int32), F ≤ 3 → ∀ (k i : Nat) (fs : List (Nat × Nat × Nat)) (lx0 : List Nat) (v0 : Nat) (c0 : ClassId) (M0 : Nat) (f0 : Nat → Int32) (H0 : Heap) (locs : List Loc) (ls : Array Slot), k + i = F → fs.length = i → okF fs → lx0 = txt Wd Hd a9 b9 p9 w9 t9 (flP ps ++ flF fs) → eb_U lx0 (220 + 16 * i) M0 f0 → va_P D eb_cl (eb_V bo cZ g b v0 c0 M0 f0 lx0) H0 → va_D A (eb_V bo cZ g b v0 c0 M0 f0 lx0) → va_S A s.heap H0 locs → va_K D eb_cl [(cZ, .boolean), (c0, .byte)] s → lv_has ls 9 [(7, .int (nI i)), (6, .int (nI F)), (4, .ref b), (0, .ref b0)] → W p l e (headSpec (Cond.code ye_setup method_7_code 9 (some (.object "java/lang/String")) :: eb_gw) { frames := 9, cells := 400, slots := 600000, locals := 270 }).room s m #[Value.ref b0] below meth c H0 locs (200 + 10 * i) (300000 + 15000 * i) (MQ below (va_Qr (fun (_ : Unit) => True) (fun _ q t => ∃ (v : Nat) (lx : List Nat), eb_OK lx ∧ eb_T (fun _ => False) lx.length (eb_fx lx) q v t t.heap ∧ s.heap.size ≤ q ∧ s.heap.size ≤ v) A) #[Value.ref b0] s 400 600000 A) (F0 m 351 ls []) := by
  have d351 : decode method_7_code 351 = .ok (.iload 7, 2) := by decide +kernel
  have d353 : decode method_7_code 353 = .ok (.iload 6, 2) := by decide +kernel
  have d355 : decode method_7_code 355 = .ok (.if_icmp .ge (89), 3) := by decide +kernel
  have d358 : decode method_7_code 358 = .ok (.aload 4, 2) := by decide +kernel
  have d360 : decode method_7_code 360 = .ok (.ldc 91, 2) := by decide +kernel
  have d362 : decode method_7_code 362 = .ok (.invokevirtual 72, 3) := by decide +kernel
  have d365 : decode method_7_code 365 = .ok (.bipush (100), 2) := by decide +kernel
  have d367 : decode method_7_code 367 = .ok (.iload 7, 2) := by decide +kernel
  have d369 : decode method_7_code 369 = .ok (.imul, 1) := by decide +kernel
  have d370 : decode method_7_code 370 = .ok (.aload_n 0, 1) := by decide +kernel
  have d371 : decode method_7_code 371 = .ok (.bipush (50), 2) := by decide +kernel
  have d373 : decode method_7_code 373 = .ok (.iconst 3, 1) := by decide +kernel
  have d374 : decode method_7_code 374 = .ok (.iload 7, 2) := by decide +kernel
  have d376 : decode method_7_code 376 = .ok (.imul, 1) := by decide +kernel
  have d377 : decode method_7_code 377 = .ok (.iadd, 1) := by decide +kernel
  have d378 : decode method_7_code 378 = .ok (.iconst 0, 1) := by decide +kernel
  have d379 : decode method_7_code 379 = .ok (.bipush (90), 2) := by decide +kernel
  have d381 : decode method_7_code 381 = .ok (.invokestatic 52, 3) := by decide +kernel
  have d384 : decode method_7_code 384 = .ok (.iadd, 1) := by decide +kernel
  have d385 : decode method_7_code 385 = .ok (.invokevirtual 63, 3) := by decide +kernel
  have d388 : decode method_7_code 388 = .ok (.bipush (32), 2) := by decide +kernel
  have d390 : decode method_7_code 390 = .ok (.invokevirtual 67, 3) := by decide +kernel
  have d393 : decode method_7_code 393 = .ok (.aload_n 0, 1) := by decide +kernel
  have d394 : decode method_7_code 394 = .ok (.bipush (51), 2) := by decide +kernel
  have d396 : decode method_7_code 396 = .ok (.iconst 3, 1) := by decide +kernel
  have d397 : decode method_7_code 397 = .ok (.iload 7, 2) := by decide +kernel
  have d399 : decode method_7_code 399 = .ok (.imul, 1) := by decide +kernel
  have d400 : decode method_7_code 400 = .ok (.iadd, 1) := by decide +kernel
  have d401 : decode method_7_code 401 = .ok (.iconst 1, 1) := by decide +kernel
  have d402 : decode method_7_code 402 = .ok (.bipush (40), 2) := by decide +kernel
  have d404 : decode method_7_code 404 = .ok (.invokestatic 52, 3) := by decide +kernel
  have d407 : decode method_7_code 407 = .ok (.invokevirtual 63, 3) := by decide +kernel
  have d410 : decode method_7_code 410 = .ok (.bipush (32), 2) := by decide +kernel
  have d412 : decode method_7_code 412 = .ok (.invokevirtual 67, 3) := by decide +kernel
  have d415 : decode method_7_code 415 = .ok (.aload_n 0, 1) := by decide +kernel
  have d416 : decode method_7_code 416 = .ok (.bipush (52), 2) := by decide +kernel
  have d418 : decode method_7_code 418 = .ok (.iconst 3, 1) := by decide +kernel
  have d419 : decode method_7_code 419 = .ok (.iload 7, 2) := by decide +kernel
  have d421 : decode method_7_code 421 = .ok (.imul, 1) := by decide +kernel
  have d422 : decode method_7_code 422 = .ok (.iadd, 1) := by decide +kernel
  have d423 : decode method_7_code 423 = .ok (.iconst 1, 1) := by decide +kernel
  have d424 : decode method_7_code 424 = .ok (.bipush (9), 2) := by decide +kernel
  have d426 : decode method_7_code 426 = .ok (.invokestatic 52, 3) := by decide +kernel
  have d429 : decode method_7_code 429 = .ok (.invokevirtual 63, 3) := by decide +kernel
  have d432 : decode method_7_code 432 = .ok (.bipush (59), 2) := by decide +kernel
  have d434 : decode method_7_code 434 = .ok (.invokevirtual 67, 3) := by decide +kernel
  have d437 : decode method_7_code 437 = .ok (.pop, 1) := by decide +kernel
  have d438 : decode method_7_code 438 = .ok (.iinc 7 (1), 3) := by decide +kernel
  have d441 : decode method_7_code 441 = .ok (.goto (-90), 3) := by decide +kernel
  have d444 : decode method_7_code 444 = .ok (.aload 4, 2) := by decide +kernel
  have d446 : decode method_7_code 446 = .ok (.invokevirtual 93, 3) := by decide +kernel
  have d449 : decode method_7_code 449 = .ok (.areturn, 1) := by decide +kernel
  intro Wd Hd a9 b9 p9 w9 t9 bo b cZ hWH hW6 hH6 ha9 hb9 hp9 hw9 ht9 ps hok hpl F g hF3 k
  induction k with
  | zero =>
    intro i fs lx0 v0 c0 M0 f0 H0 locs ls hki hfl hof hlx hU hP hD hS hK hl
    refine lv_iload hx hb d351 (lv_at hl 0 rfl) ?_
    refine lv_iload hx hb d353 (lv_at hl 1 rfl) ?_
    refine lv_icmp_ge (tgt := 444) hx hb d355 (by decide) (fun _ => ?_) (fun z => absurd (nI_le (by omega) (by omega)) z)
    refine lv_aload hx hb d444 (lv_at hl 2 rfl) ?_
    have hPc := hP.sub (ws' := (eb_W b v0 c0 M0 f0 0 lx0.length)) [1, 2] rfl
    have hDc := hD.sub (ws' := (eb_W b v0 c0 M0 f0 0 lx0.length)) [1, 2] (by decide) rfl
    have hKc := hK.sub (tys' := [(c0, .byte)]) [1] rfl
    have hFc := va_free (wc := (eb_W b v0 c0 M0 f0 0 lx0.length)) hD hS hA [1, 2] rfl
    refine va_callr (va_runV (As := []) (rest := []) ⟨hx, hb, hml, hown, hts⟩ (eb_toStr l D H0.size b v0 c0 M0 f0 0 lx0.length hU.2.2.1 (by have := hU.2.1; omega)) (cwV 0 hts (eb_gV eb_ok1 (eb_m (ev_gm (p := 15090) (by decide +kernel) rfl)) (eb_m (ev_gm (p := 15091) (by decide +kernel) rfl)) (eb_m (ev_gm (p := 15092) (by decide +kernel) rfl)) (eb_m (ev_ginit (by decide +kernel) rfl)) (eb_m (ev_gm (p := 15093) (by decide +kernel) rfl))) rfl rfl rfl (by decide +kernel) ⟨Nat.le_of_ble_eq_true rfl, Nat.le_of_ble_eq_true rfl⟩) ⟨fun a U g mk q => by obtain ⟨q0, q1, qP, qK, qD, qF⟩ := q; exact ⟨q0, q1, qP, va_K.moved (u := U) (U := U.calling g mk a) (Vm.Alike.refl U.vm) qK, qD, qF.1, va_Z.moved (u := U) (U := U.calling g mk a) (Vm.Alike.refl U.vm) qF.2.1, va_Nw.same rfl (u := U) rfl qF.2.2⟩, va_recv hK hP (ci := 0) (q0 := 1) rfl rfl, fun U hU9 hW => ⟨rfl, by rw [hU9], by rw [hU9]; exact hPc, va_K.moved hW.alike hKc, hDc.weaken (fun _ _ _ _ => trivial), hU.2.2.2.1, by show va_Z _ _ _ _ _ U U.heap; rw [hU9]; exact ((hX.2.2.2.kept hS.2.1).narrow hFc).moved hW.alike, va_Nw.warmC hW hY.2⟩⟩ rfl rfl hl.1 rfl (lv_room (Nat.le_of_ble_eq_true rfl)) d446 ⟨by show _ ≤ 400; omega, by show _ ≤ 600000; omega⟩) hS (fun q _ h => hFc q h) hFc (fun u ra t H1 locs1 ht hvm hw hB hz1 hk1 hS => ?_)
    obtain ⟨q1, c2, f2⟩ := u
    obtain ⟨hP1, hK1, hD1⟩ := hB
    dsimp only at hP1 hK1 hD1 hw
    rw [ht] at hP1
    have hK1 := va_K.moved hvm.symm hK1
    obtain ⟨t1, t2, t3, t4⟩ := eb_ofW (f2 := eb_fx lx0) hK1 hP1 (eb_sf hts (eb_m (ev_gm (p := 15140) (by decide +kernel) rfl))) (eb_sf hts (eb_m (ev_gm (p := 15138) (by decide +kernel) rfl))) (fun j hj => (hw j hj).trans (hU.2.2.2.2 j hj))
    have hT5 := ((hX.1 0 (by decide)).2.2.2.2.1.kept hS.2.1).narrow (B := fun _ => False) (fun _ z => z.elim)
    have hT6 := ((hX.1 0 (by decide)).2.2.2.2.2.kept hS.2.1).narrow (B := fun _ => False) (fun _ z => z.elim)
    have hok2 : eb_OK lx0 := ⟨Wd, Hd, a9, b9, p9, w9, t9, ps, fs, hlx, by have := hU.1; omega, hWH, ha9, hb9, hp9, hw9, ht9, hok, hpl, hof, by omega⟩
    refine W.widen (k := 400) (n := 600000) (by omega) (by omega) ?_
    exact W.aret hx hb hr (.inl ⟨_, rfl⟩) (.inr ⟨_, rfl⟩) (fun t9 ht9 hW => ⟨⟨(), ra, rfl, trivial, q1, lx0, hok2, by rw [ht9]; exact eb_T.moved hW.alike ⟨t1, t2, t3, t4, hT5, hT6⟩, hA2 _ (hFc _ (hD1.2 0 _ rfl)), hA2 _ (hFc _ (hD1.2 1 _ rfl))⟩, hS.F ht9⟩) hS.2.2 d449
  | succ k ih =>
    intro i fs lx0 v0 c0 M0 f0 H0 locs ls hki hfl hof hlx hU hP hD hS hK hl
    refine lv_iload hx hb d351 (lv_at hl 0 rfl) ?_
    refine lv_iload hx hb d353 (lv_at hl 1 rfl) ?_
    refine lv_icmp_ge (tgt := 444) hx hb d355 (by decide) (fun z => absurd z (nI_ge (by omega) (by omega))) (fun _ => ?_)
    refine lv_aload hx hb d358 (lv_at hl 2 rfl) ?_
    refine va_ldcS hx hb hown (hY.1 13 (by decide)) d360 ?_
    have hPc := hP.sub (ws' := (eb_W b v0 c0 M0 f0 0 lx0.length)) [1, 2] rfl
    have hDc := hD.sub (ws' := (eb_W b v0 c0 M0 f0 0 lx0.length)) [1, 2] (by decide) rfl
    have hKc := hK.sub (tys' := [(c0, .byte)]) [1] rfl
    have hFc := va_free (wc := (eb_W b v0 c0 M0 f0 0 lx0.length)) hD hS hA [1, 2] rfl
    refine va_callr (va_runV (As := [.ref (av 13)]) (rest := []) ⟨hx, hb, hml, hown, hts⟩ (eb_sappS l D H0.size b v0 c0 M0 f0 0 lx0.length (eb_ll 13).length (eb_fx (eb_ll 13)) (av 13) (aw 13) hU.2.1 hU.2.2.1 (by have := hU.1; show _ + 4 ≤ 300; omega)) (cwV 1 hts (eb_gV eb_ok1 (eb_m (ev_gm (p := 15074) (by decide +kernel) rfl)) (eb_m (ev_gm (p := 14168) (by decide +kernel) rfl)) (eb_m (ev_gm (p := 14169) (by decide +kernel) rfl)) (eb_m (ev_ginit (by decide +kernel) rfl)) (eb_m (ev_gm (p := 14170) (by decide +kernel) rfl))) rfl rfl rfl (by decide +kernel) ⟨Nat.le_of_ble_eq_true rfl, Nat.le_of_ble_eq_true rfl⟩) ⟨fun a U g mk q => by obtain ⟨q0, q1, qP, qK, qD, qF⟩ := q; exact ⟨q0, q1, qP, va_K.moved (u := U) (U := U.calling g mk a) (Vm.Alike.refl U.vm) qK, qD, eb_T.moved (u := U) (U := U.calling g mk a) (Vm.Alike.refl U.vm) qF.1, qF.2⟩, va_recv hK hP (ci := 0) (q0 := 1) rfl rfl, fun U hU9 hW => ⟨rfl, by rw [hU9], by rw [hU9]; exact hPc, va_K.moved hW.alike hKc, hDc.weaken (fun _ _ _ _ => trivial), by show eb_T _ _ _ _ _ U U.heap; rw [hU9]; exact (((hX.1 13 (by omega)).kept hS.2.1).narrow hFc).moved hW.alike, eb_fx_ft 13 (by omega), hU.2.2.2.1⟩⟩ rfl rfl hl.1 rfl (lv_room (Nat.le_of_ble_eq_true rfl)) d362 ⟨by show _ ≤ 400; omega, by show _ ≤ 600000; omega⟩) hS (fun q _ h => hFc q h) hFc (fun u ra t H1 locs1 ht hvm hw hB hz1 hk1 hS => ?_)
    obtain ⟨v1, c1, M1, f1⟩ := u
    obtain ⟨hq, hP1, hK1, hD1⟩ := hB
    dsimp only at hP1 hK1 hD1
    rw [ht] at hP1
    have hK1 := va_K.moved hvm.symm hK1
    have hU := hU.ap (l2 := (eb_ll 13)) 4 hw rfl (fun _ _ => rfl) (by decide)
    have e9 : lx0.length + (eb_ll 13).length = (lx0 ++ (eb_ll 13)).length := by rw [List.length_append]
    rw [e9] at hP1 hD1
    obtain ⟨hP, hD⟩ := va_join (wr := [(bo, .inl (cZ, 64, .inl g))]) (w1 := (eb_W b v1 c1 M1 f1 0 (lx0 ++ (eb_ll 13)).length)) hP hD [1, 2] [0] rfl rfl (by decide) (by decide) hk1 hFc hP1 hD1
    have hK := (hK.sub (tys' := [(cZ, .boolean)]) [0] rfl).app hK1
    obtain ⟨lx1, el1⟩ : ∃ z, z = lx0 ++ (eb_ll 13) := ⟨_, rfl⟩
    rw [← el1] at hP hD hU
    have hP : va_P D eb_cl (eb_V bo cZ g b v1 c1 M1 f1 lx1) H1 := hP
    have hD : va_D A (eb_V bo cZ g b v1 c1 M1 f1 lx1) := hD
    have hK : va_K D eb_cl [(cZ, .boolean), (c1, .byte)] s := hK
    have hU : eb_U lx1 (220 + 16 * i + 4) M1 f1 := hU
    rw [hq]
    refine lv_bipush (v := nI 100) hx hb d365 (by decide) ?_
    refine lv_iload hx hb d367 (lv_at hl 0 rfl) ?_
    refine lv_imul hx hb d369 ?_
    refine lv_topi (fun y ey => ?_); obtain rfl : y = nI ((100) * (i)) := ey.trans (pk_mul (100) (i))
    refine lv_aload_n hx hb d370 rfl (lv_at hl 3 rfl) ?_
    refine lv_bipush (v := nI 50) hx hb d371 (by decide) ?_
    refine lv_iconst (v := nI 3) hx hb d373 (by decide) ?_
    refine lv_iload hx hb d374 (lv_at hl 0 rfl) ?_
    refine lv_imul hx hb d376 ?_
    refine lv_topi (fun y ey => ?_); obtain rfl : y = nI ((3) * (i)) := ey.trans (pk_mul (3) (i))
    refine lv_iadd hx hb d377 ?_
    refine lv_topi (fun y ey => ?_); obtain rfl : y = nI ((50) + ((3) * (i))) := ey.trans (nI_add (50) ((3) * (i)))
    refine lv_iconst (v := nI 0) hx hb d378 (by decide) ?_
    refine lv_bipush (v := nI 90) hx hb d379 (by decide) ?_
    refine va_calli (va_runS (As := [.ref b0, .int (nI ((50) + ((3) * (i)))), .int (nI (0)), .int (nI (90))]) (rest := [.int (nI ((100) * (i))), .ref b]) ⟨hx, hb, hml, hown, hts⟩ (eb_draw l D L xs b0 (by omega) ((50) + ((3) * (i))) (0) (90) (by omega) (by omega) (by omega)) (va_cwS 4 hts (eb_gS eb_ok1 (eb_m (ev_gm (p := 13193) (by decide +kernel) rfl)) (eb_m (ev_gm (p := 13194) (by decide +kernel) rfl)) (eb_m (ev_ginit (by decide +kernel) rfl)) (eb_m (ev_gm (p := 13195) (by decide +kernel) rfl))) rfl rfl rfl (by decide +kernel) ⟨Nat.le_of_ble_eq_true rfl, Nat.le_of_ble_eq_true rfl⟩) ⟨fun a U g mk q => ⟨q.1, va_T.moved (u := U) (U := U.calling g mk a) (Vm.Alike.refl U.vm) q.2⟩, fun U hU hW => ⟨rfl, by show va_T _ _ _ _ _ U U.heap; rw [hU]; exact ((hX.2.1.kept hS.2.1).narrow (fun _ z => z.elim)).moved hW.alike⟩⟩ rfl rfl hl.1 rfl (lv_room (Nat.le_of_ble_eq_true rfl)) d381 ⟨by show _ ≤ 400; omega, by show _ ≤ 600000; omega⟩) hS (fun q _ h => h.elim) (fun q h => h.elim) (fun r u t Gy1 locs1 ht hvm hw hB hz1 hk1 hS => ?_)
    obtain ⟨y1, ey1⟩ : ∃ z : Nat, z = u := ⟨u, rfl⟩
    rw [← ey1] at hw
    obtain ⟨y1a, y1b, rfl⟩ := hw
    have hP := eb_keep hP hk1
    refine lv_iadd hx hb d384 ?_
    refine lv_topi (fun y ey => ?_); obtain rfl : y = nI (((100) * (i)) + (y1)) := ey.trans (nI_add ((100) * (i)) (y1))
    have hPc := hP.sub (ws' := (eb_W b v1 c1 M1 f1 0 lx1.length)) [1, 2] rfl
    have hDc := hD.sub (ws' := (eb_W b v1 c1 M1 f1 0 lx1.length)) [1, 2] (by decide) rfl
    have hKc := hK.sub (tys' := [(c1, .byte)]) [1] rfl
    have hFc := va_free (wc := (eb_W b v1 c1 M1 f1 0 lx1.length)) hD hS hA [1, 2] rfl
    refine va_callr (va_runV (As := [.int (nI (((100) * (i)) + (y1)))]) (rest := []) ⟨hx, hb, hml, hown, hts⟩ (eb_sappI l D Gy1.size b v1 c1 M1 f1 0 lx1.length (((100) * (i)) + (y1)) (by omega) hU.2.1 hU.2.2.1 (by have := hU.1; have := eb_sz3 (((100) * (i)) + (y1)); omega)) (cwV 1 hts (eb_gV eb_ok1 (eb_m (ev_gm (p := 15035) (by decide +kernel) rfl)) (eb_m (ev_gm (p := 15036) (by decide +kernel) rfl)) (eb_m (ev_gm (p := 15037) (by decide +kernel) rfl)) (eb_m (ev_ginit (by decide +kernel) rfl)) (eb_m (ev_gm (p := 15038) (by decide +kernel) rfl))) rfl rfl rfl (by decide +kernel) ⟨Nat.le_of_ble_eq_true rfl, Nat.le_of_ble_eq_true rfl⟩) ⟨fun a U g mk q => by obtain ⟨q0, q1, qP, qK, qD, qF⟩ := q; exact ⟨q0, q1, qP, va_K.moved (u := U) (U := U.calling g mk a) (Vm.Alike.refl U.vm) qK, qD, eb_I.moved (u := U) (U := U.calling g mk a) (Vm.Alike.refl U.vm) qF.1, va_Z.moved (u := U) (U := U.calling g mk a) (Vm.Alike.refl U.vm) qF.2.1, qF.2.2⟩, va_recv hK hP (ci := 0) (q0 := 1) rfl rfl, fun U hU9 hW => ⟨rfl, by rw [hU9], by rw [hU9]; exact hPc, va_K.moved hW.alike hKc, hDc.weaken (fun _ _ _ _ => trivial), by show eb_I _ U U.heap; rw [hU9]; exact ((hX.2.2.1.kept hS.2.1).narrow hFc).moved hW.alike, by show va_Z _ _ _ _ _ U U.heap; rw [hU9]; exact ((hX.2.2.2.kept hS.2.1).narrow hFc).moved hW.alike, hU.2.2.2.1⟩⟩ rfl rfl hl.1 rfl (lv_room (Nat.le_of_ble_eq_true rfl)) d385 ⟨by show _ ≤ 400; omega, by show _ ≤ 600000; omega⟩) hS (fun q _ h => hFc q h) hFc (fun u ra t H2 locs1 ht hvm hw hB hz1 hk1 hS => ?_)
    obtain ⟨v2, c2, M2, f2⟩ := u
    obtain ⟨hq, hP1, hK1, hD1⟩ := hB
    dsimp only at hP1 hK1 hD1
    rw [ht] at hP1
    have hK1 := va_K.moved hvm.symm hK1
    have hU := hU.ap (l2 := (dg (((100) * (i)) + (y1)))) 3 hw (eb_dl (by omega)) (fun _ _ => rfl) (eb_sz3 _)
    have e9 : lx1.length + (eb_sz (((100) * (i)) + (y1))) = (lx1 ++ (dg (((100) * (i)) + (y1)))).length := by rw [List.length_append, eb_dl (by omega)]
    rw [e9] at hP1 hD1
    obtain ⟨hP, hD⟩ := va_join (wr := [(bo, .inl (cZ, 64, .inl g))]) (w1 := (eb_W b v2 c2 M2 f2 0 (lx1 ++ (dg (((100) * (i)) + (y1)))).length)) hP hD [1, 2] [0] rfl rfl (by decide) (by decide) hk1 hFc hP1 hD1
    have hK := (hK.sub (tys' := [(cZ, .boolean)]) [0] rfl).app hK1
    obtain ⟨lx2, el2⟩ : ∃ z, z = lx1 ++ (dg (((100) * (i)) + (y1))) := ⟨_, rfl⟩
    rw [← el2] at hP hD hU
    have hP : va_P D eb_cl (eb_V bo cZ g b v2 c2 M2 f2 lx2) H2 := hP
    have hD : va_D A (eb_V bo cZ g b v2 c2 M2 f2 lx2) := hD
    have hK : va_K D eb_cl [(cZ, .boolean), (c2, .byte)] s := hK
    have hU : eb_U lx2 (220 + 16 * i + 7) M2 f2 := hU
    rw [hq]
    refine lv_bipush (v := nI 32) hx hb d388 (by decide) ?_
    have hPc := hP.sub (ws' := (eb_W b v2 c2 M2 f2 0 lx2.length)) [1, 2] rfl
    have hDc := hD.sub (ws' := (eb_W b v2 c2 M2 f2 0 lx2.length)) [1, 2] (by decide) rfl
    have hKc := hK.sub (tys' := [(c2, .byte)]) [1] rfl
    have hFc := va_free (wc := (eb_W b v2 c2 M2 f2 0 lx2.length)) hD hS hA [1, 2] rfl
    refine va_callr (va_runV (As := [.int (nI (32))]) (rest := []) ⟨hx, hb, hml, hown, hts⟩ (eb_sappC l D H2.size b v2 c2 M2 f2 0 lx2.length 32 (by decide) hU.2.1 hU.2.2.1 (by have := hU.1; omega)) (cwV 1 hts (eb_gV eb_ok1 (eb_m (ev_gm (p := 15060) (by decide +kernel) rfl)) (eb_m (ev_gm (p := 15061) (by decide +kernel) rfl)) (eb_m (ev_gm (p := 15062) (by decide +kernel) rfl)) (eb_m (ev_ginit (by decide +kernel) rfl)) (eb_m (ev_gm (p := 15063) (by decide +kernel) rfl))) rfl rfl rfl (by decide +kernel) ⟨Nat.le_of_ble_eq_true rfl, Nat.le_of_ble_eq_true rfl⟩) ⟨fun a U g mk q => by obtain ⟨q0, q1, qP, qK, qD, qF⟩ := q; exact ⟨q0, q1, qP, va_K.moved (u := U) (U := U.calling g mk a) (Vm.Alike.refl U.vm) qK, qD, va_Z.moved (u := U) (U := U.calling g mk a) (Vm.Alike.refl U.vm) qF.1, qF.2⟩, va_recv hK hP (ci := 0) (q0 := 1) rfl rfl, fun U hU9 hW => ⟨rfl, by rw [hU9], by rw [hU9]; exact hPc, va_K.moved hW.alike hKc, hDc.weaken (fun _ _ _ _ => trivial), by show va_Z _ _ _ _ _ U U.heap; rw [hU9]; exact ((hX.2.2.2.kept hS.2.1).narrow hFc).moved hW.alike, hU.2.2.2.1⟩⟩ rfl rfl hl.1 rfl (lv_room (Nat.le_of_ble_eq_true rfl)) d390 ⟨by show _ ≤ 400; omega, by show _ ≤ 600000; omega⟩) hS (fun q _ h => hFc q h) hFc (fun u ra t H3 locs1 ht hvm hw hB hz1 hk1 hS => ?_)
    obtain ⟨v3, c3, M3, f3⟩ := u
    obtain ⟨hq, hP1, hK1, hD1⟩ := hB
    dsimp only at hP1 hK1 hD1
    rw [ht] at hP1
    have hK1 := va_K.moved hvm.symm hK1
    have hU := hU.ap (l2 := [32]) 1 hw rfl (eb_f1 _) (by decide)
    have e9 : lx2.length + 1 = (lx2 ++ [32]).length := by rw [List.length_append]; rfl
    rw [e9] at hP1 hD1
    obtain ⟨hP, hD⟩ := va_join (wr := [(bo, .inl (cZ, 64, .inl g))]) (w1 := (eb_W b v3 c3 M3 f3 0 (lx2 ++ [32]).length)) hP hD [1, 2] [0] rfl rfl (by decide) (by decide) hk1 hFc hP1 hD1
    have hK := (hK.sub (tys' := [(cZ, .boolean)]) [0] rfl).app hK1
    obtain ⟨lx3, el3⟩ : ∃ z, z = lx2 ++ [32] := ⟨_, rfl⟩
    rw [← el3] at hP hD hU
    have hP : va_P D eb_cl (eb_V bo cZ g b v3 c3 M3 f3 lx3) H3 := hP
    have hD : va_D A (eb_V bo cZ g b v3 c3 M3 f3 lx3) := hD
    have hK : va_K D eb_cl [(cZ, .boolean), (c3, .byte)] s := hK
    have hU : eb_U lx3 (220 + 16 * i + 8) M3 f3 := hU
    rw [hq]
    refine lv_aload_n hx hb d393 rfl (lv_at hl 3 rfl) ?_
    refine lv_bipush (v := nI 51) hx hb d394 (by decide) ?_
    refine lv_iconst (v := nI 3) hx hb d396 (by decide) ?_
    refine lv_iload hx hb d397 (lv_at hl 0 rfl) ?_
    refine lv_imul hx hb d399 ?_
    refine lv_topi (fun y ey => ?_); obtain rfl : y = nI ((3) * (i)) := ey.trans (pk_mul (3) (i))
    refine lv_iadd hx hb d400 ?_
    refine lv_topi (fun y ey => ?_); obtain rfl : y = nI ((51) + ((3) * (i))) := ey.trans (nI_add (51) ((3) * (i)))
    refine lv_iconst (v := nI 1) hx hb d401 (by decide) ?_
    refine lv_bipush (v := nI 40) hx hb d402 (by decide) ?_
    refine va_calli (va_runS (As := [.ref b0, .int (nI ((51) + ((3) * (i)))), .int (nI (1)), .int (nI (40))]) (rest := [.ref b]) ⟨hx, hb, hml, hown, hts⟩ (eb_draw l D L xs b0 (by omega) ((51) + ((3) * (i))) (1) (40) (by omega) (by omega) (by omega)) (va_cwS 4 hts (eb_gS eb_ok1 (eb_m (ev_gm (p := 13193) (by decide +kernel) rfl)) (eb_m (ev_gm (p := 13194) (by decide +kernel) rfl)) (eb_m (ev_ginit (by decide +kernel) rfl)) (eb_m (ev_gm (p := 13195) (by decide +kernel) rfl))) rfl rfl rfl (by decide +kernel) ⟨Nat.le_of_ble_eq_true rfl, Nat.le_of_ble_eq_true rfl⟩) ⟨fun a U g mk q => ⟨q.1, va_T.moved (u := U) (U := U.calling g mk a) (Vm.Alike.refl U.vm) q.2⟩, fun U hU hW => ⟨rfl, by show va_T _ _ _ _ _ U U.heap; rw [hU]; exact ((hX.2.1.kept hS.2.1).narrow (fun _ z => z.elim)).moved hW.alike⟩⟩ rfl rfl hl.1 rfl (lv_room (Nat.le_of_ble_eq_true rfl)) d404 ⟨by show _ ≤ 400; omega, by show _ ≤ 600000; omega⟩) hS (fun q _ h => h.elim) (fun q h => h.elim) (fun r u t Gy2 locs1 ht hvm hw hB hz1 hk1 hS => ?_)
    obtain ⟨y2, ey2⟩ : ∃ z : Nat, z = u := ⟨u, rfl⟩
    rw [← ey2] at hw
    obtain ⟨y2a, y2b, rfl⟩ := hw
    have hP := eb_keep hP hk1
    have hPc := hP.sub (ws' := (eb_W b v3 c3 M3 f3 0 lx3.length)) [1, 2] rfl
    have hDc := hD.sub (ws' := (eb_W b v3 c3 M3 f3 0 lx3.length)) [1, 2] (by decide) rfl
    have hKc := hK.sub (tys' := [(c3, .byte)]) [1] rfl
    have hFc := va_free (wc := (eb_W b v3 c3 M3 f3 0 lx3.length)) hD hS hA [1, 2] rfl
    refine va_callr (va_runV (As := [.int (nI (y2))]) (rest := []) ⟨hx, hb, hml, hown, hts⟩ (eb_sappI l D Gy2.size b v3 c3 M3 f3 0 lx3.length (y2) (by omega) hU.2.1 hU.2.2.1 (by have := hU.1; have := eb_sz3 (y2); omega)) (cwV 1 hts (eb_gV eb_ok1 (eb_m (ev_gm (p := 15035) (by decide +kernel) rfl)) (eb_m (ev_gm (p := 15036) (by decide +kernel) rfl)) (eb_m (ev_gm (p := 15037) (by decide +kernel) rfl)) (eb_m (ev_ginit (by decide +kernel) rfl)) (eb_m (ev_gm (p := 15038) (by decide +kernel) rfl))) rfl rfl rfl (by decide +kernel) ⟨Nat.le_of_ble_eq_true rfl, Nat.le_of_ble_eq_true rfl⟩) ⟨fun a U g mk q => by obtain ⟨q0, q1, qP, qK, qD, qF⟩ := q; exact ⟨q0, q1, qP, va_K.moved (u := U) (U := U.calling g mk a) (Vm.Alike.refl U.vm) qK, qD, eb_I.moved (u := U) (U := U.calling g mk a) (Vm.Alike.refl U.vm) qF.1, va_Z.moved (u := U) (U := U.calling g mk a) (Vm.Alike.refl U.vm) qF.2.1, qF.2.2⟩, va_recv hK hP (ci := 0) (q0 := 1) rfl rfl, fun U hU9 hW => ⟨rfl, by rw [hU9], by rw [hU9]; exact hPc, va_K.moved hW.alike hKc, hDc.weaken (fun _ _ _ _ => trivial), by show eb_I _ U U.heap; rw [hU9]; exact ((hX.2.2.1.kept hS.2.1).narrow hFc).moved hW.alike, by show va_Z _ _ _ _ _ U U.heap; rw [hU9]; exact ((hX.2.2.2.kept hS.2.1).narrow hFc).moved hW.alike, hU.2.2.2.1⟩⟩ rfl rfl hl.1 rfl (lv_room (Nat.le_of_ble_eq_true rfl)) d407 ⟨by show _ ≤ 400; omega, by show _ ≤ 600000; omega⟩) hS (fun q _ h => hFc q h) hFc (fun u ra t H4 locs1 ht hvm hw hB hz1 hk1 hS => ?_)
    obtain ⟨v4, c4, M4, f4⟩ := u
    obtain ⟨hq, hP1, hK1, hD1⟩ := hB
    dsimp only at hP1 hK1 hD1
    rw [ht] at hP1
    have hK1 := va_K.moved hvm.symm hK1
    have hU := hU.ap (l2 := (dg (y2))) 3 hw (eb_dl (by omega)) (fun _ _ => rfl) (eb_sz3 _)
    have e9 : lx3.length + (eb_sz (y2)) = (lx3 ++ (dg (y2))).length := by rw [List.length_append, eb_dl (by omega)]
    rw [e9] at hP1 hD1
    obtain ⟨hP, hD⟩ := va_join (wr := [(bo, .inl (cZ, 64, .inl g))]) (w1 := (eb_W b v4 c4 M4 f4 0 (lx3 ++ (dg (y2))).length)) hP hD [1, 2] [0] rfl rfl (by decide) (by decide) hk1 hFc hP1 hD1
    have hK := (hK.sub (tys' := [(cZ, .boolean)]) [0] rfl).app hK1
    obtain ⟨lx4, el4⟩ : ∃ z, z = lx3 ++ (dg (y2)) := ⟨_, rfl⟩
    rw [← el4] at hP hD hU
    have hP : va_P D eb_cl (eb_V bo cZ g b v4 c4 M4 f4 lx4) H4 := hP
    have hD : va_D A (eb_V bo cZ g b v4 c4 M4 f4 lx4) := hD
    have hK : va_K D eb_cl [(cZ, .boolean), (c4, .byte)] s := hK
    have hU : eb_U lx4 (220 + 16 * i + 11) M4 f4 := hU
    rw [hq]
    refine lv_bipush (v := nI 32) hx hb d410 (by decide) ?_
    have hPc := hP.sub (ws' := (eb_W b v4 c4 M4 f4 0 lx4.length)) [1, 2] rfl
    have hDc := hD.sub (ws' := (eb_W b v4 c4 M4 f4 0 lx4.length)) [1, 2] (by decide) rfl
    have hKc := hK.sub (tys' := [(c4, .byte)]) [1] rfl
    have hFc := va_free (wc := (eb_W b v4 c4 M4 f4 0 lx4.length)) hD hS hA [1, 2] rfl
    refine va_callr (va_runV (As := [.int (nI (32))]) (rest := []) ⟨hx, hb, hml, hown, hts⟩ (eb_sappC l D H4.size b v4 c4 M4 f4 0 lx4.length 32 (by decide) hU.2.1 hU.2.2.1 (by have := hU.1; omega)) (cwV 1 hts (eb_gV eb_ok1 (eb_m (ev_gm (p := 15060) (by decide +kernel) rfl)) (eb_m (ev_gm (p := 15061) (by decide +kernel) rfl)) (eb_m (ev_gm (p := 15062) (by decide +kernel) rfl)) (eb_m (ev_ginit (by decide +kernel) rfl)) (eb_m (ev_gm (p := 15063) (by decide +kernel) rfl))) rfl rfl rfl (by decide +kernel) ⟨Nat.le_of_ble_eq_true rfl, Nat.le_of_ble_eq_true rfl⟩) ⟨fun a U g mk q => by obtain ⟨q0, q1, qP, qK, qD, qF⟩ := q; exact ⟨q0, q1, qP, va_K.moved (u := U) (U := U.calling g mk a) (Vm.Alike.refl U.vm) qK, qD, va_Z.moved (u := U) (U := U.calling g mk a) (Vm.Alike.refl U.vm) qF.1, qF.2⟩, va_recv hK hP (ci := 0) (q0 := 1) rfl rfl, fun U hU9 hW => ⟨rfl, by rw [hU9], by rw [hU9]; exact hPc, va_K.moved hW.alike hKc, hDc.weaken (fun _ _ _ _ => trivial), by show va_Z _ _ _ _ _ U U.heap; rw [hU9]; exact ((hX.2.2.2.kept hS.2.1).narrow hFc).moved hW.alike, hU.2.2.2.1⟩⟩ rfl rfl hl.1 rfl (lv_room (Nat.le_of_ble_eq_true rfl)) d412 ⟨by show _ ≤ 400; omega, by show _ ≤ 600000; omega⟩) hS (fun q _ h => hFc q h) hFc (fun u ra t H5 locs1 ht hvm hw hB hz1 hk1 hS => ?_)
    obtain ⟨v5, c5, M5, f5⟩ := u
    obtain ⟨hq, hP1, hK1, hD1⟩ := hB
    dsimp only at hP1 hK1 hD1
    rw [ht] at hP1
    have hK1 := va_K.moved hvm.symm hK1
    have hU := hU.ap (l2 := [32]) 1 hw rfl (eb_f1 _) (by decide)
    have e9 : lx4.length + 1 = (lx4 ++ [32]).length := by rw [List.length_append]; rfl
    rw [e9] at hP1 hD1
    obtain ⟨hP, hD⟩ := va_join (wr := [(bo, .inl (cZ, 64, .inl g))]) (w1 := (eb_W b v5 c5 M5 f5 0 (lx4 ++ [32]).length)) hP hD [1, 2] [0] rfl rfl (by decide) (by decide) hk1 hFc hP1 hD1
    have hK := (hK.sub (tys' := [(cZ, .boolean)]) [0] rfl).app hK1
    obtain ⟨lx5, el5⟩ : ∃ z, z = lx4 ++ [32] := ⟨_, rfl⟩
    rw [← el5] at hP hD hU
    have hP : va_P D eb_cl (eb_V bo cZ g b v5 c5 M5 f5 lx5) H5 := hP
    have hD : va_D A (eb_V bo cZ g b v5 c5 M5 f5 lx5) := hD
    have hK : va_K D eb_cl [(cZ, .boolean), (c5, .byte)] s := hK
    have hU : eb_U lx5 (220 + 16 * i + 12) M5 f5 := hU
    rw [hq]
    refine lv_aload_n hx hb d415 rfl (lv_at hl 3 rfl) ?_
    refine lv_bipush (v := nI 52) hx hb d416 (by decide) ?_
    refine lv_iconst (v := nI 3) hx hb d418 (by decide) ?_
    refine lv_iload hx hb d419 (lv_at hl 0 rfl) ?_
    refine lv_imul hx hb d421 ?_
    refine lv_topi (fun y ey => ?_); obtain rfl : y = nI ((3) * (i)) := ey.trans (pk_mul (3) (i))
    refine lv_iadd hx hb d422 ?_
    refine lv_topi (fun y ey => ?_); obtain rfl : y = nI ((52) + ((3) * (i))) := ey.trans (nI_add (52) ((3) * (i)))
    refine lv_iconst (v := nI 1) hx hb d423 (by decide) ?_
    refine lv_bipush (v := nI 9) hx hb d424 (by decide) ?_
    refine va_calli (va_runS (As := [.ref b0, .int (nI ((52) + ((3) * (i)))), .int (nI (1)), .int (nI (9))]) (rest := [.ref b]) ⟨hx, hb, hml, hown, hts⟩ (eb_draw l D L xs b0 (by omega) ((52) + ((3) * (i))) (1) (9) (by omega) (by omega) (by omega)) (va_cwS 4 hts (eb_gS eb_ok1 (eb_m (ev_gm (p := 13193) (by decide +kernel) rfl)) (eb_m (ev_gm (p := 13194) (by decide +kernel) rfl)) (eb_m (ev_ginit (by decide +kernel) rfl)) (eb_m (ev_gm (p := 13195) (by decide +kernel) rfl))) rfl rfl rfl (by decide +kernel) ⟨Nat.le_of_ble_eq_true rfl, Nat.le_of_ble_eq_true rfl⟩) ⟨fun a U g mk q => ⟨q.1, va_T.moved (u := U) (U := U.calling g mk a) (Vm.Alike.refl U.vm) q.2⟩, fun U hU hW => ⟨rfl, by show va_T _ _ _ _ _ U U.heap; rw [hU]; exact ((hX.2.1.kept hS.2.1).narrow (fun _ z => z.elim)).moved hW.alike⟩⟩ rfl rfl hl.1 rfl (lv_room (Nat.le_of_ble_eq_true rfl)) d426 ⟨by show _ ≤ 400; omega, by show _ ≤ 600000; omega⟩) hS (fun q _ h => h.elim) (fun q h => h.elim) (fun r u t Gy3 locs1 ht hvm hw hB hz1 hk1 hS => ?_)
    obtain ⟨y3, ey3⟩ : ∃ z : Nat, z = u := ⟨u, rfl⟩
    rw [← ey3] at hw
    obtain ⟨y3a, y3b, rfl⟩ := hw
    have hP := eb_keep hP hk1
    have hPc := hP.sub (ws' := (eb_W b v5 c5 M5 f5 0 lx5.length)) [1, 2] rfl
    have hDc := hD.sub (ws' := (eb_W b v5 c5 M5 f5 0 lx5.length)) [1, 2] (by decide) rfl
    have hKc := hK.sub (tys' := [(c5, .byte)]) [1] rfl
    have hFc := va_free (wc := (eb_W b v5 c5 M5 f5 0 lx5.length)) hD hS hA [1, 2] rfl
    refine va_callr (va_runV (As := [.int (nI (y3))]) (rest := []) ⟨hx, hb, hml, hown, hts⟩ (eb_sappI l D Gy3.size b v5 c5 M5 f5 0 lx5.length (y3) (by omega) hU.2.1 hU.2.2.1 (by have := hU.1; have := eb_sz3 (y3); omega)) (cwV 1 hts (eb_gV eb_ok1 (eb_m (ev_gm (p := 15035) (by decide +kernel) rfl)) (eb_m (ev_gm (p := 15036) (by decide +kernel) rfl)) (eb_m (ev_gm (p := 15037) (by decide +kernel) rfl)) (eb_m (ev_ginit (by decide +kernel) rfl)) (eb_m (ev_gm (p := 15038) (by decide +kernel) rfl))) rfl rfl rfl (by decide +kernel) ⟨Nat.le_of_ble_eq_true rfl, Nat.le_of_ble_eq_true rfl⟩) ⟨fun a U g mk q => by obtain ⟨q0, q1, qP, qK, qD, qF⟩ := q; exact ⟨q0, q1, qP, va_K.moved (u := U) (U := U.calling g mk a) (Vm.Alike.refl U.vm) qK, qD, eb_I.moved (u := U) (U := U.calling g mk a) (Vm.Alike.refl U.vm) qF.1, va_Z.moved (u := U) (U := U.calling g mk a) (Vm.Alike.refl U.vm) qF.2.1, qF.2.2⟩, va_recv hK hP (ci := 0) (q0 := 1) rfl rfl, fun U hU9 hW => ⟨rfl, by rw [hU9], by rw [hU9]; exact hPc, va_K.moved hW.alike hKc, hDc.weaken (fun _ _ _ _ => trivial), by show eb_I _ U U.heap; rw [hU9]; exact ((hX.2.2.1.kept hS.2.1).narrow hFc).moved hW.alike, by show va_Z _ _ _ _ _ U U.heap; rw [hU9]; exact ((hX.2.2.2.kept hS.2.1).narrow hFc).moved hW.alike, hU.2.2.2.1⟩⟩ rfl rfl hl.1 rfl (lv_room (Nat.le_of_ble_eq_true rfl)) d429 ⟨by show _ ≤ 400; omega, by show _ ≤ 600000; omega⟩) hS (fun q _ h => hFc q h) hFc (fun u ra t H6 locs1 ht hvm hw hB hz1 hk1 hS => ?_)
    obtain ⟨v6, c6, M6, f6⟩ := u
    obtain ⟨hq, hP1, hK1, hD1⟩ := hB
    dsimp only at hP1 hK1 hD1
    rw [ht] at hP1
    have hK1 := va_K.moved hvm.symm hK1
    have hU := hU.ap (l2 := (dg (y3))) 3 hw (eb_dl (by omega)) (fun _ _ => rfl) (eb_sz3 _)
    have e9 : lx5.length + (eb_sz (y3)) = (lx5 ++ (dg (y3))).length := by rw [List.length_append, eb_dl (by omega)]
    rw [e9] at hP1 hD1
    obtain ⟨hP, hD⟩ := va_join (wr := [(bo, .inl (cZ, 64, .inl g))]) (w1 := (eb_W b v6 c6 M6 f6 0 (lx5 ++ (dg (y3))).length)) hP hD [1, 2] [0] rfl rfl (by decide) (by decide) hk1 hFc hP1 hD1
    have hK := (hK.sub (tys' := [(cZ, .boolean)]) [0] rfl).app hK1
    obtain ⟨lx6, el6⟩ : ∃ z, z = lx5 ++ (dg (y3)) := ⟨_, rfl⟩
    rw [← el6] at hP hD hU
    have hP : va_P D eb_cl (eb_V bo cZ g b v6 c6 M6 f6 lx6) H6 := hP
    have hD : va_D A (eb_V bo cZ g b v6 c6 M6 f6 lx6) := hD
    have hK : va_K D eb_cl [(cZ, .boolean), (c6, .byte)] s := hK
    have hU : eb_U lx6 (220 + 16 * i + 15) M6 f6 := hU
    rw [hq]
    refine lv_bipush (v := nI 59) hx hb d432 (by decide) ?_
    have hPc := hP.sub (ws' := (eb_W b v6 c6 M6 f6 0 lx6.length)) [1, 2] rfl
    have hDc := hD.sub (ws' := (eb_W b v6 c6 M6 f6 0 lx6.length)) [1, 2] (by decide) rfl
    have hKc := hK.sub (tys' := [(c6, .byte)]) [1] rfl
    have hFc := va_free (wc := (eb_W b v6 c6 M6 f6 0 lx6.length)) hD hS hA [1, 2] rfl
    refine va_callr (va_runV (As := [.int (nI (59))]) (rest := []) ⟨hx, hb, hml, hown, hts⟩ (eb_sappC l D H6.size b v6 c6 M6 f6 0 lx6.length 59 (by decide) hU.2.1 hU.2.2.1 (by have := hU.1; omega)) (cwV 1 hts (eb_gV eb_ok1 (eb_m (ev_gm (p := 15060) (by decide +kernel) rfl)) (eb_m (ev_gm (p := 15061) (by decide +kernel) rfl)) (eb_m (ev_gm (p := 15062) (by decide +kernel) rfl)) (eb_m (ev_ginit (by decide +kernel) rfl)) (eb_m (ev_gm (p := 15063) (by decide +kernel) rfl))) rfl rfl rfl (by decide +kernel) ⟨Nat.le_of_ble_eq_true rfl, Nat.le_of_ble_eq_true rfl⟩) ⟨fun a U g mk q => by obtain ⟨q0, q1, qP, qK, qD, qF⟩ := q; exact ⟨q0, q1, qP, va_K.moved (u := U) (U := U.calling g mk a) (Vm.Alike.refl U.vm) qK, qD, va_Z.moved (u := U) (U := U.calling g mk a) (Vm.Alike.refl U.vm) qF.1, qF.2⟩, va_recv hK hP (ci := 0) (q0 := 1) rfl rfl, fun U hU9 hW => ⟨rfl, by rw [hU9], by rw [hU9]; exact hPc, va_K.moved hW.alike hKc, hDc.weaken (fun _ _ _ _ => trivial), by show va_Z _ _ _ _ _ U U.heap; rw [hU9]; exact ((hX.2.2.2.kept hS.2.1).narrow hFc).moved hW.alike, hU.2.2.2.1⟩⟩ rfl rfl hl.1 rfl (lv_room (Nat.le_of_ble_eq_true rfl)) d434 ⟨by show _ ≤ 400; omega, by show _ ≤ 600000; omega⟩) hS (fun q _ h => hFc q h) hFc (fun u ra t H7 locs1 ht hvm hw hB hz1 hk1 hS => ?_)
    obtain ⟨v7, c7, M7, f7⟩ := u
    obtain ⟨hq, hP1, hK1, hD1⟩ := hB
    dsimp only at hP1 hK1 hD1
    rw [ht] at hP1
    have hK1 := va_K.moved hvm.symm hK1
    have hU := hU.ap (l2 := [59]) 1 hw rfl (eb_f1 _) (by decide)
    have e9 : lx6.length + 1 = (lx6 ++ [59]).length := by rw [List.length_append]; rfl
    rw [e9] at hP1 hD1
    obtain ⟨hP, hD⟩ := va_join (wr := [(bo, .inl (cZ, 64, .inl g))]) (w1 := (eb_W b v7 c7 M7 f7 0 (lx6 ++ [59]).length)) hP hD [1, 2] [0] rfl rfl (by decide) (by decide) hk1 hFc hP1 hD1
    have hK := (hK.sub (tys' := [(cZ, .boolean)]) [0] rfl).app hK1
    obtain ⟨lx7, el7⟩ : ∃ z, z = lx6 ++ [59] := ⟨_, rfl⟩
    rw [← el7] at hP hD hU
    have hP : va_P D eb_cl (eb_V bo cZ g b v7 c7 M7 f7 lx7) H7 := hP
    have hD : va_D A (eb_V bo cZ g b v7 c7 M7 f7 lx7) := hD
    have hK : va_K D eb_cl [(cZ, .boolean), (c7, .byte)] s := hK
    have hU : eb_U lx7 (220 + 16 * i + 16) M7 f7 := hU
    rw [hq]
    refine lv_pop hx hb d437 rfl ?_
    refine lv_iinc hx hb d438 hl (k := 0) rfl (v := nI (i + 1)) (nI_add i 1) (by decide) rfl (fun ls hl => ?_)
    refine lv_goto (tgt := 351) hx hb d441 (by decide) ?_
    have et : lx7 = txt Wd Hd a9 b9 p9 w9 t9 (flP ps ++ flF (fs ++ [((100) * (i) + (y1), y2, y3)])) := by
      rw [flF_s, ← List.append_assoc, txt_ap, ← hlx, el7, el6, el5, el4, el3, el2, el1]
      simp only [txF, List.append_assoc]
      rfl
    refine W.widen (k := 200 + 10 * (i + 1)) (n := 300000 + 15000 * (i + 1)) (by omega) (by omega) ?_
    exact ih (i + 1) (fs ++ [((100) * (i) + (y1), y2, y3)]) lx7 v7 c7 M7 f7 _ _ _ (by omega) (by rw [List.length_append]; simp only [List.length_cons, List.length_nil]; omega) (okF_s hof ⟨by dsimp only; omega, by dsimp only; omega⟩ ⟨by dsimp only; omega, by dsimp only; omega⟩ (by dsimp only; omega) (by dsimp only; omega)) et (hU.mono (by omega)) hP hD hS hK hl
