/-! loaded. -/
theorem eb_Iblind {L : Nat} {xs : Nat → Int32} {D : va_G} {cA : Nat → ClassId} {A : Nat → Prop} {U : State} {ad : Nat → Nat} {μ : ev_H} (h : ev_I L xs D cA A U ad μ U.heap []) (g : JFrame) (mk : MethodId) (a : Array Value) : ev_I L xs D cA A (U.calling g mk a) ad μ (U.calling g mk a).heap [] := by
  obtain ⟨h1, h2, h3, h4, h5, h6, h7, h8, h9⟩ := h
  exact ⟨h1, h2, h3.moved (u := U) (U := U.calling g mk a) (Vm.Alike.refl U.vm), h4, h5, h6, h7, h8.moved (u := U) (U := U.calling g mk a) (Vm.Alike.refl U.vm), h9.warm (U := U.calling g mk a) (State.WarmedH.refl U)⟩
set_option maxHeartbeats 4000000 in
set_option maxRecDepth 100000 in
theorem eb_loaded (l : Launch) (hst : l.stackTraces = false) (D : va_G) (sz L : Nat) (xs : Nat → Int32) (cA : Nat → ClassId) (m0 : Mm) (ad : Nat → Nat) (N : Nat) (fx : Nat → Int32) (y : Nat → Nat) (a w : Nat) (hk9 : ev_tbg N fx) (hN : N ≤ 300) (hy : ∀ i, y i < 128) (hy1 : ∀ i, i < N → fx i = nI (y i)) (hy2 : ∀ i, N ≤ i → y i = 32) (hm0 : m0 21 1 = zI 0) (P : Int32 × Mm → Prop) (hP : ∀ m1 : Mm, Bf m0 m1 y N → ∃ q, d_122 20 m1 = some q ∧ P q) : Met l ye_loaded (Cond.code ye_loaded method_5_code 2 (some (.int)) :: eb_gw) ({ frames := 13, cells := 15, slots := 75, locals := 315 }) (va_Pc [.ref (ad 20), .ref a] (fun U => U.heap.size = sz ∧ ev_I L xs D cA (va_A (ev_ws ad cA (249, mem L 249 m0)) sz) U ad (249, mem L 249 m0) U.heap [] ∧ eb_T (va_A (ev_ws ad cA (249, mem L 249 m0)) sz) N fx a w U U.heap)) (va_Qi (fun (r : Int32) (u : Mm × (Nat → Nat)) => P (r, u.1)) (fun u t => ev_Jn L xs D cA (va_A (ev_ws ad cA (249, mem L 249 m0)) sz) ad u.2 249 (249, mem L 249 u.1) t) (va_A (ev_ws ad cA (249, mem L 249 m0)) sz)) 15 75 (va_A (ev_ws ad cA (249, mem L 249 m0)) sz) := by
  refine Met.ofW (cc := method_5_code) (maxL := 2) (ret := (some (.int))) (by decide) rfl ?_
  intro p e s m args below meth c s₁ B hml hv
  obtain ⟨rfl, hsz, hI, hT⟩ := hv
  have hx := B.exec
  have hb := B.bytes
  have hr := B.returns
  have hts0 := atoms_spec (ws := Cond.code ye_loaded method_5_code 2 (some (.int)) :: eb_gw) B.pre
  have hts : ∀ w ∈ eb_gw, w.before _ s = true := fun w hw => hts0 w (List.mem_cons_of_mem _ hw)
  have hown : s.vm.findClass "LanternChessLaw" = some m.cls := findClass_of_methodNamed B.named
  have hlocks := B.notSynchronized
  subst hsz
  have hl := lv_entry ([.ref (ad 20), .ref a]) (n := 2) (Nat.le_of_ble_eq_true rfl)
  rw [lg_entry_eq]
  generalize (lg_sl ([.ref (ad 20), .ref a]) ++ List.replicate (2 - (lg_sl ([.ref (ad 20), .ref a])).length) Slot.unset).toArray = ls at hl ⊢
  have hl : lv_has ls 2 [(0, .ref (ad 20)), (1, .ref a)] := hl
  have d0 : decode method_5_code 0 = .ok (.aload_n 0, 1) := by decide +kernel
  have d1 : decode method_5_code 1 = .ok (.aload_n 1, 1) := by decide +kernel
  have d2 : decode method_5_code 2 = .ok (.invokestatic 35, 3) := by decide +kernel
  have d5 : decode method_5_code 5 = .ok (.aload_n 0, 1) := by decide +kernel
  have d6 : decode method_5_code 6 = .ok (.invokevirtual 39, 3) := by decide +kernel
  have d9 : decode method_5_code 9 = .ok (.ireturn, 1) := by decide +kernel
  refine lv_aload_n hx hb d0 rfl (lv_at hl 0 rfl) ?_
  refine lv_aload_n hx hb d1 rfl (lv_at hl 1 rfl) ?_
  have hS := hI.2.2.2.2.2.1
  refine va_callv (va_runS (As := [.ref (ad 20), .ref a]) (rest := []) ⟨hx, hb, hml, hown, hts⟩ (eb_fed l hst D s.heap.size L xs cA m0 ad N fx y a w hk9 hN hy hy1 hy2 hm0) (va_cwS 2 hts (eb_gS eb_ok1 (eb_m (ev_gm (p := 13204) (by decide +kernel) rfl)) (eb_m (ev_gm (p := 13205) (by decide +kernel) rfl)) (eb_m (ev_ginit (by decide +kernel) rfl)) (eb_m (ev_gm (p := 13206) (by decide +kernel) rfl))) rfl rfl rfl (by decide +kernel) ⟨Nat.le_of_ble_eq_true rfl, Nat.le_of_ble_eq_true rfl⟩) ⟨fun a U g mk q => ⟨q.1, q.2.1, eb_Iblind q.2.2.1 g mk a, eb_T.moved (u := U) (U := U.calling g mk a) (Vm.Alike.refl U.vm) q.2.2.2⟩, fun U hU hW => ⟨rfl, by rw [hU], (ev_pre (av := []) hI hU hW).2.2, by rw [hU]; exact hT.moved hW.alike⟩⟩ rfl rfl hl.1 rfl (lv_room (Nat.le_of_ble_eq_true rfl)) d2 ⟨Nat.le_of_ble_eq_true rfl, Nat.le_of_ble_eq_true rfl⟩) hS (fun q _ h => h) (fun q h => h) (fun u t9 H1 locs1 ht hvm hw hB hz1 hk1 hS => ?_)
  obtain ⟨m1, ad1⟩ := u
  have hw : Bf m0 m1 y N := hw
  have hag : ∀ b, b < 249 → ad1 b = ad b := hB.1
  have hI := eb_jn hI hB ht hS
  dsimp only at hI
  obtain ⟨q, e9, hq⟩ := hP m1 hw
  have hl : lv_has ls 2 [(0, .ref (ad1 20)), (1, .ref a)] := by rw [hag 20 (by decide)]; exact hl
  refine lv_aload_n hx hb d5 rfl (lv_at hl 0 rfl) ?_
  have hr9 := t_122 (L := L) (nx := 249) (by decide) (b := 0) (z := 0) (m := m1) (a0 := 20) ⟨by decide +kernel, by decide⟩ q e9
  have hM9 := eb_met hst (M := 122) (v := some (.int q.1)) (μ := (249, mem L 249 m1)) (μ1 := (249, mem L 249 q.2)) (av := [.ref 20]) ad1 L xs D cA H1.size (by decide) (by decide) eb_E122 (by unfold ev_en; rw [eb_l122]; exact hr9) (eb_sl20 (fun v hv => by exact nomatch hv)) (by rw [eb_l122]; exact Nat.le_of_ble_eq_true rfl)
  refine eb_back (va_runV (b := ad1 20) (As := ([] : List Value).map (ev_v ad1)) (rest := []) ⟨hx, hb, hml, hown, hts⟩ hM9 (cwV 0 hts (eb_gV eb_ok2 (eb_m (ev_gm (p := 14031) (by decide +kernel) rfl)) (eb_m (ev_gm (p := 14032) (by decide +kernel) rfl)) (eb_m (ev_gm (p := 14033) (by decide +kernel) rfl)) (eb_m (ev_ginit (by decide +kernel) rfl)) (eb_m (ev_gm (p := 14034) (by decide +kernel) rfl))) rfl rfl rfl (by decide +kernel) ⟨Nat.le_of_ble_eq_true rfl, Nat.le_of_ble_eq_true rfl⟩) ⟨ev_Pc_blind, eb_rcv hI, fun U hU hW => ev_pre hI hU hW⟩ rfl rfl hl.1 rfl (lv_room (Nat.le_of_ble_eq_true rfl)) d6 ⟨Nat.le_of_ble_eq_true rfl, Nat.le_of_ble_eq_true rfl⟩) hI (fun ad2 H2 locs2 hag2 hI => ?_)
  change W p l e _ s m _ below meth c H2 locs2 _ _ _ (F0 m 9 ls [.int q.1])
  exact W.iret hx hb hr (fun t ht hW => ⟨⟨q.1, (q.2, ad2), rfl, hq, ⟨fun b hb => (hag2 b hb).trans (hag b hb), Nat.le_refl _, hI.1, hI.2.1, by rw [ht]; exact hI.2.2.2.1, hI.2.2.2.2.1⟩⟩, hI.2.2.2.2.2.1.F ht⟩) hI.2.2.2.2.2.1.2.2 d9
