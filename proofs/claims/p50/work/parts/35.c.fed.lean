/-! fed: the whole text, twenty letters at a time. -/
theorem eb_Ppre {D : va_G} {cl : List vw_C} {ws : va_W} {x : Nat × va_E} {H : Heap} (h : va_P D cl (ws ++ [x]) H) : va_P D cl ws H := fun k q hk => h k q (by
  rw [List.getElem?_append_left (List.getElem?_eq_some_iff.mp hk).1]
  exact hk)
theorem eb_sl20 {st : List Value} (h : ∀ v ∈ st, ∃ x : Int32, v = .int x) : ev_sl 249 (.ref 20 :: st) := fun v hv b hb => by
  rcases List.mem_cons.mp hv with rfl | hv
  · cases hb
    decide
  · obtain ⟨x, rfl⟩ := h v hv
    cases hb
theorem eb_l120 : ev_ml 120 = 6 := by decide +kernel
theorem eb_l121 : ev_ml 121 = 2 := by decide +kernel
theorem eb_l122 : ev_ml 122 = 1 := by decide +kernel
/-- the words that fed packs -/
def eb_xs (y : Nat → Nat) (t : Nat) (j : Nat) : Int32 := zI ((acc (fun k => y (t + 4 * j + k)) 4 : Nat) : Int)
theorem eb_X20 {y : Nat → Nat} (t : Nat) (hy : ∀ i, y i < 128) : ∀ i, i < 20 → bx (eb_xs y t (i / 4)) (24 - 8 * (i % 4)) = zI ((y (t + i) : Nat) : Int) := by
  intro i hi
  have h := acc_b (c := fun k => y (t + 4 * (i / 4) + k)) (fun _ _ => hy _) (i := i % 4) (by omega)
  (try dsimp only at h)
  unfold eb_xs
  rw [h, show t + 4 * (i / 4) + i % 4 = t + i by omega]
set_option maxHeartbeats 4000000 in
set_option maxRecDepth 100000 in
theorem eb_fo {l : Launch} {p : Program} {e : Env} {R : Room} {s : State} {m : MethodId} {args : Array Value} {below : List Frame} {meth : Method} {c : Code} {Q : State → Prop} {A : Nat → Prop} {D : va_G} (hx : p.tables.exec = Jvm.exec) (hb : c.code = method_4_code) (hml : c.maxLocals = 5) (hown : s.vm.findClass "LanternChessLaw" = some m.cls) (hts : ∀ w ∈ eb_gw, w.before args s = true) (hst : l.stackTraces = false) {L : Nat} {xs : Nat → Int32} {cA : Nat → ClassId} {m0 : Mm} {ad : Nat → Nat} {N : Nat} {fx : Nat → Int32} {y : Nat → Nat} {a w : Nat} (hT : eb_T A N fx a w s s.heap) (hk9 : ev_tbg N fx) (hN : N ≤ 300) (hy : ∀ i, y i < 128) (hy1 : ∀ i, i < N → fx i = nI (y i)) (hy2 : ∀ i, N ≤ i → y i = 32) (hRf : 4 ≤ R.frames) (hRl : 85 ≤ R.locals) (hRc : 15 ≤ R.cells) (hRs : 75 ≤ R.slots) (hEnd : ∀ (m1 : Mm) (ad1 : Nat → Nat) (H : Heap) (locs : List Loc) (ls : Array Slot), Bf m0 m1 y N → (∀ b, b < 249 → ad1 b = ad b) → ev_I L xs D cA A s ad1 (249, mem L 249 m1) H locs → W p l e R s m args below meth c H locs 15 75 Q (F0 m 109 ls [])) : ∀ (j i : Nat), i + j = 15 → ∀ (m1 : Mm) (ad1 : Nat → Nat) (H : Heap) (locs : List Loc) (ls : Array Slot), Bf m0 m1 y (20 * i) → (∀ b, b < 249 → ad1 b = ad b) → ev_I L xs D cA A s ad1 (249, mem L 249 m1) H locs → lv_has ls 5 [(2, .int (nI (20 * i))), (1, .ref a), (0, .ref (ad 20))] → W p l e R s m args below meth c H locs i (5 * i) Q (F0 m 2 ls []) := by
  have d2 : decode method_4_code 2 = .ok (.iload_n 2, 1) := by decide +kernel
  have d3 : decode method_4_code 3 = .ok (.aload_n 1, 1) := by decide +kernel
  have d4 : decode method_4_code 4 = .ok (.invokevirtual 15, 3) := by decide +kernel
  have d7 : decode method_4_code 7 = .ok (.if_icmp .ge (93), 3) := by decide +kernel
  have d10 : decode method_4_code 10 = .ok (.iconst 5, 1) := by decide +kernel
  have d11 : decode method_4_code 11 = .ok (.newarray .int, 2) := by decide +kernel
  have d13 : decode method_4_code 13 = .ok (.astore_n 3, 1) := by decide +kernel
  have d14 : decode method_4_code 14 = .ok (.iconst 0, 1) := by decide +kernel
  have d15 : decode method_4_code 15 = .ok (.istore 4, 2) := by decide +kernel
  have d74 : decode method_4_code 74 = .ok (.aload_n 0, 1) := by decide +kernel
  have d75 : decode method_4_code 75 = .ok (.aload_n 3, 1) := by decide +kernel
  have d76 : decode method_4_code 76 = .ok (.iconst 0, 1) := by decide +kernel
  have d77 : decode method_4_code 77 = .ok (.iaload, 1) := by decide +kernel
  have d78 : decode method_4_code 78 = .ok (.aload_n 3, 1) := by decide +kernel
  have d79 : decode method_4_code 79 = .ok (.iconst 1, 1) := by decide +kernel
  have d80 : decode method_4_code 80 = .ok (.iaload, 1) := by decide +kernel
  have d81 : decode method_4_code 81 = .ok (.aload_n 3, 1) := by decide +kernel
  have d82 : decode method_4_code 82 = .ok (.iconst 2, 1) := by decide +kernel
  have d83 : decode method_4_code 83 = .ok (.iaload, 1) := by decide +kernel
  have d84 : decode method_4_code 84 = .ok (.aload_n 3, 1) := by decide +kernel
  have d85 : decode method_4_code 85 = .ok (.iconst 3, 1) := by decide +kernel
  have d86 : decode method_4_code 86 = .ok (.iaload, 1) := by decide +kernel
  have d87 : decode method_4_code 87 = .ok (.aload_n 3, 1) := by decide +kernel
  have d88 : decode method_4_code 88 = .ok (.iconst 4, 1) := by decide +kernel
  have d89 : decode method_4_code 89 = .ok (.iaload, 1) := by decide +kernel
  have d90 : decode method_4_code 90 = .ok (.invokevirtual 25, 3) := by decide +kernel
  have d93 : decode method_4_code 93 = .ok (.pop, 1) := by decide +kernel
  have d94 : decode method_4_code 94 = .ok (.iinc 2 (20), 3) := by decide +kernel
  have d97 : decode method_4_code 97 = .ok (.goto (-95), 3) := by decide +kernel
  have d100 : decode method_4_code 100 = .ok (.aload_n 0, 1) := by decide +kernel
  have d101 : decode method_4_code 101 = .ok (.aload_n 1, 1) := by decide +kernel
  have d102 : decode method_4_code 102 = .ok (.invokevirtual 15, 3) := by decide +kernel
  have d105 : decode method_4_code 105 = .ok (.invokevirtual 31, 3) := by decide +kernel
  have d108 : decode method_4_code 108 = .ok (.pop, 1) := by decide +kernel
  have fin : ∀ (i : Nat) (m1 : Mm) (ad1 : Nat → Nat) (H : Heap) (locs : List Loc) (ls : Array Slot), i ≤ 15 → N ≤ 20 * i → Bf m0 m1 y (20 * i) → (∀ b, b < 249 → ad1 b = ad b) → ev_I L xs D cA A s ad1 (249, mem L 249 m1) H locs → lv_has ls 5 [(2, .int (nI (20 * i))), (1, .ref a), (0, .ref (ad 20))] → W p l e R s m args below meth c H locs i (5 * i) Q (F0 m 100 ls []) := by
    intro i m1 ad1 H locs ls hi hNi hB hag hI hl
    refine lv_aload_n hx hb d100 rfl (lv_at hl 2 rfl) ?_
    refine lv_aload_n hx hb d101 rfl (lv_at hl 1 rfl) ?_
    have hS := hI.2.2.2.2.2.1
    refine va_calli (va_runV (As := []) (rest := [.ref (ad 20)]) ⟨hx, hb, hml, hown, hts⟩ (ej_length l N fx a w) (cwV 0 hts (eb_gV eb_ok2 (eb_m (ev_gm (p := 13207) (by decide +kernel) rfl)) (eb_m (ev_gm (p := 13208) (by decide +kernel) rfl)) (eb_m (ev_gm (p := 13209) (by decide +kernel) rfl)) (eb_m (ev_ginit (by decide +kernel) rfl)) (eb_m (ev_gm (p := 13210) (by decide +kernel) rfl))) rfl rfl rfl (by decide +kernel) ⟨Nat.le_trans (Nat.le_of_ble_eq_true rfl) hRf, Nat.le_trans (Nat.le_of_ble_eq_true rfl) hRl⟩) ⟨fun a U g mk q => ⟨q.1, ev_Js.moved (Vm.Alike.refl U.vm) q.2.1, q.2.2⟩, va_Orecv hT.1 hS, fun U hU hW => ⟨rfl, by show ev_Js N fx _ w U U.heap; rw [hU]; exact (hT.kept hS.2.1).js.moved hW.alike, by omega⟩⟩ rfl rfl hl.1 rfl (lv_room (Nat.le_of_ble_eq_true rfl)) d102 ⟨by show i ≤ _; omega, by show 5 * i ≤ _; omega⟩) hS (fun q _ h => h.elim) (fun q h => h.elim) (fun r u t9 H1 locs1 ht hvm hw hB9 hz1 hk1 hS => ?_)
    have hw : r = nI N := hw
    subst hw
    have hI := eb_Ikeep hI (fun q h => hk1 q h (fun z => z)) hS
    rw [show nI N = zI ((N : Nat) : Int) from zI_on N, ← hag 20 (by decide)]
    obtain ⟨q, e9, hq⟩ := a121 hB (by omega) hNi
    have hr9 := t_121 (L := L) (nx := 249) (by decide) (b := 0) (z := 0) (m := m1) (a0 := 20) ⟨by decide +kernel, by decide⟩ q e9
    have hM9 := eb_met hst (M := 121) (v := some (.int (bi q.1))) (μ := (249, mem L 249 m1)) (μ1 := (249, mem L 249 q.2)) (av := [.ref 20, .int (zI ((N : Nat) : Int))]) ad1 L xs D cA H1.size (by decide) (by decide) eb_E121 (by unfold ev_en; rw [eb_l121]; exact hr9) (eb_sl20 (fun v hv => by simp only [List.mem_cons, List.not_mem_nil, or_false] at hv; exact ⟨_, hv⟩)) (by rw [eb_l121]; exact Nat.le_of_ble_eq_true rfl)
    refine eb_back (va_runV (b := ad1 20) (As := ([.int (zI ((N : Nat) : Int))] : List Value).map (ev_v ad1)) (rest := []) ⟨hx, hb, hml, hown, hts⟩ hM9 (cwV 1 hts (eb_gV eb_ok2 (eb_m (ev_gm (p := 14027) (by decide +kernel) rfl)) (eb_m (ev_gm (p := 14028) (by decide +kernel) rfl)) (eb_m (ev_gm (p := 14029) (by decide +kernel) rfl)) (eb_m (ev_ginit (by decide +kernel) rfl)) (eb_m (ev_gm (p := 14030) (by decide +kernel) rfl))) rfl rfl rfl (by decide +kernel) ⟨Nat.le_trans (Nat.le_of_ble_eq_true rfl) hRf, Nat.le_trans (Nat.le_of_ble_eq_true rfl) hRl⟩) ⟨ev_Pc_blind, eb_rcv hI, fun U hU hW => ev_pre hI hU hW⟩ rfl rfl hl.1 rfl (lv_room (Nat.le_of_ble_eq_true rfl)) d105 ⟨by show i ≤ _; omega, by show 5 * i ≤ _; omega⟩) hI (fun ad2 H2 locs2 hag2 hI => ?_)
    change W p l e R s m args below meth c H2 locs2 _ _ _ (F0 m 108 ls [.int (bi q.1)])
    refine lv_pop hx hb d108 rfl ?_
    refine W.widen (k := 15) (n := 75) (by show i ≤ _; omega) (by show 5 * i ≤ _; omega) ?_
    exact hEnd q.2 ad2 _ _ _ hq (fun b hb => (hag2 b hb).trans (hag b hb)) hI
  intro j
  induction j with
  | zero =>
    intro i hi m1 ad1 H locs ls hB hag hI hl
    refine lv_iload_n hx hb d2 rfl (lv_at hl 0 rfl) ?_
    refine lv_aload_n hx hb d3 rfl (lv_at hl 1 rfl) ?_
    have hS := hI.2.2.2.2.2.1
    refine va_calli (va_runV (As := []) (rest := [.int (nI (20 * i))]) ⟨hx, hb, hml, hown, hts⟩ (ej_length l N fx a w) (cwV 0 hts (eb_gV eb_ok2 (eb_m (ev_gm (p := 13207) (by decide +kernel) rfl)) (eb_m (ev_gm (p := 13208) (by decide +kernel) rfl)) (eb_m (ev_gm (p := 13209) (by decide +kernel) rfl)) (eb_m (ev_ginit (by decide +kernel) rfl)) (eb_m (ev_gm (p := 13210) (by decide +kernel) rfl))) rfl rfl rfl (by decide +kernel) ⟨Nat.le_trans (Nat.le_of_ble_eq_true rfl) hRf, Nat.le_trans (Nat.le_of_ble_eq_true rfl) hRl⟩) ⟨fun a U g mk q => ⟨q.1, ev_Js.moved (Vm.Alike.refl U.vm) q.2.1, q.2.2⟩, va_Orecv hT.1 hS, fun U hU hW => ⟨rfl, by show ev_Js N fx _ w U U.heap; rw [hU]; exact (hT.kept hS.2.1).js.moved hW.alike, by omega⟩⟩ rfl rfl hl.1 rfl (lv_room (Nat.le_of_ble_eq_true rfl)) d4 ⟨by show i ≤ _; omega, by show 5 * i ≤ _; omega⟩) hS (fun q _ h => h.elim) (fun q h => h.elim) (fun r u t9 H1 locs1 ht hvm hw hB9 hz1 hk1 hS => ?_)
    have hw : r = nI N := hw
    subst hw
    have hI := eb_Ikeep hI (fun q h => hk1 q h (fun z => z)) hS
    refine lv_icmp_ge (tgt := 100) hx hb d7 (by decide) (fun _ => ?_) (fun z => absurd (nI_le (by omega) (by omega)) z)
    exact fin i m1 ad1 _ _ _ (by omega) (by omega) hB hag hI hl
  | succ j ih =>
    intro i hi m1 ad1 H locs ls hB hag hI hl
    refine lv_iload_n hx hb d2 rfl (lv_at hl 0 rfl) ?_
    refine lv_aload_n hx hb d3 rfl (lv_at hl 1 rfl) ?_
    have hS := hI.2.2.2.2.2.1
    refine va_calli (va_runV (As := []) (rest := [.int (nI (20 * i))]) ⟨hx, hb, hml, hown, hts⟩ (ej_length l N fx a w) (cwV 0 hts (eb_gV eb_ok2 (eb_m (ev_gm (p := 13207) (by decide +kernel) rfl)) (eb_m (ev_gm (p := 13208) (by decide +kernel) rfl)) (eb_m (ev_gm (p := 13209) (by decide +kernel) rfl)) (eb_m (ev_ginit (by decide +kernel) rfl)) (eb_m (ev_gm (p := 13210) (by decide +kernel) rfl))) rfl rfl rfl (by decide +kernel) ⟨Nat.le_trans (Nat.le_of_ble_eq_true rfl) hRf, Nat.le_trans (Nat.le_of_ble_eq_true rfl) hRl⟩) ⟨fun a U g mk q => ⟨q.1, ev_Js.moved (Vm.Alike.refl U.vm) q.2.1, q.2.2⟩, va_Orecv hT.1 hS, fun U hU hW => ⟨rfl, by show ev_Js N fx _ w U U.heap; rw [hU]; exact (hT.kept hS.2.1).js.moved hW.alike, by omega⟩⟩ rfl rfl hl.1 rfl (lv_room (Nat.le_of_ble_eq_true rfl)) d4 ⟨by show i ≤ _; omega, by show 5 * i ≤ _; omega⟩) hS (fun q _ h => h.elim) (fun q h => h.elim) (fun r u t9 H1 locs1 ht hvm hw hB9 hz1 hk1 hS => ?_)
    have hw : r = nI N := hw
    subst hw
    have hI := eb_Ikeep hI (fun q h => hk1 q h (fun z => z)) hS
    by_cases q9 : N ≤ 20 * i
    · refine lv_icmp_ge (tgt := 100) hx hb d7 (by decide) (fun _ => ?_) (fun z => absurd (nI_le q9 (by omega)) z)
      exact fin i m1 ad1 _ _ _ (by omega) q9 hB hag hI hl
    refine lv_icmp_ge (tgt := 100) hx hb d7 (by decide) (fun z => absurd z (nI_ge (by omega) (by omega))) (fun _ => ?_)
    refine lv_iconst (v := nI 5) hx hb d10 (by decide) ?_
    obtain ⟨i1, i2, i3, i4, i5, i6, i7, i8, i9⟩ := hI
    refine va_newa (atype := .int) (ty := .int) hx hb (hts _ (eb_m (ev_gm (p := 11112) (by decide +kernel) rfl))) rfl i3 i4 i5 i6 i7 (a0 := (5, .inl (fun _ => 0))) (fun cA => rfl) (nI_pos (by decide)) (nI_clamp (by decide)) (by decide) (by show i + 1 ≤ _; omega) (by show 5 * i + 5 ≤ _; omega) d11 (fun ar cI H2 hK hP hD hS => ?_)
    refine lv_astore_n hx hb d13 rfl hl (by decide) rfl (fun ls hl => ?_)
    refine lv_iconst (v := nI 0) hx hb d14 (by decide) ?_
    refine lv_istore hx hb d15 hl (by decide) rfl (fun ls hl => ?_)
    refine eb_fi (l := l) (p := p) (e := e) (R := R) (m := m) (below := below) (meth := meth) (Q := Q) (D := D) hx hb hml hown hts (cl := ev_cl) (ws0 := ev_ws ad1 cA (249, mem L 249 m1)) (tys0 := ev_tys cA) (y := y) (g := ad 20) (t := 20 * i) (cells := i + 1) (slots := 5 * i + 5) hT hk9 hN hy hy1 hy2 hK (by omega) hRf hRl ⟨by omega, by omega⟩ 20 0 rfl (fun _ => 0) H2 _ ls (fun v _ => ?_) hP hD hS (lv_sub hl [0, 1, 2, 3, 4] rfl) (fun F H3 locs3 ls hF hP hD hS hl => ?_)
    · rw [show min 4 (0 - 4 * v) = 0 by omega]
      rfl
    refine lv_aload_n hx hb d74 rfl (lv_at hl 3 rfl) ?_
    refine lv_aload_n hx hb d75 rfl (lv_at hl 0 rfl) ?_
    refine lv_iconst (v := nI 0) hx hb d76 (by decide) ?_
    refine va_iald hx hb hK hP (ev_ws ad1 cA (249, mem L 249 m1)).length (ev_tys cA).length List.getElem?_concat_length List.getElem?_concat_length (vp_in_nI (show 0 < 5 by decide) (by decide)) d77 ?_
    rw [nI_clamp (show 0 < 2 ^ 31 by decide), show F 0 = eb_xs y (20 * i) 0 from hF 0 (by decide)]
    refine lv_aload_n hx hb d78 rfl (lv_at hl 0 rfl) ?_
    refine lv_iconst (v := nI 1) hx hb d79 (by decide) ?_
    refine va_iald hx hb hK hP (ev_ws ad1 cA (249, mem L 249 m1)).length (ev_tys cA).length List.getElem?_concat_length List.getElem?_concat_length (vp_in_nI (show 1 < 5 by decide) (by decide)) d80 ?_
    rw [nI_clamp (show 1 < 2 ^ 31 by decide), show F 1 = eb_xs y (20 * i) 1 from hF 1 (by decide)]
    refine lv_aload_n hx hb d81 rfl (lv_at hl 0 rfl) ?_
    refine lv_iconst (v := nI 2) hx hb d82 (by decide) ?_
    refine va_iald hx hb hK hP (ev_ws ad1 cA (249, mem L 249 m1)).length (ev_tys cA).length List.getElem?_concat_length List.getElem?_concat_length (vp_in_nI (show 2 < 5 by decide) (by decide)) d83 ?_
    rw [nI_clamp (show 2 < 2 ^ 31 by decide), show F 2 = eb_xs y (20 * i) 2 from hF 2 (by decide)]
    refine lv_aload_n hx hb d84 rfl (lv_at hl 0 rfl) ?_
    refine lv_iconst (v := nI 3) hx hb d85 (by decide) ?_
    refine va_iald hx hb hK hP (ev_ws ad1 cA (249, mem L 249 m1)).length (ev_tys cA).length List.getElem?_concat_length List.getElem?_concat_length (vp_in_nI (show 3 < 5 by decide) (by decide)) d86 ?_
    rw [nI_clamp (show 3 < 2 ^ 31 by decide), show F 3 = eb_xs y (20 * i) 3 from hF 3 (by decide)]
    refine lv_aload_n hx hb d87 rfl (lv_at hl 0 rfl) ?_
    refine lv_iconst (v := nI 4) hx hb d88 (by decide) ?_
    refine va_iald hx hb hK hP (ev_ws ad1 cA (249, mem L 249 m1)).length (ev_tys cA).length List.getElem?_concat_length List.getElem?_concat_length (vp_in_nI (show 4 < 5 by decide) (by decide)) d89 ?_
    rw [nI_clamp (show 4 < 2 ^ 31 by decide), show F 4 = eb_xs y (20 * i) 4 from hF 4 (by decide)]
    have hI : ev_I L xs D cA A s ad1 (249, mem L 249 m1) H3 locs3 := ⟨i1, i2, i3, eb_Ppre hP, i5, hS, i7, i8, i9⟩
    obtain ⟨q, e9, hq⟩ := a120 (X := eb_xs y (20 * i)) hB (by omega) (eb_X20 (20 * i) hy)
    rw [← hag 20 (by decide)]
    have hr9 := t_120 (L := L) (nx := 249) (by decide) (b := 0) (z := 0) (m := m1) (a0 := 20) ⟨by decide +kernel, by decide⟩ q e9
    have hM9 := eb_met hst (M := 120) (v := some (.int q.1)) (μ := (249, mem L 249 m1)) (μ1 := (249, mem L 249 q.2)) (av := [.ref 20, .int (eb_xs y (20 * i) 0), .int (eb_xs y (20 * i) 1), .int (eb_xs y (20 * i) 2), .int (eb_xs y (20 * i) 3), .int (eb_xs y (20 * i) 4)]) ad1 L xs D cA H3.size (by decide) (by decide) eb_E120 (by unfold ev_en; rw [eb_l120]; exact hr9) (eb_sl20 (fun v hv => by simp only [List.mem_cons, List.not_mem_nil, or_false] at hv; rcases hv with rfl | rfl | rfl | rfl | rfl <;> exact ⟨_, rfl⟩)) (by rw [eb_l120]; exact Nat.le_of_ble_eq_true rfl)
    refine eb_back (va_runV (b := ad1 20) (As := ([.int (eb_xs y (20 * i) 0), .int (eb_xs y (20 * i) 1), .int (eb_xs y (20 * i) 2), .int (eb_xs y (20 * i) 3), .int (eb_xs y (20 * i) 4)] : List Value).map (ev_v ad1)) (rest := []) ⟨hx, hb, hml, hown, hts⟩ hM9 (cwV 5 hts (eb_gV eb_ok2 (eb_m (ev_gm (p := 14015) (by decide +kernel) rfl)) (eb_m (ev_gm (p := 14016) (by decide +kernel) rfl)) (eb_m (ev_gm (p := 14017) (by decide +kernel) rfl)) (eb_m (ev_ginit (by decide +kernel) rfl)) (eb_m (ev_gm (p := 14018) (by decide +kernel) rfl))) rfl rfl rfl (by decide +kernel) ⟨Nat.le_trans (Nat.le_of_ble_eq_true rfl) hRf, Nat.le_trans (Nat.le_of_ble_eq_true rfl) hRl⟩) ⟨ev_Pc_blind, eb_rcv hI, fun U hU hW => ev_pre hI hU hW⟩ rfl rfl hl.1 rfl (lv_room (Nat.le_of_ble_eq_true rfl)) d90 ⟨by show i + 1 ≤ _; omega, by show 5 * i + 5 ≤ _; omega⟩) hI (fun ad2 H4 locs4 hag2 hI => ?_)
    change W p l e R s m args below meth c H4 locs4 _ _ _ (F0 m 93 ls [.int q.1])
    refine lv_pop hx hb d93 rfl ?_
    refine lv_iinc hx hb d94 hl (k := 1) rfl (v := nI (20 * i + 20)) (nI_add (20 * i) 20) (by decide) rfl (fun ls hl => ?_)
    refine lv_goto (tgt := 2) hx hb d97 (by decide) ?_
    have hB2 := hq.2
    rw [show 20 * i + 20 = 20 * (i + 1) by omega] at hB2 hl
    refine W.widen (k := i + 1) (n := 5 * (i + 1)) (by show i + 1 ≤ _; omega) (by show 5 * i + 5 ≤ _; omega) ?_
    exact ih (i + 1) (by omega) q.2 ad2 _ _ _ hB2 (fun b hb => (hag2 b hb).trans (hag b hb)) hI (lv_sub hl [0, 2, 3] rfl)
