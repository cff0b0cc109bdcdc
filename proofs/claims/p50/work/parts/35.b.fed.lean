/-! fed: twenty letters packed into five words. -/
set_option maxHeartbeats 4000000 in
set_option maxRecDepth 100000 in
theorem eb_fi {l : Launch} {p : Program} {e : Env} {R : Room} {s : State} {m : MethodId} {args : Array Value} {below : List Frame} {meth : Method} {c : Code} {Q : State → Prop} {A : Nat → Prop} {D : va_G} (hx : p.tables.exec = Jvm.exec) (hb : c.code = method_4_code) (hml : c.maxLocals = 5) (hown : s.vm.findClass "LanternChessLaw" = some m.cls) (hts : ∀ w ∈ eb_gw, w.before args s = true) {cl : List vw_C} {ws0 : va_W} {tys0 : List (ClassId × FieldType)} {N : Nat} {fx : Nat → Int32} {y : Nat → Nat} {a w g ar t cells slots : Nat} {cI : ClassId} (hT : eb_T A N fx a w s s.heap) (hk9 : ev_tbg N fx) (hN : N ≤ 300) (hy : ∀ i, y i < 128) (hy1 : ∀ i, i < N → fx i = nI (y i)) (hy2 : ∀ i, N ≤ i → y i = 32) (hK : va_K D cl (tys0 ++ [(cI, .int)]) s) (ht3 : t ≤ 300) (hRf : 4 ≤ R.frames) (hRl : 85 ≤ R.locals) (hcs : cells ≤ R.cells ∧ slots ≤ R.slots) : ∀ (j k : Nat), k + j = 20 → ∀ (F : Nat → Int32) (H : Heap) (locs : List Loc) (ls : Array Slot), (∀ v, v < 5 → F v = zI ((acc (fun i => y (t + 4 * v + i)) (min 4 (k - 4 * v)) : Nat) : Int)) → va_P D cl (ws0 ++ [(ar, .inl (cI, 5, .inl F))]) H → va_D A (ws0 ++ [(ar, .inl (cI, 5, .inl F))]) → va_S A s.heap H locs → lv_has ls 5 [(4, .int (nI k)), (3, .ref ar), (2, .int (nI t)), (1, .ref a), (0, .ref g)] → (∀ (F : Nat → Int32) (H : Heap) (locs : List Loc) (ls : Array Slot), (∀ v, v < 5 → F v = zI ((acc (fun i => y (t + 4 * v + i)) 4 : Nat) : Int)) → va_P D cl (ws0 ++ [(ar, .inl (cI, 5, .inl F))]) H → va_D A (ws0 ++ [(ar, .inl (cI, 5, .inl F))]) → va_S A s.heap H locs → lv_has ls 5 [(3, .ref ar), (2, .int (nI t)), (1, .ref a), (0, .ref g)] → W p l e R s m args below meth c H locs cells slots Q (F0 m 74 ls [])) → W p l e R s m args below meth c H locs cells slots Q (F0 m 17 ls []) := by
  have d17 : decode method_4_code 17 = .ok (.iload 4, 2) := by decide +kernel
  have d19 : decode method_4_code 19 = .ok (.bipush (20), 2) := by decide +kernel
  have d21 : decode method_4_code 21 = .ok (.if_icmp .ge (53), 3) := by decide +kernel
  have d24 : decode method_4_code 24 = .ok (.aload_n 3, 1) := by decide +kernel
  have d25 : decode method_4_code 25 = .ok (.iload 4, 2) := by decide +kernel
  have d27 : decode method_4_code 27 = .ok (.iconst 4, 1) := by decide +kernel
  have d28 : decode method_4_code 28 = .ok (.idiv, 1) := by decide +kernel
  have d29 : decode method_4_code 29 = .ok (.dup2, 1) := by decide +kernel
  have d30 : decode method_4_code 30 = .ok (.iaload, 1) := by decide +kernel
  have d31 : decode method_4_code 31 = .ok (.iload_n 2, 1) := by decide +kernel
  have d32 : decode method_4_code 32 = .ok (.iload 4, 2) := by decide +kernel
  have d34 : decode method_4_code 34 = .ok (.iadd, 1) := by decide +kernel
  have d35 : decode method_4_code 35 = .ok (.aload_n 1, 1) := by decide +kernel
  have d36 : decode method_4_code 36 = .ok (.invokevirtual 15, 3) := by decide +kernel
  have d39 : decode method_4_code 39 = .ok (.if_icmp .ge (14), 3) := by decide +kernel
  have d42 : decode method_4_code 42 = .ok (.aload_n 1, 1) := by decide +kernel
  have d43 : decode method_4_code 43 = .ok (.iload_n 2, 1) := by decide +kernel
  have d44 : decode method_4_code 44 = .ok (.iload 4, 2) := by decide +kernel
  have d46 : decode method_4_code 46 = .ok (.iadd, 1) := by decide +kernel
  have d47 : decode method_4_code 47 = .ok (.invokevirtual 21, 3) := by decide +kernel
  have d50 : decode method_4_code 50 = .ok (.goto (5), 3) := by decide +kernel
  have d53 : decode method_4_code 53 = .ok (.bipush (32), 2) := by decide +kernel
  have d55 : decode method_4_code 55 = .ok (.bipush (24), 2) := by decide +kernel
  have d57 : decode method_4_code 57 = .ok (.bipush (8), 2) := by decide +kernel
  have d59 : decode method_4_code 59 = .ok (.iload 4, 2) := by decide +kernel
  have d61 : decode method_4_code 61 = .ok (.iconst 4, 1) := by decide +kernel
  have d62 : decode method_4_code 62 = .ok (.irem, 1) := by decide +kernel
  have d63 : decode method_4_code 63 = .ok (.imul, 1) := by decide +kernel
  have d64 : decode method_4_code 64 = .ok (.isub, 1) := by decide +kernel
  have d65 : decode method_4_code 65 = .ok (.ishl, 1) := by decide +kernel
  have d66 : decode method_4_code 66 = .ok (.ior, 1) := by decide +kernel
  have d67 : decode method_4_code 67 = .ok (.iastore, 1) := by decide +kernel
  have d68 : decode method_4_code 68 = .ok (.iinc 4 (1), 3) := by decide +kernel
  have d71 : decode method_4_code 71 = .ok (.goto (-54), 3) := by decide +kernel
  have hq0 : ∀ F : Nat → Int32, (ws0 ++ [(ar, .inl (cI, 5, .inl F))])[ws0.length]? = some (ar, .inl (cI, 5, .inl F)) := fun F => List.getElem?_concat_length
  have ht0 : (tys0 ++ [(cI, FieldType.int)])[tys0.length]? = some (cI, FieldType.int) := List.getElem?_concat_length
  intro j
  induction j with
  | zero =>
    intro k hk F H locs ls hF hP hD hS hl hZ
    obtain rfl : k = 20 := by omega
    refine lv_iload hx hb d17 (lv_at hl 0 rfl) ?_
    refine lv_bipush (v := nI 20) hx hb d19 (by decide) ?_
    refine lv_icmp_ge (tgt := 74) hx hb d21 (by decide) (fun _ => ?_) (fun z => absurd (nI_le (by omega) (by omega)) z)
    exact hZ F H locs ls (fun w hw => (hF w hw).trans (by rw [show min 4 (20 - 4 * w) = 4 by omega])) hP hD hS (lv_sub hl [1, 2, 3, 4] rfl)
  | succ j ih =>
    intro k hk F H locs ls hF hP hD hS hl hZ
    refine lv_iload hx hb d17 (lv_at hl 0 rfl) ?_
    refine lv_bipush (v := nI 20) hx hb d19 (by decide) ?_
    refine lv_icmp_ge (tgt := 74) hx hb d21 (by decide) (fun z => absurd z (nI_ge (by omega) (by omega))) (fun _ => ?_)
    refine lv_aload_n hx hb d24 rfl (lv_at hl 1 rfl) ?_
    refine lv_iload hx hb d25 (lv_at hl 0 rfl) ?_
    refine lv_iconst (v := nI 4) hx hb d27 (by decide) ?_
    refine lv_idiv hx hb d28 (by decide) ?_
    refine lv_topi (fun y ey => ?_); obtain rfl : y = nI (k / 4) := ey.trans (eb_dv (by omega) (by decide))
    refine lv_dup2_11 hx hb d29 rfl rfl ?_
    refine va_iald hx hb hK hP ws0.length tys0.length (hq0 F) ht0 (vp_in_nI (show k / 4 < 5 by omega) (by decide)) d30 ?_
    rw [nI_clamp (show k / 4 < 2 ^ 31 by omega), hF (k / 4) (by omega), show min 4 (k - 4 * (k / 4)) = k % 4 by omega]
    refine lv_iload_n hx hb d31 rfl (lv_at hl 2 rfl) ?_
    refine lv_iload hx hb d32 (lv_at hl 0 rfl) ?_
    refine lv_iadd hx hb d34 ?_
    refine lv_topi (fun y ey => ?_); obtain rfl : y = nI (t + k) := ey.trans (nI_add t k)
    have tail : ∀ (H : Heap) (locs : List Loc), va_P D cl (ws0 ++ [(ar, .inl (cI, 5, .inl F))]) H → va_S A s.heap H locs → W p l e R s m args below meth c H locs cells slots Q (F0 m 55 ls [.int (nI (y (t + k))), .int (zI ((acc (fun i => y (t + 4 * (k / 4) + i)) (k % 4) : Nat) : Int)), .int (nI (k / 4)), .ref ar]) := by
      intro H locs hP hS
      refine lv_bipush (v := nI 24) hx hb d55 (by decide) ?_
      refine lv_bipush (v := nI 8) hx hb d57 (by decide) ?_
      refine lv_iload hx hb d59 (lv_at hl 0 rfl) ?_
      refine lv_iconst (v := nI 4) hx hb d61 (by decide) ?_
      refine lv_irem hx hb d62 (by decide) ?_
      refine lv_topi (fun y ey => ?_); obtain rfl : y = nI (k % 4) := ey.trans ((show nI k - nI k / nI 4 * nI 4 = _ from by rw [show nI k = zI (k : Nat) from zI_on k]; exact eb_rem (by omega) (by decide)))
      refine lv_imul hx hb d63 ?_
      refine lv_topi (fun y ey => ?_); obtain rfl : y = nI (8 * (k % 4)) := ey.trans (pk_mul 8 (k % 4))
      refine lv_isub hx hb d64 ?_
      refine lv_topi (fun y ey => ?_); obtain rfl : y = nI (24 - 8 * (k % 4)) := ey.trans (pk_sub (a := 24) (b := 8 * (k % 4)) (by omega))
      refine lv_ishl hx hb d65 ?_
      refine lv_ior hx hb d66 ?_
      have ea : zI ((acc (fun i => y (t + 4 * (k / 4) + i)) (k % 4) : Nat) : Int) ||| (nI (y (t + k)) <<< (nI (24 - 8 * (k % 4)) &&& (31 : Int32))) = zI ((acc (fun i => y (t + 4 * (k / 4) + i)) (k % 4 + 1) : Nat) : Int) := by
        have h9 := acc_s (c := fun i => y (t + 4 * (k / 4) + i)) (j := k % 4) (fun i _ => hy _) (by omega)
        (try dsimp only at h9)
        rw [show t + 4 * (k / 4) + k % 4 = t + k by omega] at h9
        rw [show nI (y (t + k)) = zI ((y (t + k) : Nat) : Int) from zI_on _, show nI (24 - 8 * (k % 4)) = zI ((24 - 8 * (k % 4) : Nat) : Int) from zI_on _]
        exact h9
      rw [ea]
      refine va_iast hx hb hK hP hD hS ws0.length tys0.length (hq0 F) ht0 (vp_in_nI (show k / 4 < 5 by omega) (by decide)) d67 (fun H1 locs1 hP1 hD1 hS1 => ?_)
      rw [eb_set, nI_clamp (show k / 4 < 2 ^ 31 by omega)] at hP1 hD1
      refine lv_iinc hx hb d68 hl (k := 0) rfl (v := nI (k + 1)) (nI_add k 1) (by decide) rfl (fun ls2 hl2 => ?_)
      refine lv_goto (tgt := 17) hx hb d71 (by decide) ?_
      refine ih (k + 1) (by omega) _ _ _ _ (fun v hv => ?_) hP1 hD1 hS1 hl2 hZ
      by_cases q : v = k / 4
      · subst q
        rw [eb_us, show min 4 (k + 1 - 4 * (k / 4)) = k % 4 + 1 by omega]
      · rw [eb_un q, hF v hv, show min 4 (k + 1 - 4 * v) = min 4 (k - 4 * v) by omega]
    refine lv_aload_n hx hb d35 rfl (lv_at hl 3 rfl) ?_
    refine va_calli (va_runV (As := []) (rest := [.int (nI (t + k)), .int (zI ((acc (fun i => y (t + 4 * (k / 4) + i)) (k % 4) : Nat) : Int)), .int (nI (k / 4)), .ref ar]) ⟨hx, hb, hml, hown, hts⟩ (ej_length l N fx a w) (cwV 0 hts (eb_gV eb_ok2 (eb_m (ev_gm (p := 13207) (by decide +kernel) rfl)) (eb_m (ev_gm (p := 13208) (by decide +kernel) rfl)) (eb_m (ev_gm (p := 13209) (by decide +kernel) rfl)) (eb_m (ev_ginit (by decide +kernel) rfl)) (eb_m (ev_gm (p := 13210) (by decide +kernel) rfl))) rfl rfl rfl (by decide +kernel) ⟨Nat.le_trans (Nat.le_of_ble_eq_true rfl) hRf, Nat.le_trans (Nat.le_of_ble_eq_true rfl) hRl⟩) ⟨fun a U g mk q => ⟨q.1, ev_Js.moved (Vm.Alike.refl U.vm) q.2.1, q.2.2⟩, va_Orecv hT.1 hS, fun U hU hW => ⟨rfl, by show ev_Js N fx _ w U U.heap; rw [hU]; exact (hT.kept hS.2.1).js.moved hW.alike, by omega⟩⟩ rfl rfl hl.1 rfl (lv_room (Nat.le_of_ble_eq_true rfl)) d36 ⟨hcs.1, hcs.2⟩) hS (fun q _ h => h.elim) (fun q h => h.elim) (fun r u t9 H1 locs1 ht hvm hw hB hz1 hk1 hS => ?_)
    have hw : r = nI N := hw
    subst hw
    have hP := eb_keep hP hk1
    by_cases q : N ≤ t + k
    · refine lv_icmp_ge (tgt := 53) hx hb d39 (by decide) (fun _ => ?_) (fun z => absurd (nI_le q (by omega)) z)
      refine lv_bipush (v := nI 32) hx hb d53 (by decide) ?_
      have h9 := tail _ _ hP hS
      rw [hy2 _ q] at h9
      exact h9
    · refine lv_icmp_ge (tgt := 53) hx hb d39 (by decide) (fun z => absurd z (nI_ge (by omega) (by omega))) (fun _ => ?_)
      refine lv_aload_n hx hb d42 rfl (lv_at hl 3 rfl) ?_
      refine lv_iload_n hx hb d43 rfl (lv_at hl 2 rfl) ?_
      refine lv_iload hx hb d44 (lv_at hl 0 rfl) ?_
      refine lv_iadd hx hb d46 ?_
      refine lv_topi (fun y ey => ?_); obtain rfl : y = nI (t + k) := ey.trans (nI_add t k)
      refine va_calli (va_runV (As := [.int (nI (t + k))]) (rest := [.int (zI ((acc (fun i => y (t + 4 * (k / 4) + i)) (k % 4) : Nat) : Int)), .int (nI (k / 4)), .ref ar]) ⟨hx, hb, hml, hown, hts⟩ (ej_charAt l N fx a w hk9 (nI (t + k)) (vp_in_nI (Nat.lt_of_not_le q) (by omega))) (cwV 1 hts (eb_gV eb_ok2 (eb_m (ev_gm (p := 13217) (by decide +kernel) rfl)) (eb_m (ev_gm (p := 13218) (by decide +kernel) rfl)) (eb_m (ev_gm (p := 13219) (by decide +kernel) rfl)) (eb_m (ev_ginit (by decide +kernel) rfl)) (eb_m (ev_gm (p := 13220) (by decide +kernel) rfl))) rfl rfl rfl (by decide +kernel) ⟨Nat.le_trans (Nat.le_of_ble_eq_true rfl) hRf, Nat.le_trans (Nat.le_of_ble_eq_true rfl) hRl⟩) ⟨fun a U g mk q => ⟨q.1, ev_Js.moved (Vm.Alike.refl U.vm) q.2⟩, va_Orecv hT.1 hS, fun U hU hW => ⟨rfl, by show ev_Js N fx _ w U U.heap; rw [hU]; exact (hT.kept hS.2.1).js.moved hW.alike⟩⟩ rfl rfl hl.1 rfl (lv_room (Nat.le_of_ble_eq_true rfl)) d47 ⟨hcs.1, hcs.2⟩) hS (fun q _ h => h.elim) (fun q h => h.elim) (fun r u t9 H2 locs2 ht hvm hw hB hz1 hk1 hS => ?_)
      have hw : r = fx (nI (t + k)).toNatClampNeg := hw
      rw [nI_clamp (show t + k < 2 ^ 31 by omega), hy1 _ (Nat.lt_of_not_le q)] at hw
      subst hw
      have hP := eb_keep hP hk1
      refine lv_goto (tgt := 55) hx hb d50 (by decide) ?_
      exact tail _ _ hP hS
