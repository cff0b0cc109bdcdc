/-! fed and loaded, as contracts. -/
abbrev ye_fed : MethodName := ⟨"LanternChessLaw", "fed", "(LLanternChess;Ljava/lang/String;)V"⟩
abbrev ye_loaded : MethodName := ⟨"LanternChessLaw", "loaded", "(LLanternChess;Ljava/lang/String;)I"⟩
set_option maxHeartbeats 4000000 in
set_option maxRecDepth 100000 in
theorem eb_fed (l : Launch) (hst : l.stackTraces = false) (D : va_G) (sz L : Nat) (xs : Nat → Int32) (cA : Nat → ClassId) (m0 : Mm) (ad : Nat → Nat) (N : Nat) (fx : Nat → Int32) (y : Nat → Nat) (a w : Nat) (hk9 : ev_tbg N fx) (hN : N ≤ 300) (hy : ∀ i, y i < 128) (hy1 : ∀ i, i < N → fx i = nI (y i)) (hy2 : ∀ i, N ≤ i → y i = 32) (hm0 : m0 21 1 = zI 0) : Met l ye_fed (Cond.code ye_fed method_4_code 5 none :: eb_gw) ({ frames := 4, cells := 15, slots := 75, locals := 85 }) (va_Pc [.ref (ad 20), .ref a] (fun U => U.heap.size = sz ∧ ev_I L xs D cA (va_A (ev_ws ad cA (249, mem L 249 m0)) sz) U ad (249, mem L 249 m0) U.heap [] ∧ eb_T (va_A (ev_ws ad cA (249, mem L 249 m0)) sz) N fx a w U U.heap)) (va_Qv (fun u : Mm × (Nat → Nat) => Bf m0 u.1 y N) (fun u t => ev_Jn L xs D cA (va_A (ev_ws ad cA (249, mem L 249 m0)) sz) ad u.2 249 (249, mem L 249 u.1) t) (va_A (ev_ws ad cA (249, mem L 249 m0)) sz)) 15 75 (va_A (ev_ws ad cA (249, mem L 249 m0)) sz) := by
  refine Met.ofW (cc := method_4_code) (maxL := 5) (ret := none) (by decide) rfl ?_
  intro p e s m args below meth c s₁ B hml hv
  obtain ⟨rfl, hsz, hI, hT⟩ := hv
  have hx := B.exec
  have hb := B.bytes
  have hr := B.returns
  have hts0 := atoms_spec (ws := Cond.code ye_fed method_4_code 5 none :: eb_gw) B.pre
  have hts : ∀ w ∈ eb_gw, w.before _ s = true := fun w hw => hts0 w (List.mem_cons_of_mem _ hw)
  have hown : s.vm.findClass "LanternChessLaw" = some m.cls := findClass_of_methodNamed B.named
  have hlocks := B.notSynchronized
  subst hsz
  have hl := lv_entry ([.ref (ad 20), .ref a]) (n := 5) (Nat.le_of_ble_eq_true rfl)
  rw [lg_entry_eq]
  generalize (lg_sl ([.ref (ad 20), .ref a]) ++ List.replicate (5 - (lg_sl ([.ref (ad 20), .ref a])).length) Slot.unset).toArray = ls at hl ⊢
  have hl : lv_has ls 5 [(0, .ref (ad 20)), (1, .ref a)] := hl
  have d0 : decode method_4_code 0 = .ok (.iconst 0, 1) := by decide +kernel
  have d1 : decode method_4_code 1 = .ok (.istore_n 2, 1) := by decide +kernel
  have d109 : decode method_4_code 109 = .ok (.return_, 1) := by decide +kernel
  refine lv_iconst (v := nI 0) hx hb d0 (by decide) ?_
  refine lv_istore_n hx hb d1 rfl hl (by decide) rfl (fun ls hl => ?_)
  refine eb_fo (l := l) (D := D) hx hb hml hown hts hst (ad := ad) (m0 := m0) hT hk9 hN hy hy1 hy2 (Nat.le_of_ble_eq_true rfl) (Nat.le_of_ble_eq_true rfl) (Nat.le_of_ble_eq_true rfl) (Nat.le_of_ble_eq_true rfl) (fun m1 ad1 H locs ls hB hag hI => ?_) 15 0 rfl m0 ad _ _ _ ⟨hm0, fun i hi => absurd hi (Nat.not_lt_zero i), fun _ _ => rfl, fun _ _ _ => rfl⟩ (fun _ _ => rfl) hI (lv_sub hl [0, 2, 1] rfl)
  exact W.vret hx hb hr (fun t ht hW => ⟨⟨(m1, ad1), rfl, hB, ⟨hag, Nat.le_refl _, hI.1, hI.2.1, by rw [ht]; exact hI.2.2.2.1, hI.2.2.2.2.1⟩⟩, hI.2.2.2.2.2.1.F ht⟩) hI.2.2.2.2.2.1.2.2 d109
