abbrev ye_stringSize : MethodName := ⟨"java/lang/Integer", "stringSize", "(I)I"⟩
set_option maxHeartbeats 4000000 in
set_option maxRecDepth 100000 in
theorem eb_stringSize (l : Launch) (D : va_G) (k : Nat) (hk : k < 1000) : Met l ye_stringSize (Cond.code ye_stringSize prog_24_method_13_code 4 (some (.int)) :: eb_gw) ({ frames := 0, cells := 0, slots := 0, locals := 0 }) (ev_jP [.int (nI k)] (fun U H => True)) (ev_jQ (nI (eb_sz k))) 0 0 (fun _ => False) := by
  refine Met.ofW (cc := prog_24_method_13_code) (maxL := 4) (ret := (some (.int))) (by decide) rfl ?_
  intro p e s m args below meth c s₁ B hml hv
  obtain ⟨rfl, hF⟩ := hv
  have hx := B.exec
  have hb := B.bytes
  have hr := B.returns
  have hts0 := atoms_spec (ws := Cond.code ye_stringSize prog_24_method_13_code 4 (some (.int)) :: eb_gw) B.pre
  have hts : ∀ w ∈ eb_gw, w.before _ s = true := fun w hw => hts0 w (List.mem_cons_of_mem _ hw)
  have hown : s.vm.findClass "java/lang/Integer" = some m.cls := findClass_of_methodNamed B.named
  have hlocks := B.notSynchronized
  have hS : va_S (fun _ => False) s.heap s.heap [] := va_S.rf
  have hl := lv_entry ([.int (nI k)]) (n := 4) (Nat.le_of_ble_eq_true rfl)
  rw [lg_entry_eq]
  generalize (lg_sl ([.int (nI k)]) ++ List.replicate (4 - (lg_sl ([.int (nI k)])).length) Slot.unset).toArray = ls at hl ⊢
  have hl : lv_has ls 4 [(0, .int (nI k))] := hl
  have d0 : decode prog_24_method_13_code 0 = .ok (.iconst 1, 1) := by decide +kernel
  have d1 : decode prog_24_method_13_code 1 = .ok (.istore_n 1, 1) := by decide +kernel
  have d2 : decode prog_24_method_13_code 2 = .ok (.iload_n 0, 1) := by decide +kernel
  have d3 : decode prog_24_method_13_code 3 = .ok (.ifCond .lt (8), 3) := by decide +kernel
  have d6 : decode prog_24_method_13_code 6 = .ok (.iconst 0, 1) := by decide +kernel
  have d7 : decode prog_24_method_13_code 7 = .ok (.istore_n 1, 1) := by decide +kernel
  have d8 : decode prog_24_method_13_code 8 = .ok (.iload_n 0, 1) := by decide +kernel
  have d9 : decode prog_24_method_13_code 9 = .ok (.ineg, 1) := by decide +kernel
  have d10 : decode prog_24_method_13_code 10 = .ok (.istore_n 0, 1) := by decide +kernel
  have d11 : decode prog_24_method_13_code 11 = .ok (.bipush (-10), 2) := by decide +kernel
  have d13 : decode prog_24_method_13_code 13 = .ok (.istore_n 2, 1) := by decide +kernel
  have d14 : decode prog_24_method_13_code 14 = .ok (.iconst 1, 1) := by decide +kernel
  have d15 : decode prog_24_method_13_code 15 = .ok (.istore_n 3, 1) := by decide +kernel
  have d16 : decode prog_24_method_13_code 16 = .ok (.iload_n 3, 1) := by decide +kernel
  have d17 : decode prog_24_method_13_code 17 = .ok (.bipush (10), 2) := by decide +kernel
  have d19 : decode prog_24_method_13_code 19 = .ok (.if_icmp .ge (23), 3) := by decide +kernel
  have d22 : decode prog_24_method_13_code 22 = .ok (.iload_n 0, 1) := by decide +kernel
  have d23 : decode prog_24_method_13_code 23 = .ok (.iload_n 2, 1) := by decide +kernel
  have d24 : decode prog_24_method_13_code 24 = .ok (.if_icmp .le (7), 3) := by decide +kernel
  have d27 : decode prog_24_method_13_code 27 = .ok (.iload_n 3, 1) := by decide +kernel
  have d28 : decode prog_24_method_13_code 28 = .ok (.iload_n 1, 1) := by decide +kernel
  have d29 : decode prog_24_method_13_code 29 = .ok (.iadd, 1) := by decide +kernel
  have d30 : decode prog_24_method_13_code 30 = .ok (.ireturn, 1) := by decide +kernel
  have d31 : decode prog_24_method_13_code 31 = .ok (.bipush (10), 2) := by decide +kernel
  have d33 : decode prog_24_method_13_code 33 = .ok (.iload_n 2, 1) := by decide +kernel
  have d34 : decode prog_24_method_13_code 34 = .ok (.imul, 1) := by decide +kernel
  have d35 : decode prog_24_method_13_code 35 = .ok (.istore_n 2, 1) := by decide +kernel
  have d36 : decode prog_24_method_13_code 36 = .ok (.iinc 3 (1), 3) := by decide +kernel
  have d39 : decode prog_24_method_13_code 39 = .ok (.goto (-23), 3) := by decide +kernel
  refine lv_iconst (v := 1) hx hb d0 (by decide) ?_
  refine lv_istore_n hx hb d1 rfl hl (by decide) rfl (fun ls hl => ?_)
  refine lv_iload_n hx hb d2 rfl (lv_at hl 1 rfl) ?_
  refine lv_if_lt (tgt := 11) hx hb d3 (by decide) (fun z => absurd z (nI_pos (by omega))) (fun _ => ?_)
  refine lv_iconst (v := 0) hx hb d6 (by decide) ?_
  refine lv_istore_n hx hb d7 rfl hl (by decide) rfl (fun ls hl => ?_)
  refine lv_iload_n hx hb d8 rfl (lv_at hl 1 rfl) ?_
  refine lv_ineg hx hb d9 ?_
  refine lv_istore_n hx hb d10 rfl hl (by decide) rfl (fun ls hl => ?_)
  refine lv_bipush (v := -10) hx hb d11 (by decide) ?_
  refine lv_istore_n hx hb d13 rfl hl (by decide) rfl (fun ls hl => ?_)
  refine lv_iconst (v := 1) hx hb d14 (by decide) ?_
  refine lv_istore_n hx hb d15 rfl hl (by decide) rfl (fun ls hl => ?_)
  obtain ⟨e1, e2, e3, -⟩ := eb_k1 k hk
  have e1 := eb_dq e1
  have e2 := eb_dq e2
  have e3 := of_decide_eq_false e3
  refine lv_iload_n hx hb d16 rfl (lv_at hl 0 rfl) ?_
  refine lv_bipush (v := 10) hx hb d17 (by decide) ?_
  refine lv_icmp_ge (tgt := 42) hx hb d19 (by decide) (fun z => absurd z (by decide)) (fun _ => ?_)
  refine lv_iload_n hx hb d22 rfl (lv_at hl 2 rfl) ?_
  refine lv_iload_n hx hb d23 rfl (lv_at hl 1 rfl) ?_
  by_cases h10 : 10 ≤ k
  · refine lv_icmp_le (tgt := 31) hx hb d24 (by decide) (fun _ => ?_) (fun z => absurd (e1.mpr h10) z)
    refine lv_bipush (v := 10) hx hb d31 (by decide) ?_
    refine lv_iload_n hx hb d33 rfl (lv_at hl 1 rfl) ?_
    refine lv_imul hx hb d34 ?_
    refine lv_topi (fun y ey => ?_); obtain rfl : y = -100 := ey.trans (by decide)
    refine lv_istore_n hx hb d35 rfl hl (by decide) rfl (fun ls hl => ?_)
    refine lv_iinc hx hb d36 hl (k := 1) rfl (v := 2) (by decide) (by decide) rfl (fun ls hl => ?_)
    refine lv_goto (tgt := 16) hx hb d39 (by decide) ?_
    refine lv_iload_n hx hb d16 rfl (lv_at hl 0 rfl) ?_
    refine lv_bipush (v := 10) hx hb d17 (by decide) ?_
    refine lv_icmp_ge (tgt := 42) hx hb d19 (by decide) (fun z => absurd z (by decide)) (fun _ => ?_)
    refine lv_iload_n hx hb d22 rfl (lv_at hl 2 rfl) ?_
    refine lv_iload_n hx hb d23 rfl (lv_at hl 1 rfl) ?_
    by_cases h100 : 100 ≤ k
    · refine lv_icmp_le (tgt := 31) hx hb d24 (by decide) (fun _ => ?_) (fun z => absurd (e2.mpr h100) z)
      refine lv_bipush (v := 10) hx hb d31 (by decide) ?_
      refine lv_iload_n hx hb d33 rfl (lv_at hl 1 rfl) ?_
      refine lv_imul hx hb d34 ?_
      refine lv_topi (fun y ey => ?_); obtain rfl : y = -1000 := ey.trans (by decide)
      refine lv_istore_n hx hb d35 rfl hl (by decide) rfl (fun ls hl => ?_)
      refine lv_iinc hx hb d36 hl (k := 1) rfl (v := 3) (by decide) (by decide) rfl (fun ls hl => ?_)
      refine lv_goto (tgt := 16) hx hb d39 (by decide) ?_
      refine lv_iload_n hx hb d16 rfl (lv_at hl 0 rfl) ?_
      refine lv_bipush (v := 10) hx hb d17 (by decide) ?_
      refine lv_icmp_ge (tgt := 42) hx hb d19 (by decide) (fun z => absurd z (by decide)) (fun _ => ?_)
      refine lv_iload_n hx hb d22 rfl (lv_at hl 2 rfl) ?_
      refine lv_iload_n hx hb d23 rfl (lv_at hl 1 rfl) ?_
      refine lv_icmp_le (tgt := 31) hx hb d24 (by decide) (fun z => absurd z e3) (fun _ => ?_)
      refine lv_iload_n hx hb d27 rfl (lv_at hl 0 rfl) ?_
      refine lv_iload_n hx hb d28 rfl (lv_at hl 3 rfl) ?_
      refine lv_iadd hx hb d29 ?_
      refine lv_topi (fun y ey => ?_); obtain rfl : y = nI 3 := ey.trans (by decide)
      exact W.iret hx hb hr (fun t ht hW => ⟨⟨_, (), rfl, by unfold eb_sz; split <;> (try split) <;> first | rfl | omega, trivial⟩, hS.F ht⟩) hS.2.2 d30
    · refine lv_icmp_le (tgt := 31) hx hb d24 (by decide) (fun z => absurd (e2.mp z) h100) (fun _ => ?_)
      refine lv_iload_n hx hb d27 rfl (lv_at hl 0 rfl) ?_
      refine lv_iload_n hx hb d28 rfl (lv_at hl 3 rfl) ?_
      refine lv_iadd hx hb d29 ?_
      refine lv_topi (fun y ey => ?_); obtain rfl : y = nI 2 := ey.trans (by decide)
      exact W.iret hx hb hr (fun t ht hW => ⟨⟨_, (), rfl, by unfold eb_sz; split <;> (try split) <;> first | rfl | omega, trivial⟩, hS.F ht⟩) hS.2.2 d30
  · refine lv_icmp_le (tgt := 31) hx hb d24 (by decide) (fun z => absurd (e1.mp z) h10) (fun _ => ?_)
    refine lv_iload_n hx hb d27 rfl (lv_at hl 0 rfl) ?_
    refine lv_iload_n hx hb d28 rfl (lv_at hl 3 rfl) ?_
    refine lv_iadd hx hb d29 ?_
    refine lv_topi (fun y ey => ?_); obtain rfl : y = nI 1 := ey.trans (by decide)
    exact W.iret hx hb hr (fun t ht hW => ⟨⟨_, (), rfl, by unfold eb_sz; split <;> (try split) <;> first | rfl | omega, trivial⟩, hS.F ht⟩) hS.2.2 d30
def eb_dO : Nat → Int32 := fun j => nI (48 + j % 10)
def eb_dT : Nat → Int32 := fun j => nI (48 + j / 10)
/-- Integer's tables -/
def eb_I (A : Nat → Prop) (U : State) (H : Heap) : Prop := ∃ d1 d2 : Nat, va_Z "java/lang/Integer" "DigitOnes" "[B" (.ref d1) A U H ∧ va_T .byte d1 100 (fun j => .int (eb_dO j)) A U H ∧ va_Z "java/lang/Integer" "DigitTens" "[B" (.ref d2) A U H ∧ va_T .byte d2 100 (fun j => .int (eb_dT j)) A U H
theorem eb_I.moved {A : Nat → Prop} {u U : State} {H : Heap} (hvm : u.vm.Alike U.vm) (h : eb_I A u H) : eb_I A U H := by
  obtain ⟨d1, d2, h1, h2, h3, h4⟩ := h
  exact ⟨d1, d2, h1.moved hvm, h2.moved hvm, h3.moved hvm, h4.moved hvm⟩
theorem eb_I.kept {A : Nat → Prop} {U : State} {H H1 : Heap} (h : eb_I A U H) (hq : ∀ a : Nat, a < H.size → ¬ A a → H1[a]? = H[a]?) : eb_I A U H1 := by
  obtain ⟨d1, d2, h1, h2, h3, h4⟩ := h
  exact ⟨d1, d2, h1.kept hq, h2.kept hq, h3.kept hq, h4.kept hq⟩
theorem eb_I.narrow {A B : Nat → Prop} {U : State} {H : Heap} (h : eb_I A U H) (hAB : ∀ q, B q → A q) : eb_I B U H := by
  obtain ⟨d1, d2, h1, h2, h3, h4⟩ := h
  exact ⟨d1, d2, h1.narrow hAB, h2.narrow hAB, h3.narrow hAB, h4.narrow hAB⟩
theorem eb_dg : ∀ k, k < 1000 → (dg k).length = eb_sz k ∧ ∀ j, j < eb_sz k → (dg k).getD j 0 = (if k < 10 then 48 + k else if k < 100 then (if j = 0 then 48 + k / 10 else 48 + k % 10) else (if j = 0 then 48 + k / 100 else if j = 1 then 48 + k % 100 / 10 else 48 + k % 100 % 10)) := by decide +kernel
/-- a number's letters written from n on -/
def eb_wn (n k M : Nat) (f f' : Nat → Int32) : Prop := (∀ j, j < n → f' j = f j) ∧ (∀ j, j < eb_sz k → f' (n + j) = nI ((dg k).getD j 0)) ∧ eb_ft M f'
abbrev ye_getChars : MethodName := ⟨"java/lang/Integer", "getChars", "(II[B)I"⟩
set_option maxHeartbeats 4000000 in
set_option maxRecDepth 100000 in
theorem eb_getChars (l : Launch) (D : va_G) (sz : Nat) (v : Nat) (cB : ClassId) (M : Nat) (f : Nat → Int32) (n k : Nat) (hk : k < 1000) (hM : n + eb_sz k ≤ M) (hM2 : M ≤ 1300) : Met l ye_getChars (Cond.code ye_getChars prog_24_method_12_code 7 (some (.int)) :: eb_gw) ({ frames := 0, cells := 0, slots := 0, locals := 0 }) (va_Pc [.int (nI k), .int (nI (n + eb_sz k)), .ref v] (fun U => U.heap.size = sz ∧ va_P D eb_cl [(v, .inl (cB, M, .inl f))] U.heap ∧ va_K D eb_cl [(cB, .byte)] U ∧ va_D (fun _ => True) [(v, .inl (cB, M, .inl f))] ∧ eb_I (va_A [(v, .inl (cB, M, .inl f))] sz) U U.heap ∧ eb_ft M f)) (va_Qi (fun (_ : Int32) (f' : Nat → Int32) => eb_wn n k M f f') (fun f' t => va_P D eb_cl [(v, .inl (cB, M, .inl f'))] t.heap ∧ va_K D eb_cl [(cB, .byte)] t ∧ va_D (va_A [(v, .inl (cB, M, .inl f))] sz) [(v, .inl (cB, M, .inl f'))]) (va_A [(v, .inl (cB, M, .inl f))] sz)) 0 0 (va_A [(v, .inl (cB, M, .inl f))] sz) := by
  refine Met.ofW (cc := prog_24_method_12_code) (maxL := 7) (ret := (some (.int))) (by decide) rfl ?_
  intro p e s m args below meth c s₁ B hml hv
  obtain ⟨rfl, hsz, hP, hK, hD0, hF⟩ := hv
  have hx := B.exec
  have hb := B.bytes
  have hr := B.returns
  have hts0 := atoms_spec (ws := Cond.code ye_getChars prog_24_method_12_code 7 (some (.int)) :: eb_gw) B.pre
  have hts : ∀ w ∈ eb_gw, w.before _ s = true := fun w hw => hts0 w (List.mem_cons_of_mem _ hw)
  have hown : s.vm.findClass "java/lang/Integer" = some m.cls := findClass_of_methodNamed B.named
  have hlocks := B.notSynchronized
  subst hsz
  have hD := hD0.self (sz := s.heap.size)
  generalize hAe : va_A [(v, .inl (cB, M, .inl f))] s.heap.size = A at hD hF ⊢
  have hA : ∀ q : Nat, s.heap.size ≤ q → A q := fun q h => by rw [← hAe]; exact Or.inr h
  have hS : va_S A s.heap s.heap [] := va_S.rf
  have hl := lv_entry ([.int (nI k), .int (nI (n + eb_sz k)), .ref v]) (n := 7) (Nat.le_of_ble_eq_true rfl)
  rw [lg_entry_eq]
  generalize (lg_sl ([.int (nI k), .int (nI (n + eb_sz k)), .ref v]) ++ List.replicate (7 - (lg_sl ([.int (nI k), .int (nI (n + eb_sz k)), .ref v])).length) Slot.unset).toArray = ls at hl ⊢
  have hl : lv_has ls 7 [(0, .int (nI k)), (1, .int (nI (n + eb_sz k))), (2, .ref v)] := hl
  have d0 : decode prog_24_method_12_code 0 = .ok (.iload_n 1, 1) := by decide +kernel
  have d1 : decode prog_24_method_12_code 1 = .ok (.istore 5, 2) := by decide +kernel
  have d3 : decode prog_24_method_12_code 3 = .ok (.iload_n 0, 1) := by decide +kernel
  have d4 : decode prog_24_method_12_code 4 = .ok (.ifCond .ge (7), 3) := by decide +kernel
  have d11 : decode prog_24_method_12_code 11 = .ok (.iconst 0, 1) := by decide +kernel
  have d12 : decode prog_24_method_12_code 12 = .ok (.istore 6, 2) := by decide +kernel
  have d14 : decode prog_24_method_12_code 14 = .ok (.iload 6, 2) := by decide +kernel
  have d16 : decode prog_24_method_12_code 16 = .ok (.ifCond .ne (6), 3) := by decide +kernel
  have d19 : decode prog_24_method_12_code 19 = .ok (.iload_n 0, 1) := by decide +kernel
  have d20 : decode prog_24_method_12_code 20 = .ok (.ineg, 1) := by decide +kernel
  have d21 : decode prog_24_method_12_code 21 = .ok (.istore_n 0, 1) := by decide +kernel
  have d22 : decode prog_24_method_12_code 22 = .ok (.iload_n 0, 1) := by decide +kernel
  have d23 : decode prog_24_method_12_code 23 = .ok (.bipush (-100), 2) := by decide +kernel
  have d25 : decode prog_24_method_12_code 25 = .ok (.if_icmp .gt (47), 3) := by decide +kernel
  have d28 : decode prog_24_method_12_code 28 = .ok (.iload_n 0, 1) := by decide +kernel
  have d29 : decode prog_24_method_12_code 29 = .ok (.bipush (100), 2) := by decide +kernel
  have d31 : decode prog_24_method_12_code 31 = .ok (.idiv, 1) := by decide +kernel
  have d32 : decode prog_24_method_12_code 32 = .ok (.istore_n 3, 1) := by decide +kernel
  have d33 : decode prog_24_method_12_code 33 = .ok (.iload_n 3, 1) := by decide +kernel
  have d34 : decode prog_24_method_12_code 34 = .ok (.bipush (100), 2) := by decide +kernel
  have d36 : decode prog_24_method_12_code 36 = .ok (.imul, 1) := by decide +kernel
  have d37 : decode prog_24_method_12_code 37 = .ok (.iload_n 0, 1) := by decide +kernel
  have d38 : decode prog_24_method_12_code 38 = .ok (.isub, 1) := by decide +kernel
  have d39 : decode prog_24_method_12_code 39 = .ok (.istore 4, 2) := by decide +kernel
  have d41 : decode prog_24_method_12_code 41 = .ok (.iload_n 3, 1) := by decide +kernel
  have d42 : decode prog_24_method_12_code 42 = .ok (.istore_n 0, 1) := by decide +kernel
  have d43 : decode prog_24_method_12_code 43 = .ok (.aload_n 2, 1) := by decide +kernel
  have d44 : decode prog_24_method_12_code 44 = .ok (.iinc 5 (-1), 3) := by decide +kernel
  have d47 : decode prog_24_method_12_code 47 = .ok (.iload 5, 2) := by decide +kernel
  have d49 : decode prog_24_method_12_code 49 = .ok (.getstatic 83, 3) := by decide +kernel
  have d52 : decode prog_24_method_12_code 52 = .ok (.iload 4, 2) := by decide +kernel
  have d54 : decode prog_24_method_12_code 54 = .ok (.baload, 1) := by decide +kernel
  have d55 : decode prog_24_method_12_code 55 = .ok (.bastore, 1) := by decide +kernel
  have d56 : decode prog_24_method_12_code 56 = .ok (.aload_n 2, 1) := by decide +kernel
  have d57 : decode prog_24_method_12_code 57 = .ok (.iinc 5 (-1), 3) := by decide +kernel
  have d60 : decode prog_24_method_12_code 60 = .ok (.iload 5, 2) := by decide +kernel
  have d62 : decode prog_24_method_12_code 62 = .ok (.getstatic 87, 3) := by decide +kernel
  have d65 : decode prog_24_method_12_code 65 = .ok (.iload 4, 2) := by decide +kernel
  have d67 : decode prog_24_method_12_code 67 = .ok (.baload, 1) := by decide +kernel
  have d68 : decode prog_24_method_12_code 68 = .ok (.bastore, 1) := by decide +kernel
  have d69 : decode prog_24_method_12_code 69 = .ok (.goto (-47), 3) := by decide +kernel
  have d72 : decode prog_24_method_12_code 72 = .ok (.aload_n 2, 1) := by decide +kernel
  have d73 : decode prog_24_method_12_code 73 = .ok (.iinc 5 (-1), 3) := by decide +kernel
  have d76 : decode prog_24_method_12_code 76 = .ok (.iload 5, 2) := by decide +kernel
  have d78 : decode prog_24_method_12_code 78 = .ok (.getstatic 83, 3) := by decide +kernel
  have d81 : decode prog_24_method_12_code 81 = .ok (.iload_n 0, 1) := by decide +kernel
  have d82 : decode prog_24_method_12_code 82 = .ok (.ineg, 1) := by decide +kernel
  have d83 : decode prog_24_method_12_code 83 = .ok (.baload, 1) := by decide +kernel
  have d84 : decode prog_24_method_12_code 84 = .ok (.bastore, 1) := by decide +kernel
  have d85 : decode prog_24_method_12_code 85 = .ok (.iload_n 0, 1) := by decide +kernel
  have d86 : decode prog_24_method_12_code 86 = .ok (.bipush (-9), 2) := by decide +kernel
  have d88 : decode prog_24_method_12_code 88 = .ok (.if_icmp .ge (16), 3) := by decide +kernel
  have d91 : decode prog_24_method_12_code 91 = .ok (.aload_n 2, 1) := by decide +kernel
  have d92 : decode prog_24_method_12_code 92 = .ok (.iinc 5 (-1), 3) := by decide +kernel
  have d95 : decode prog_24_method_12_code 95 = .ok (.iload 5, 2) := by decide +kernel
  have d97 : decode prog_24_method_12_code 97 = .ok (.getstatic 87, 3) := by decide +kernel
  have d100 : decode prog_24_method_12_code 100 = .ok (.iload_n 0, 1) := by decide +kernel
  have d101 : decode prog_24_method_12_code 101 = .ok (.ineg, 1) := by decide +kernel
  have d102 : decode prog_24_method_12_code 102 = .ok (.baload, 1) := by decide +kernel
  have d103 : decode prog_24_method_12_code 103 = .ok (.bastore, 1) := by decide +kernel
  have d104 : decode prog_24_method_12_code 104 = .ok (.iload 6, 2) := by decide +kernel
  have d106 : decode prog_24_method_12_code 106 = .ok (.ifCond .eq (12), 3) := by decide +kernel
  have d118 : decode prog_24_method_12_code 118 = .ok (.iload 5, 2) := by decide +kernel
  have d120 : decode prog_24_method_12_code 120 = .ok (.ireturn, 1) := by decide +kernel
  obtain ⟨⟨x1, x2, h1, h2, h3, h4⟩, hff⟩ := hF
  obtain ⟨k1, k2, k3, k4⟩ := eb_k2 k hk
  have k1 := eb_dq k1
  have k2 := eb_dq k2
  obtain ⟨-, -, -, k5⟩ := eb_k1 k hk
  obtain ⟨-, q2, -, -⟩ := eb_k2 (k / 100) (by omega)
  obtain ⟨q1, -, -, -⟩ := eb_k2 (k / 100) (by omega)
  have q1 := eb_dq q1
  have q2 := eb_dq q2
  obtain ⟨-, -, -, q5⟩ := eb_k1 (k / 100) (by omega)
  obtain ⟨hdl, hdd⟩ := eb_dg k hk
  refine lv_iload_n hx hb d0 rfl (lv_at hl 1 rfl) ?_
  refine lv_istore hx hb d1 hl (by decide) rfl (fun ls hl => ?_)
  refine lv_iload_n hx hb d3 rfl (lv_at hl 1 rfl) ?_
  refine lv_if_ge (tgt := 11) hx hb d4 (by decide) (fun _ => ?_) (fun z => absurd (nI_pos' (by omega)) z)
  refine lv_iconst (v := 0) hx hb d11 (by decide) ?_
  refine lv_istore hx hb d12 hl (by decide) rfl (fun ls hl => ?_)
  refine lv_iload hx hb d14 (lv_at hl 0 rfl) ?_
  refine lv_if_ne (tgt := 22) hx hb d16 (by decide) (fun z => absurd rfl z) (fun _ => ?_)
  refine lv_iload_n hx hb d19 rfl (lv_at hl 2 rfl) ?_
  refine lv_ineg hx hb d20 ?_
  refine lv_istore_n hx hb d21 rfl hl (by decide) rfl (fun ls hl => ?_)
  refine lv_iload_n hx hb d22 rfl (lv_at hl 0 rfl) ?_
  refine lv_bipush (v := -100) hx hb d23 (by decide) ?_
  by_cases h100 : k < 100
  · refine lv_icmp_gt (tgt := 72) hx hb d25 (by decide) (fun _ => ?_) (fun z => absurd (k1.mpr h100) z)
    by_cases h10 : k < 10
    · have es : eb_sz k = 1 := by unfold eb_sz; rw [if_pos h10]
      rw [es] at hl hM
      refine lv_aload_n hx hb d72 rfl (lv_at hl 4 rfl) ?_
      refine lv_iinc hx hb d73 hl (k := 2) rfl (v := nI n) (eb_dec n) (by decide) rfl (fun ls hl => ?_)
      refine lv_iload hx hb d76 (lv_at hl 0 rfl) ?_
      refine va_gets hx hb h1 hS hown (hts _ (eb_m (ev_gm (p := 15048) (by decide +kernel) rfl))) (fun _ h9 => h9) d78 ?_
      refine lv_iload_n hx hb d81 rfl (lv_at hl 1 rfl) ?_
      refine lv_ineg hx hb d82 ?_
      refine lv_topi (fun y ey => ?_); obtain rfl : y = nI k := ey.trans (k5)
      refine va_tb hx hb h2 hS (i := nI k) (vp_in_nI (by omega) (by omega)) (v := .int (nI (48 + k % 10))) (congrArg (fun z => Value.int (eb_dO z)) (nI_clamp (n := k) (by omega))) d83 ?_
      refine va_bast hx hb hK hP hD hS 0 0 rfl rfl (vp_in_nI (by omega) (by omega)) d84 (fun K1 K1l hP hD hS => ?_)
      rw [eb_put (by omega) (by omega)] at hP hD
      have hP : va_P D eb_cl [(v, .inl (cB, M, .inl (upd f n (nI (48 + k % 10)))))] K1 := hP
      have hD : va_D A [(v, .inl (cB, M, .inl (upd f n (nI (48 + k % 10)))))] := hD
      refine lv_iload_n hx hb d85 rfl (lv_at hl 1 rfl) ?_
      refine lv_bipush (v := -9) hx hb d86 (by decide) ?_
      refine lv_icmp_ge (tgt := 104) hx hb d88 (by decide) (fun _ => ?_) (fun z => absurd (k2.mpr h10) z)
      have hres : eb_wn n k M f (upd f n (nI (48 + k % 10))) := by
        refine ⟨fun j hj => eb_un (by omega), fun j hj => ?_, eb_fu hff (by omega)⟩
        rw [hdd j hj, if_pos h10]
        rw [es] at hj
        obtain rfl : j = 0 := by omega
        exact eb_us.trans (by rw [Nat.mod_eq_of_lt h10])
      refine lv_iload hx hb d104 (lv_at hl 2 rfl) ?_
      refine lv_if_eq (tgt := 118) hx hb d106 (by decide) (fun _ => ?_) (fun z => absurd rfl z)
      refine lv_iload hx hb d118 (lv_at hl 0 rfl) ?_
      exact W.iret hx hb hr (fun t ht hW => ⟨⟨_, (upd f n (nI (48 + k % 10))), rfl, hres, by rw [ht]; exact hP, va_K.moved hW.alike hK, hD⟩, hS.F ht⟩) hS.2.2 d120
    · have es : eb_sz k = 2 := by unfold eb_sz; rw [if_neg h10, if_pos h100]
      rw [es] at hl hM
      refine lv_aload_n hx hb d72 rfl (lv_at hl 4 rfl) ?_
      refine lv_iinc hx hb d73 hl (k := 2) rfl (v := nI (n + 1)) (eb_dec (n + 1)) (by decide) rfl (fun ls hl => ?_)
      refine lv_iload hx hb d76 (lv_at hl 0 rfl) ?_
      refine va_gets hx hb h1 hS hown (hts _ (eb_m (ev_gm (p := 15048) (by decide +kernel) rfl))) (fun _ h9 => h9) d78 ?_
      refine lv_iload_n hx hb d81 rfl (lv_at hl 1 rfl) ?_
      refine lv_ineg hx hb d82 ?_
      refine lv_topi (fun y ey => ?_); obtain rfl : y = nI k := ey.trans (k5)
      refine va_tb hx hb h2 hS (i := nI k) (vp_in_nI (by omega) (by omega)) (v := .int (nI (48 + k % 10))) (congrArg (fun z => Value.int (eb_dO z)) (nI_clamp (n := k) (by omega))) d83 ?_
      refine va_bast hx hb hK hP hD hS 0 0 rfl rfl (vp_in_nI (by omega) (by omega)) d84 (fun K2 K2l hP hD hS => ?_)
      rw [eb_put (by omega) (by omega)] at hP hD
      have hP : va_P D eb_cl [(v, .inl (cB, M, .inl (upd f (n + 1) (nI (48 + k % 10)))))] K2 := hP
      have hD : va_D A [(v, .inl (cB, M, .inl (upd f (n + 1) (nI (48 + k % 10)))))] := hD
      refine lv_iload_n hx hb d85 rfl (lv_at hl 1 rfl) ?_
      refine lv_bipush (v := -9) hx hb d86 (by decide) ?_
      refine lv_icmp_ge (tgt := 104) hx hb d88 (by decide) (fun z => absurd (k2.mp z) h10) (fun _ => ?_)
      refine lv_aload_n hx hb d91 rfl (lv_at hl 4 rfl) ?_
      refine lv_iinc hx hb d92 hl (k := 0) rfl (v := nI n) (eb_dec n) (by decide) rfl (fun ls hl => ?_)
      refine lv_iload hx hb d95 (lv_at hl 0 rfl) ?_
      refine va_gets hx hb h3 hS hown (hts _ (eb_m (ev_gm (p := 15050) (by decide +kernel) rfl))) (fun _ h9 => h9) d97 ?_
      refine lv_iload_n hx hb d100 rfl (lv_at hl 1 rfl) ?_
      refine lv_ineg hx hb d101 ?_
      refine lv_topi (fun y ey => ?_); obtain rfl : y = nI k := ey.trans (k5)
      refine va_tb hx hb h4 hS (i := nI k) (vp_in_nI (by omega) (by omega)) (v := .int (nI (48 + k / 10))) (congrArg (fun z => Value.int (eb_dT z)) (nI_clamp (n := k) (by omega))) d102 ?_
      refine va_bast hx hb hK hP hD hS 0 0 rfl rfl (vp_in_nI (by omega) (by omega)) d103 (fun K3 K3l hP hD hS => ?_)
      rw [eb_put (by omega) (by omega)] at hP hD
      have hP : va_P D eb_cl [(v, .inl (cB, M, .inl (upd (upd f (n + 1) (nI (48 + k % 10))) n (nI (48 + k / 10)))))] K3 := hP
      have hD : va_D A [(v, .inl (cB, M, .inl (upd (upd f (n + 1) (nI (48 + k % 10))) n (nI (48 + k / 10)))))] := hD
      have hres : eb_wn n k M f (upd (upd f (n + 1) (nI (48 + k % 10))) n (nI (48 + k / 10))) := by
        refine ⟨fun j hj => (eb_un (by omega)).trans (eb_un (by omega)), fun j hj => ?_, eb_fu (eb_fu hff (by omega)) (by omega)⟩
        rw [hdd j hj, if_neg h10, if_pos h100]
        rw [es] at hj
        by_cases hj0 : j = 0
        · subst hj0
          rw [if_pos rfl]
          exact eb_us
        · obtain rfl : j = 1 := by omega
          rw [if_neg hj0]
          exact (eb_un (by omega)).trans eb_us
      refine lv_iload hx hb d104 (lv_at hl 2 rfl) ?_
      refine lv_if_eq (tgt := 118) hx hb d106 (by decide) (fun _ => ?_) (fun z => absurd rfl z)
      refine lv_iload hx hb d118 (lv_at hl 0 rfl) ?_
      exact W.iret hx hb hr (fun t ht hW => ⟨⟨_, (upd (upd f (n + 1) (nI (48 + k % 10))) n (nI (48 + k / 10))), rfl, hres, by rw [ht]; exact hP, va_K.moved hW.alike hK, hD⟩, hS.F ht⟩) hS.2.2 d120
  · refine lv_icmp_gt (tgt := 72) hx hb d25 (by decide) (fun z => absurd (k1.mp z) h100) (fun _ => ?_)
    have es : eb_sz k = 3 := by unfold eb_sz; rw [if_neg (by omega), if_neg h100]
    rw [es] at hl hM
    refine lv_iload_n hx hb d28 rfl (lv_at hl 0 rfl) ?_
    refine lv_bipush (v := 100) hx hb d29 (by decide) ?_
    refine lv_idiv hx hb d31 (by decide) ?_
    refine lv_topi (fun y ey => ?_); obtain rfl : y = -(nI (k / 100)) := ey.trans (k3)
    refine lv_istore_n hx hb d32 rfl hl (by decide) rfl (fun ls hl => ?_)
    refine lv_iload_n hx hb d33 rfl (lv_at hl 0 rfl) ?_
    refine lv_bipush (v := 100) hx hb d34 (by decide) ?_
    refine lv_imul hx hb d36 ?_
    refine lv_iload_n hx hb d37 rfl (lv_at hl 1 rfl) ?_
    refine lv_isub hx hb d38 ?_
    refine lv_topi (fun y ey => ?_); obtain rfl : y = nI (k % 100) := ey.trans (k4)
    refine lv_istore hx hb d39 hl (by decide) rfl (fun ls hl => ?_)
    refine lv_iload_n hx hb d41 rfl (lv_at hl 1 rfl) ?_
    refine lv_istore_n hx hb d42 rfl hl (by decide) rfl (fun ls hl => ?_)
    refine lv_aload_n hx hb d43 rfl (lv_at hl 6 rfl) ?_
    refine lv_iinc hx hb d44 hl (k := 4) rfl (v := nI (n + 2)) (eb_dec (n + 2)) (by decide) rfl (fun ls hl => ?_)
    refine lv_iload hx hb d47 (lv_at hl 0 rfl) ?_
    refine va_gets hx hb h1 hS hown (hts _ (eb_m (ev_gm (p := 15048) (by decide +kernel) rfl))) (fun _ h9 => h9) d49 ?_
    refine lv_iload hx hb d52 (lv_at hl 2 rfl) ?_
    refine va_tb hx hb h2 hS (i := nI (k % 100)) (vp_in_nI (by omega) (by omega)) (v := .int (nI (48 + k % 100 % 10))) (congrArg (fun z => Value.int (eb_dO z)) (nI_clamp (n := (k % 100)) (by omega))) d54 ?_
    refine va_bast hx hb hK hP hD hS 0 0 rfl rfl (vp_in_nI (by omega) (by omega)) d55 (fun K4 K4l hP hD hS => ?_)
    rw [eb_put (by omega) (by omega)] at hP hD
    have hP : va_P D eb_cl [(v, .inl (cB, M, .inl (upd f (n + 2) (nI (48 + k % 100 % 10)))))] K4 := hP
    have hD : va_D A [(v, .inl (cB, M, .inl (upd f (n + 2) (nI (48 + k % 100 % 10)))))] := hD
    refine lv_aload_n hx hb d56 rfl (lv_at hl 6 rfl) ?_
    refine lv_iinc hx hb d57 hl (k := 0) rfl (v := nI (n + 1)) (eb_dec (n + 1)) (by decide) rfl (fun ls hl => ?_)
    refine lv_iload hx hb d60 (lv_at hl 0 rfl) ?_
    refine va_gets hx hb h3 hS hown (hts _ (eb_m (ev_gm (p := 15050) (by decide +kernel) rfl))) (fun _ h9 => h9) d62 ?_
    refine lv_iload hx hb d65 (lv_at hl 2 rfl) ?_
    refine va_tb hx hb h4 hS (i := nI (k % 100)) (vp_in_nI (by omega) (by omega)) (v := .int (nI (48 + k % 100 / 10))) (congrArg (fun z => Value.int (eb_dT z)) (nI_clamp (n := (k % 100)) (by omega))) d67 ?_
    refine va_bast hx hb hK hP hD hS 0 0 rfl rfl (vp_in_nI (by omega) (by omega)) d68 (fun K5 K5l hP hD hS => ?_)
    rw [eb_put (by omega) (by omega)] at hP hD
    have hP : va_P D eb_cl [(v, .inl (cB, M, .inl (upd (upd f (n + 2) (nI (48 + k % 100 % 10))) (n + 1) (nI (48 + k % 100 / 10)))))] K5 := hP
    have hD : va_D A [(v, .inl (cB, M, .inl (upd (upd f (n + 2) (nI (48 + k % 100 % 10))) (n + 1) (nI (48 + k % 100 / 10)))))] := hD
    refine lv_goto (tgt := 22) hx hb d69 (by decide) ?_
    refine lv_iload_n hx hb d22 rfl (lv_at hl 1 rfl) ?_
    refine lv_bipush (v := -100) hx hb d23 (by decide) ?_
    refine lv_icmp_gt (tgt := 72) hx hb d25 (by decide) (fun _ => ?_) (fun z => absurd (q1.mpr (by omega)) z)
    refine lv_aload_n hx hb d72 rfl (lv_at hl 6 rfl) ?_
    refine lv_iinc hx hb d73 hl (k := 0) rfl (v := nI n) (eb_dec n) (by decide) rfl (fun ls hl => ?_)
    refine lv_iload hx hb d76 (lv_at hl 0 rfl) ?_
    refine va_gets hx hb h1 hS hown (hts _ (eb_m (ev_gm (p := 15048) (by decide +kernel) rfl))) (fun _ h9 => h9) d78 ?_
    refine lv_iload_n hx hb d81 rfl (lv_at hl 1 rfl) ?_
    refine lv_ineg hx hb d82 ?_
    refine lv_topi (fun y ey => ?_); obtain rfl : y = nI (k / 100) := ey.trans (q5)
    refine va_tb hx hb h2 hS (i := nI (k / 100)) (vp_in_nI (by omega) (by omega)) (v := .int (nI (48 + k / 100 % 10))) (congrArg (fun z => Value.int (eb_dO z)) (nI_clamp (n := (k / 100)) (by omega))) d83 ?_
    refine va_bast hx hb hK hP hD hS 0 0 rfl rfl (vp_in_nI (by omega) (by omega)) d84 (fun K6 K6l hP hD hS => ?_)
    rw [eb_put (by omega) (by omega)] at hP hD
    have hP : va_P D eb_cl [(v, .inl (cB, M, .inl (upd (upd (upd f (n + 2) (nI (48 + k % 100 % 10))) (n + 1) (nI (48 + k % 100 / 10))) n (nI (48 + k / 100 % 10)))))] K6 := hP
    have hD : va_D A [(v, .inl (cB, M, .inl (upd (upd (upd f (n + 2) (nI (48 + k % 100 % 10))) (n + 1) (nI (48 + k % 100 / 10))) n (nI (48 + k / 100 % 10)))))] := hD
    refine lv_iload_n hx hb d85 rfl (lv_at hl 1 rfl) ?_
    refine lv_bipush (v := -9) hx hb d86 (by decide) ?_
    refine lv_icmp_ge (tgt := 104) hx hb d88 (by decide) (fun _ => ?_) (fun z => absurd (q2.mpr (by omega)) z)
    have hres : eb_wn n k M f (upd (upd (upd f (n + 2) (nI (48 + k % 100 % 10))) (n + 1) (nI (48 + k % 100 / 10))) n (nI (48 + k / 100 % 10))) := by
      refine ⟨fun j hj => (eb_un (by omega)).trans ((eb_un (by omega)).trans (eb_un (by omega))), fun j hj => ?_, eb_fu (eb_fu (eb_fu hff (by omega)) (by omega)) (by omega)⟩
      rw [hdd j hj, if_neg (by omega), if_neg h100]
      rw [es] at hj
      by_cases hj0 : j = 0
      · subst hj0
        rw [if_pos rfl]
        exact eb_us.trans (by rw [Nat.mod_eq_of_lt (by omega)])
      · rw [if_neg hj0]
        by_cases hj1 : j = 1
        · subst hj1
          rw [if_pos rfl]
          exact (eb_un (by omega)).trans eb_us
        · obtain rfl : j = 2 := by omega
          rw [if_neg hj1]
          exact (eb_un (by omega)).trans ((eb_un (by omega)).trans eb_us)
    refine lv_iload hx hb d104 (lv_at hl 4 rfl) ?_
    refine lv_if_eq (tgt := 118) hx hb d106 (by decide) (fun _ => ?_) (fun z => absurd rfl z)
    refine lv_iload hx hb d118 (lv_at hl 0 rfl) ?_
    exact W.iret hx hb hr (fun t ht hW => ⟨⟨_, (upd (upd (upd f (n + 2) (nI (48 + k % 100 % 10))) (n + 1) (nI (48 + k % 100 / 10))) n (nI (48 + k / 100 % 10))), rfl, hres, by rw [ht]; exact hP, va_K.moved hW.alike hK, hD⟩, hS.F ht⟩) hS.2.2 d120
