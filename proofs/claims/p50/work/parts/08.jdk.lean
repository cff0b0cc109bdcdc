/-! The texts' own methods: length, charAt, over a text that nobody writes. -/
def ev_Js (N : Nat) (fx : Nat → Int32) (a v : Nat) (U : State) (H : Heap) : Prop := va_O "java/lang/String" a (fun _ => False) U H ∧ va_OF "java/lang/String" "coder" "B" (.int 0) a (fun _ => False) U H ∧ va_OF "java/lang/String" "value" "[B" (.ref v) a (fun _ => False) U H ∧ va_T .byte v N (fun j => .int (fx j)) (fun _ => False) U H ∧ va_Z "java/lang/String" "COMPACT_STRINGS" "Z" (.int 1) (fun _ => False) U H ∧ va_Zq "jdk/internal/util/Preconditions" "SIOOBE_FORMATTER" "Ljava/util/function/BiFunction;" (fun _ => False) U H
theorem ev_Js.moved {N : Nat} {fx : Nat → Int32} {a v : Nat} {u U : State} {H : Heap} (hvm : u.vm.Alike U.vm) (h : ev_Js N fx a v u H) : ev_Js N fx a v U H := ⟨h.1.moved hvm, h.2.1.moved hvm, h.2.2.1.moved hvm, h.2.2.2.1.moved hvm, h.2.2.2.2.1.moved hvm, h.2.2.2.2.2.moved hvm⟩
theorem ev_Js.kept {N : Nat} {fx : Nat → Int32} {a v : Nat} {U : State} {H H1 : Heap} (h : ev_Js N fx a v U H) (hq : ∀ a : Nat, a < H.size → ¬ False → H1[a]? = H[a]?) : ev_Js N fx a v U H1 := ⟨h.1.kept hq, h.2.1.kept hq, h.2.2.1.kept hq, h.2.2.2.1.kept hq, h.2.2.2.2.1.kept hq, h.2.2.2.2.2.kept hq⟩
def ev_jP (args : List Value) (F : State → Heap → Prop) : Array Value → State → Prop := va_Pc args (fun U => F U U.heap)
def ev_jQ (v : Int32) : Array Value → State → Outcome → State → Prop := va_Qi (fun (r : Int32) (_ : Unit) => r = v) (fun _ _ => True) (fun _ => False)
def ev_jV : Array Value → State → Outcome → State → Prop := va_Qv (fun (_ : Unit) => True) (fun _ _ => True) (fun _ => False)
theorem ev_gi {a b : List Cond} {w : Cond} (ha : ∀ x ∈ a, x ∈ w :: ev_gw ∧ goodWord x = true) (hb : ∀ x ∈ b, x ∈ ev_gw) : GoodIn (w :: ev_gw) (a ++ b) := fun x hx => by
  rcases List.mem_append.mp hx with h | h
  · exact ⟨(ha x h).1, good_of_word (ha x h).2⟩
  · exact ⟨List.mem_cons_of_mem _ (hb x h), good_of_word (List.mem_filter.mp (hb x h)).2⟩
theorem ev_gwg {x : Cond} (h : x ∈ ev_gw) : (x.onTables && x.keeps) = true ∨ ∃ ty, x = .arrayClass ty := good_of_word (List.mem_filter.mp h).2
/-- a callee's words out of a caller's -/
theorem ev_gV {w0 : Cond} {own C : String} {idx : Nat} {y : MethodName} {cc : ByteArray} {mx : Nat} {rt : Option FieldType} (h1 : Cond.methodLink own idx y ∈ ev_gw) (h2 : Cond.instanceMethod y ∈ ev_gw) (h3 : Cond.selects C y y ∈ ev_gw) (h4 : Cond.initialized C ∈ ev_gw) (h5 : Cond.code y cc mx rt ∈ ev_gw) : GoodIn ev_gw (wsV own idx C y (Cond.code y cc mx rt :: ev_gw)) := by
  intro x hx
  unfold wsV at hx
  simp only [List.cons_append, List.nil_append, List.mem_cons] at hx
  rcases hx with rfl | rfl | rfl | rfl | rfl | hx
  · exact ⟨h1, ev_gwg h1⟩
  · exact ⟨h2, ev_gwg h2⟩
  · exact ⟨h3, ev_gwg h3⟩
  · exact ⟨h4, ev_gwg h4⟩
  · exact ⟨h5, ev_gwg h5⟩
  · exact ⟨hx, ev_gwg hx⟩
theorem ev_gS {own : String} {idx : Nat} {y : MethodName} {cc : ByteArray} {mx : Nat} {rt : Option FieldType} (h1 : Cond.methodLink own idx y ∈ ev_gw) (h2 : Cond.static y ∈ ev_gw) (h4 : Cond.initialized y.cls ∈ ev_gw) (h5 : Cond.code y cc mx rt ∈ ev_gw) : GoodIn ev_gw (va_wsS own idx y (Cond.code y cc mx rt :: ev_gw)) := by
  intro x hx
  unfold va_wsS at hx
  simp only [List.cons_append, List.nil_append, List.mem_cons] at hx
  rcases hx with rfl | rfl | rfl | rfl | hx
  · exact ⟨h1, ev_gwg h1⟩
  · exact ⟨h2, ev_gwg h2⟩
  · exact ⟨h4, ev_gwg h4⟩
  · exact ⟨h5, ev_gwg h5⟩
  · exact ⟨hx, ev_gwg hx⟩
abbrev yj_isLatin1 : MethodName := ⟨"java/lang/String", "isLatin1", "()Z"⟩
set_option maxHeartbeats 4000000 in
set_option maxRecDepth 100000 in
theorem ej_isLatin1 (l : Launch) (N : Nat) (fx : Nat → Int32) (a v : Nat) : Met l yj_isLatin1 (Cond.code yj_isLatin1 prog_28_method_154_code 1 (some .boolean) :: ev_gw) ({ frames := 0, cells := 0, slots := 0, locals := 0 }) (ev_jP [.ref a] (fun U H => ev_Js N fx a v U H)) (ev_jQ 1) 0 0 (fun _ => False) := by
  refine Met.ofW (cc := prog_28_method_154_code) (maxL := 1) (ret := (some .boolean)) (by decide) rfl ?_
  intro p e s m args below meth c s₁ B hml hv
  obtain ⟨rfl, hpre⟩ := hv
  have hx := B.exec
  have hb := B.bytes
  have hr := B.returns
  have hts0 := atoms_spec (ws := Cond.code yj_isLatin1 prog_28_method_154_code 1 (some .boolean) :: ev_gw) B.pre
  have hts : ∀ w ∈ ev_gw, w.before _ s = true := fun w hw => hts0 w (List.mem_cons_of_mem _ hw)
  have hown : s.vm.findClass "java/lang/String" = some m.cls := findClass_of_methodNamed B.named
  have hlocks := B.notSynchronized
  have hS : va_S (fun _ => False) s.heap s.heap [] := va_S.rf
  have hl := lv_entry ([.ref a]) (n := 1) (Nat.le_of_ble_eq_true rfl)
  rw [lg_entry_eq]
  generalize (lg_sl ([.ref a]) ++ List.replicate (1 - (lg_sl ([.ref a])).length) Slot.unset).toArray = ls at hl ⊢
  have hl : lv_has ls 1 [(0, .ref a)] := hl
  have d0 : decode prog_28_method_154_code 0 = .ok (.getstatic 38, 3) := by decide +kernel
  have d3 : decode prog_28_method_154_code 3 = .ok (.ifCond .eq (14), 3) := by decide +kernel
  have d6 : decode prog_28_method_154_code 6 = .ok (.aload_n 0, 1) := by decide +kernel
  have d7 : decode prog_28_method_154_code 7 = .ok (.getfield 15, 3) := by decide +kernel
  have d10 : decode prog_28_method_154_code 10 = .ok (.ifCond .ne (7), 3) := by decide +kernel
  have d13 : decode prog_28_method_154_code 13 = .ok (.iconst 1, 1) := by decide +kernel
  have d14 : decode prog_28_method_154_code 14 = .ok (.goto (4), 3) := by decide +kernel
  have d17 : decode prog_28_method_154_code 17 = .ok (.iconst 0, 1) := by decide +kernel
  have d18 : decode prog_28_method_154_code 18 = .ok (.ireturn, 1) := by decide +kernel
  refine va_gets hx hb hpre.2.2.2.2.1 hS hown (hts _ (ev_gm (p := 13215) (by decide +kernel) rfl)) (fun _ h9 => h9) d0 ?_
  refine lv_if_eq (tgt := 17) hx hb d3 (by decide) (fun z => absurd z (by decide)) (fun _ => ?_)
  refine lv_aload_n hx hb d6 rfl (lv_at hl 0 rfl) ?_
  refine vk_getf hx hb hpre.2.1 hS hown (hts _ (ev_gm (p := 15137) (by decide +kernel) rfl)) (fun _ h9 => h9) d7 ?_
  refine lv_if_ne (tgt := 17) hx hb d10 (by decide) (fun z => absurd rfl z) (fun _ => ?_)
  refine lv_iconst (v := 1) hx hb d13 (by decide) ?_
  refine lv_goto (tgt := 18) hx hb d14 (by decide) ?_
  exact W.zret hx hb hr (by first | rfl | decide) (fun t ht hW => ⟨⟨_, (), rfl, rfl, trivial⟩, hS.F ht⟩) hS.2.2 d18
abbrev yj_coder : MethodName := ⟨"java/lang/String", "coder", "()B"⟩
set_option maxHeartbeats 4000000 in
set_option maxRecDepth 100000 in
theorem ej_coder (l : Launch) (N : Nat) (fx : Nat → Int32) (a v : Nat) : Met l yj_coder (Cond.code yj_coder prog_28_method_152_code 1 (some .byte) :: ev_gw) ({ frames := 0, cells := 0, slots := 0, locals := 0 }) (ev_jP [.ref a] (fun U H => ev_Js N fx a v U H)) (ev_jQ 0) 0 0 (fun _ => False) := by
  refine Met.ofW (cc := prog_28_method_152_code) (maxL := 1) (ret := (some .byte)) (by decide) rfl ?_
  intro p e s m args below meth c s₁ B hml hv
  obtain ⟨rfl, hpre⟩ := hv
  have hx := B.exec
  have hb := B.bytes
  have hr := B.returns
  have hts0 := atoms_spec (ws := Cond.code yj_coder prog_28_method_152_code 1 (some .byte) :: ev_gw) B.pre
  have hts : ∀ w ∈ ev_gw, w.before _ s = true := fun w hw => hts0 w (List.mem_cons_of_mem _ hw)
  have hown : s.vm.findClass "java/lang/String" = some m.cls := findClass_of_methodNamed B.named
  have hlocks := B.notSynchronized
  have hS : va_S (fun _ => False) s.heap s.heap [] := va_S.rf
  have hl := lv_entry ([.ref a]) (n := 1) (Nat.le_of_ble_eq_true rfl)
  rw [lg_entry_eq]
  generalize (lg_sl ([.ref a]) ++ List.replicate (1 - (lg_sl ([.ref a])).length) Slot.unset).toArray = ls at hl ⊢
  have hl : lv_has ls 1 [(0, .ref a)] := hl
  have d0 : decode prog_28_method_152_code 0 = .ok (.getstatic 38, 3) := by decide +kernel
  have d3 : decode prog_28_method_152_code 3 = .ok (.ifCond .eq (10), 3) := by decide +kernel
  have d6 : decode prog_28_method_152_code 6 = .ok (.aload_n 0, 1) := by decide +kernel
  have d7 : decode prog_28_method_152_code 7 = .ok (.getfield 15, 3) := by decide +kernel
  have d10 : decode prog_28_method_152_code 10 = .ok (.goto (4), 3) := by decide +kernel
  have d13 : decode prog_28_method_152_code 13 = .ok (.iconst 1, 1) := by decide +kernel
  have d14 : decode prog_28_method_152_code 14 = .ok (.ireturn, 1) := by decide +kernel
  refine va_gets hx hb hpre.2.2.2.2.1 hS hown (hts _ (ev_gm (p := 13215) (by decide +kernel) rfl)) (fun _ h9 => h9) d0 ?_
  refine lv_if_eq (tgt := 13) hx hb d3 (by decide) (fun z => absurd z (by decide)) (fun _ => ?_)
  refine lv_aload_n hx hb d6 rfl (lv_at hl 0 rfl) ?_
  refine vk_getf hx hb hpre.2.1 hS hown (hts _ (ev_gm (p := 15137) (by decide +kernel) rfl)) (fun _ h9 => h9) d7 ?_
  refine lv_goto (tgt := 14) hx hb d10 (by decide) ?_
  exact W.zret hx hb hr (by first | rfl | decide) (fun t ht hW => ⟨⟨_, (), rfl, rfl, trivial⟩, hS.F ht⟩) hS.2.2 d14
abbrev yj_length : MethodName := ⟨"java/lang/String", "length", "()I"⟩
set_option maxHeartbeats 4000000 in
set_option maxRecDepth 100000 in
theorem ej_length (l : Launch) (N : Nat) (fx : Nat → Int32) (a v : Nat) : Met l yj_length (Cond.code yj_length prog_28_method_54_code 1 (some .int) :: ev_gw) ({ frames := 1, cells := 0, slots := 0, locals := 20 }) (ev_jP [.ref a] (fun U H => ev_Js N fx a v U H ∧ N < 2 ^ 31)) (ev_jQ (Int32.ofNat N)) 0 0 (fun _ => False) := by
  refine Met.ofW (cc := prog_28_method_54_code) (maxL := 1) (ret := (some .int)) (by decide) rfl ?_
  intro p e s m args below meth c s₁ B hml hv
  obtain ⟨rfl, hpre⟩ := hv
  have hx := B.exec
  have hb := B.bytes
  have hr := B.returns
  have hts0 := atoms_spec (ws := Cond.code yj_length prog_28_method_54_code 1 (some .int) :: ev_gw) B.pre
  have hts : ∀ w ∈ ev_gw, w.before _ s = true := fun w hw => hts0 w (List.mem_cons_of_mem _ hw)
  have hown : s.vm.findClass "java/lang/String" = some m.cls := findClass_of_methodNamed B.named
  have hlocks := B.notSynchronized
  have hS : va_S (fun _ => False) s.heap s.heap [] := va_S.rf
  have hl := lv_entry ([.ref a]) (n := 1) (Nat.le_of_ble_eq_true rfl)
  rw [lg_entry_eq]
  generalize (lg_sl ([.ref a]) ++ List.replicate (1 - (lg_sl ([.ref a])).length) Slot.unset).toArray = ls at hl ⊢
  have hl : lv_has ls 1 [(0, .ref a)] := hl
  have d0 : decode prog_28_method_54_code 0 = .ok (.aload_n 0, 1) := by decide +kernel
  have d1 : decode prog_28_method_54_code 1 = .ok (.getfield 9, 3) := by decide +kernel
  have d4 : decode prog_28_method_54_code 4 = .ok (.arraylength, 1) := by decide +kernel
  have d5 : decode prog_28_method_54_code 5 = .ok (.aload_n 0, 1) := by decide +kernel
  have d6 : decode prog_28_method_54_code 6 = .ok (.invokevirtual 335, 3) := by decide +kernel
  have d9 : decode prog_28_method_54_code 9 = .ok (.ishr, 1) := by decide +kernel
  have d10 : decode prog_28_method_54_code 10 = .ok (.ireturn, 1) := by decide +kernel
  obtain ⟨hpre, hlen⟩ := hpre
  refine lv_aload_n hx hb d0 rfl (lv_at hl 0 rfl) ?_
  refine vk_getf hx hb hpre.2.2.1 hS hown (hts _ (ev_gm (p := 15136) (by decide +kernel) rfl)) (fun _ h9 => h9) d1 ?_
  refine va_tlen hx hb hpre.2.2.2.1 hS rfl d4 ?_
  refine lv_aload_n hx hb d5 rfl (lv_at hl 0 rfl) ?_
  refine va_calli (va_runV (As := []) (rest := [.int (Int32.ofNat N)]) ⟨hx, hb, hml, hown, hts⟩ (ej_coder l N fx a v) (cwV 0 hts (ev_gV (w0 := .tt) (ev_gm (p := 13211) (by decide +kernel) rfl) (ev_gm (p := 13212) (by decide +kernel) rfl) (ev_gm (p := 13213) (by decide +kernel) rfl) (ev_ginit (by decide +kernel) rfl) (ev_gm (p := 13214) (by decide +kernel) rfl)) rfl rfl rfl (by decide +kernel) ⟨Nat.le_of_ble_eq_true rfl, Nat.le_of_ble_eq_true rfl⟩) ⟨fun a U g mk q => ⟨q.1, ev_Js.moved (Vm.Alike.refl U.vm) q.2⟩, va_Orecv hpre.1 hS, fun U hU hW => ⟨rfl, by show ev_Js N fx a v U U.heap; rw [hU]; exact (hpre).moved hW.alike⟩⟩ rfl rfl hl.1 rfl (lv_room (Nat.le_of_ble_eq_true rfl)) d6 ⟨Nat.le_refl _, Nat.le_refl _⟩) hS (fun q _ h => h) (fun q h => h) (fun r u t H1 locs1 ht hvm hw hB hz1 hk1 hS => ?_)
  have hw : r = 0 := hw
  subst hw
  refine lv_ishr hx hb d9 ?_
  have hz : Int32.ofNat N >>> ((0 : Int32) &&& 31) = Int32.ofNat N := sb_shr0 _
  rw [hz]
  exact W.iret hx hb hr (fun t ht hW => ⟨⟨_, (), rfl, rfl, trivial⟩, hS.F ht⟩) hS.2.2 d10
abbrev yj_pcheckN : MethodName := ⟨"jdk/internal/util/Preconditions", "checkIndex", "(IILjava/util/function/BiFunction;)I"⟩
set_option maxHeartbeats 4000000 in
set_option maxRecDepth 100000 in
theorem ej_pcheckN (l : Launch) (i n : Int32) (h0 : ¬ i < 0) (h1 : i < n) : Met l yj_pcheckN (Cond.code yj_pcheckN prog_39_method_11_code 3 (some .int) :: ev_gw) ({ frames := 0, cells := 0, slots := 0, locals := 0 }) (ev_jP [.int i, .int n, .null] (fun U H => True)) (ev_jQ i) 0 0 (fun _ => False) := by
  refine Met.ofW (cc := prog_39_method_11_code) (maxL := 3) (ret := (some .int)) (by decide) rfl ?_
  intro p e s m args below meth c s₁ B hml hv
  obtain ⟨rfl, hpre⟩ := hv
  have hx := B.exec
  have hb := B.bytes
  have hr := B.returns
  have hts0 := atoms_spec (ws := Cond.code yj_pcheckN prog_39_method_11_code 3 (some .int) :: ev_gw) B.pre
  have hts : ∀ w ∈ ev_gw, w.before _ s = true := fun w hw => hts0 w (List.mem_cons_of_mem _ hw)
  have hown : s.vm.findClass "jdk/internal/util/Preconditions" = some m.cls := findClass_of_methodNamed B.named
  have hlocks := B.notSynchronized
  have hS : va_S (fun _ => False) s.heap s.heap [] := va_S.rf
  have hl := lv_entry ([.int i, .int n, .null]) (n := 3) (Nat.le_of_ble_eq_true rfl)
  rw [lg_entry_eq]
  generalize (lg_sl ([.int i, .int n, .null]) ++ List.replicate (3 - (lg_sl ([.int i, .int n, .null])).length) Slot.unset).toArray = ls at hl ⊢
  have hl : lv_has ls 3 [(0, .int i), (1, .int n), (2, .null)] := hl
  have d0 : decode prog_39_method_11_code 0 = .ok (.iload_n 0, 1) := by decide +kernel
  have d1 : decode prog_39_method_11_code 1 = .ok (.ifCond .lt (8), 3) := by decide +kernel
  have d4 : decode prog_39_method_11_code 4 = .ok (.iload_n 0, 1) := by decide +kernel
  have d5 : decode prog_39_method_11_code 5 = .ok (.iload_n 1, 1) := by decide +kernel
  have d6 : decode prog_39_method_11_code 6 = .ok (.if_icmp .lt (10), 3) := by decide +kernel
  have d9 : decode prog_39_method_11_code 9 = .ok (.aload_n 2, 1) := by decide +kernel
  have d10 : decode prog_39_method_11_code 10 = .ok (.iload_n 0, 1) := by decide +kernel
  have d11 : decode prog_39_method_11_code 11 = .ok (.iload_n 1, 1) := by decide +kernel
  have d12 : decode prog_39_method_11_code 12 = .ok (.invokestatic 95, 3) := by decide +kernel
  have d15 : decode prog_39_method_11_code 15 = .ok (.athrow, 1) := by decide +kernel
  have d16 : decode prog_39_method_11_code 16 = .ok (.iload_n 0, 1) := by decide +kernel
  have d17 : decode prog_39_method_11_code 17 = .ok (.ireturn, 1) := by decide +kernel
  refine lv_iload_n hx hb d0 rfl (lv_at hl 0 rfl) ?_
  refine lv_if_lt (tgt := 9) hx hb d1 (by decide) (fun z => absurd z h0) (fun _ => ?_)
  refine lv_iload_n hx hb d4 rfl (lv_at hl 0 rfl) ?_
  refine lv_iload_n hx hb d5 rfl (lv_at hl 1 rfl) ?_
  refine lv_icmp_lt (tgt := 16) hx hb d6 (by decide) (fun _ => ?_) (fun z => absurd h1 z)
  refine lv_iload_n hx hb d16 rfl (lv_at hl 0 rfl) ?_
  exact W.iret hx hb hr (fun t ht hW => ⟨⟨_, (), rfl, rfl, trivial⟩, hS.F ht⟩) hS.2.2 d17
abbrev yj_pcheckR : MethodName := ⟨"jdk/internal/util/Preconditions", "checkIndex", "(IILjava/util/function/BiFunction;)I"⟩
set_option maxHeartbeats 4000000 in
set_option maxRecDepth 100000 in
theorem ej_pcheckR (l : Launch) (i n : Int32) (f : Nat) (h0 : ¬ i < 0) (h1 : i < n) : Met l yj_pcheckR (Cond.code yj_pcheckR prog_39_method_11_code 3 (some .int) :: ev_gw) ({ frames := 0, cells := 0, slots := 0, locals := 0 }) (ev_jP [.int i, .int n, .ref f] (fun U H => True)) (ev_jQ i) 0 0 (fun _ => False) := by
  refine Met.ofW (cc := prog_39_method_11_code) (maxL := 3) (ret := (some .int)) (by decide) rfl ?_
  intro p e s m args below meth c s₁ B hml hv
  obtain ⟨rfl, hpre⟩ := hv
  have hx := B.exec
  have hb := B.bytes
  have hr := B.returns
  have hts0 := atoms_spec (ws := Cond.code yj_pcheckR prog_39_method_11_code 3 (some .int) :: ev_gw) B.pre
  have hts : ∀ w ∈ ev_gw, w.before _ s = true := fun w hw => hts0 w (List.mem_cons_of_mem _ hw)
  have hown : s.vm.findClass "jdk/internal/util/Preconditions" = some m.cls := findClass_of_methodNamed B.named
  have hlocks := B.notSynchronized
  have hS : va_S (fun _ => False) s.heap s.heap [] := va_S.rf
  have hl := lv_entry ([.int i, .int n, .ref f]) (n := 3) (Nat.le_of_ble_eq_true rfl)
  rw [lg_entry_eq]
  generalize (lg_sl ([.int i, .int n, .ref f]) ++ List.replicate (3 - (lg_sl ([.int i, .int n, .ref f])).length) Slot.unset).toArray = ls at hl ⊢
  have hl : lv_has ls 3 [(0, .int i), (1, .int n), (2, .ref f)] := hl
  have d0 : decode prog_39_method_11_code 0 = .ok (.iload_n 0, 1) := by decide +kernel
  have d1 : decode prog_39_method_11_code 1 = .ok (.ifCond .lt (8), 3) := by decide +kernel
  have d4 : decode prog_39_method_11_code 4 = .ok (.iload_n 0, 1) := by decide +kernel
  have d5 : decode prog_39_method_11_code 5 = .ok (.iload_n 1, 1) := by decide +kernel
  have d6 : decode prog_39_method_11_code 6 = .ok (.if_icmp .lt (10), 3) := by decide +kernel
  have d9 : decode prog_39_method_11_code 9 = .ok (.aload_n 2, 1) := by decide +kernel
  have d10 : decode prog_39_method_11_code 10 = .ok (.iload_n 0, 1) := by decide +kernel
  have d11 : decode prog_39_method_11_code 11 = .ok (.iload_n 1, 1) := by decide +kernel
  have d12 : decode prog_39_method_11_code 12 = .ok (.invokestatic 95, 3) := by decide +kernel
  have d15 : decode prog_39_method_11_code 15 = .ok (.athrow, 1) := by decide +kernel
  have d16 : decode prog_39_method_11_code 16 = .ok (.iload_n 0, 1) := by decide +kernel
  have d17 : decode prog_39_method_11_code 17 = .ok (.ireturn, 1) := by decide +kernel
  refine lv_iload_n hx hb d0 rfl (lv_at hl 0 rfl) ?_
  refine lv_if_lt (tgt := 9) hx hb d1 (by decide) (fun z => absurd z h0) (fun _ => ?_)
  refine lv_iload_n hx hb d4 rfl (lv_at hl 0 rfl) ?_
  refine lv_iload_n hx hb d5 rfl (lv_at hl 1 rfl) ?_
  refine lv_icmp_lt (tgt := 16) hx hb d6 (by decide) (fun _ => ?_) (fun z => absurd h1 z)
  refine lv_iload_n hx hb d16 rfl (lv_at hl 0 rfl) ?_
  exact W.iret hx hb hr (fun t ht hW => ⟨⟨_, (), rfl, rfl, trivial⟩, hS.F ht⟩) hS.2.2 d17
abbrev yj_scheck : MethodName := ⟨"java/lang/String", "checkIndex", "(II)V"⟩
set_option maxHeartbeats 4000000 in
set_option maxRecDepth 100000 in
theorem ej_scheck (l : Launch) (i n : Int32) (h0 : ¬ i < 0) (h1 : i < n) : Met l yj_scheck (Cond.code yj_scheck prog_28_method_155_code 2 none :: ev_gw) ({ frames := 1, cells := 0, slots := 0, locals := 22 }) (ev_jP [.int i, .int n] (fun U H => va_Zq "jdk/internal/util/Preconditions" "SIOOBE_FORMATTER" "Ljava/util/function/BiFunction;" (fun _ => False) U H)) (ev_jV) 0 0 (fun _ => False) := by
  refine Met.ofW (cc := prog_28_method_155_code) (maxL := 2) (ret := none) (by decide) rfl ?_
  intro p e s m args below meth c s₁ B hml hv
  obtain ⟨rfl, hpre⟩ := hv
  have hx := B.exec
  have hb := B.bytes
  have hr := B.returns
  have hts0 := atoms_spec (ws := Cond.code yj_scheck prog_28_method_155_code 2 none :: ev_gw) B.pre
  have hts : ∀ w ∈ ev_gw, w.before _ s = true := fun w hw => hts0 w (List.mem_cons_of_mem _ hw)
  have hown : s.vm.findClass "java/lang/String" = some m.cls := findClass_of_methodNamed B.named
  have hlocks := B.notSynchronized
  have hS : va_S (fun _ => False) s.heap s.heap [] := va_S.rf
  have hl := lv_entry ([.int i, .int n]) (n := 2) (Nat.le_of_ble_eq_true rfl)
  rw [lg_entry_eq]
  generalize (lg_sl ([.int i, .int n]) ++ List.replicate (2 - (lg_sl ([.int i, .int n])).length) Slot.unset).toArray = ls at hl ⊢
  have hl : lv_has ls 2 [(0, .int i), (1, .int n)] := hl
  have d0 : decode prog_28_method_155_code 0 = .ok (.iload_n 0, 1) := by decide +kernel
  have d1 : decode prog_28_method_155_code 1 = .ok (.iload_n 1, 1) := by decide +kernel
  have d2 : decode prog_28_method_155_code 2 = .ok (.getstatic 1053, 3) := by decide +kernel
  have d5 : decode prog_28_method_155_code 5 = .ok (.invokestatic 1059, 3) := by decide +kernel
  have d8 : decode prog_28_method_155_code 8 = .ok (.pop, 1) := by decide +kernel
  have d9 : decode prog_28_method_155_code 9 = .ok (.return_, 1) := by decide +kernel
  refine lv_iload_n hx hb d0 rfl (lv_at hl 0 rfl) ?_
  refine lv_iload_n hx hb d1 rfl (lv_at hl 1 rfl) ?_
  rcases hpre with hpre | ⟨f, hpre⟩
  · refine va_gets hx hb hpre hS hown (hts _ (ev_gm (p := 13231) (by decide +kernel) rfl)) (fun _ h9 => h9) d2 ?_
    refine va_calli (va_runS (As := [.int i, .int n, .null]) (rest := []) ⟨hx, hb, hml, hown, hts⟩ (ej_pcheckN l i n h0 h1) (va_cwS 3 hts (ev_gS (ev_gm (p := 13233) (by decide +kernel) rfl) (ev_gm (p := 13234) (by decide +kernel) rfl) (ev_ginit (by decide +kernel) rfl) (ev_gm (p := 13235) (by decide +kernel) rfl)) rfl rfl rfl (by decide +kernel) ⟨Nat.le_of_ble_eq_true rfl, Nat.le_of_ble_eq_true rfl⟩) ⟨fun a U g mk q => ⟨q.1, trivial⟩, fun U hU hW => ⟨rfl, trivial⟩⟩ rfl rfl hl.1 rfl (lv_room (Nat.le_of_ble_eq_true rfl)) d5 ⟨Nat.le_refl _, Nat.le_refl _⟩) hS (fun q _ h => h) (fun q h => h) (fun r u t H1 locs1 ht hvm hw hB hz1 hk1 hS => ?_)
    refine lv_pop hx hb d8 rfl ?_
    exact W.vret hx hb hr (fun t ht hW => ⟨⟨(), rfl, trivial, trivial⟩, hS.F ht⟩) hS.2.2 d9
  · refine va_gets hx hb hpre hS hown (hts _ (ev_gm (p := 13231) (by decide +kernel) rfl)) (fun _ h9 => h9) d2 ?_
    refine va_calli (va_runS (As := [.int i, .int n, .ref f]) (rest := []) ⟨hx, hb, hml, hown, hts⟩ (ej_pcheckR l i n f h0 h1) (va_cwS 3 hts (ev_gS (ev_gm (p := 13233) (by decide +kernel) rfl) (ev_gm (p := 13234) (by decide +kernel) rfl) (ev_ginit (by decide +kernel) rfl) (ev_gm (p := 13235) (by decide +kernel) rfl)) rfl rfl rfl (by decide +kernel) ⟨Nat.le_of_ble_eq_true rfl, Nat.le_of_ble_eq_true rfl⟩) ⟨fun a U g mk q => ⟨q.1, trivial⟩, fun U hU hW => ⟨rfl, trivial⟩⟩ rfl rfl hl.1 rfl (lv_room (Nat.le_of_ble_eq_true rfl)) d5 ⟨Nat.le_refl _, Nat.le_refl _⟩) hS (fun q _ h => h) (fun q h => h) (fun r u t H1 locs1 ht hvm hw hB hz1 hk1 hS => ?_)
    refine lv_pop hx hb d8 rfl ?_
    exact W.vret hx hb hr (fun t ht hW => ⟨⟨(), rfl, trivial, trivial⟩, hS.F ht⟩) hS.2.2 d9
def ev_tbg (N : Nat) (fx : Nat → Int32) : Prop := N < 2 ^ 31 ∧ ∀ j, j < N → ((fx j &&& 255).toUInt32 % 65536).toInt32 = fx j ∧ narrow .char (.int (fx j)) = .int (fx j)
theorem ev_tbc : ∀ k, k < 17 → ∀ j, j < (ev_tb k).length → (((ev_tb k).getD j 0 &&& 255).toUInt32 % 65536).toInt32 = (ev_tb k).getD j 0 ∧ narrow .char (.int ((ev_tb k).getD j 0)) = .int ((ev_tb k).getD j 0) := by decide +kernel
theorem ev_tbl : ∀ k, (ev_tb k).length < 100 := by
  intro k
  unfold ev_tb
  split <;> decide
theorem ev_tbg_k {k : Nat} (hk : k < 17) : ev_tbg (ev_tb k).length (fun j => (ev_tb k).getD j 0) := ⟨Nat.lt_of_lt_of_le (ev_tbl k) (by decide), ev_tbc k hk⟩
theorem ev_inlt {i : Int32} {n : Nat} (h : vp_in i n) (hn : n < 2 ^ 31) : ¬ i < 0 ∧ i < Int32.ofNat n := by
  obtain ⟨j, hj, rfl⟩ := vp_in_of h hn
  exact ⟨nI_pos (by omega), nI_lt hj hn⟩
abbrev yj_lcharAt : MethodName := ⟨"java/lang/StringLatin1", "charAt", "([BI)C"⟩
set_option maxHeartbeats 4000000 in
set_option maxRecDepth 100000 in
theorem ej_lcharAt (l : Launch) (N : Nat) (fx : Nat → Int32) (v : Nat) (hk : ev_tbg N fx) (i : Int32) (hi : vp_in i N) : Met l yj_lcharAt (Cond.code yj_lcharAt prog_30_method_2_code 2 (some .char) :: ev_gw) ({ frames := 2, cells := 0, slots := 0, locals := 43 }) (ev_jP [.ref v, .int i] (fun U H => va_T .byte v N (fun j => .int (fx j)) (fun _ => False) U H ∧ va_Zq "jdk/internal/util/Preconditions" "SIOOBE_FORMATTER" "Ljava/util/function/BiFunction;" (fun _ => False) U H)) (ev_jQ (fx i.toNatClampNeg)) 0 0 (fun _ => False) := by
  refine Met.ofW (cc := prog_30_method_2_code) (maxL := 2) (ret := (some .char)) (by decide) rfl ?_
  intro p e s m args below meth c s₁ B hml hv
  obtain ⟨rfl, hpre⟩ := hv
  have hx := B.exec
  have hb := B.bytes
  have hr := B.returns
  have hts0 := atoms_spec (ws := Cond.code yj_lcharAt prog_30_method_2_code 2 (some .char) :: ev_gw) B.pre
  have hts : ∀ w ∈ ev_gw, w.before _ s = true := fun w hw => hts0 w (List.mem_cons_of_mem _ hw)
  have hown : s.vm.findClass "java/lang/StringLatin1" = some m.cls := findClass_of_methodNamed B.named
  have hlocks := B.notSynchronized
  have hS : va_S (fun _ => False) s.heap s.heap [] := va_S.rf
  have hl := lv_entry ([.ref v, .int i]) (n := 2) (Nat.le_of_ble_eq_true rfl)
  rw [lg_entry_eq]
  generalize (lg_sl ([.ref v, .int i]) ++ List.replicate (2 - (lg_sl ([.ref v, .int i])).length) Slot.unset).toArray = ls at hl ⊢
  have hl : lv_has ls 2 [(0, .ref v), (1, .int i)] := hl
  have d0 : decode prog_30_method_2_code 0 = .ok (.iload_n 1, 1) := by decide +kernel
  have d1 : decode prog_30_method_2_code 1 = .ok (.aload_n 0, 1) := by decide +kernel
  have d2 : decode prog_30_method_2_code 2 = .ok (.arraylength, 1) := by decide +kernel
  have d3 : decode prog_30_method_2_code 3 = .ok (.invokestatic 9, 3) := by decide +kernel
  have d6 : decode prog_30_method_2_code 6 = .ok (.aload_n 0, 1) := by decide +kernel
  have d7 : decode prog_30_method_2_code 7 = .ok (.iload_n 1, 1) := by decide +kernel
  have d8 : decode prog_30_method_2_code 8 = .ok (.baload, 1) := by decide +kernel
  have d9 : decode prog_30_method_2_code 9 = .ok (.sipush (255), 3) := by decide +kernel
  have d12 : decode prog_30_method_2_code 12 = .ok (.iand, 1) := by decide +kernel
  have d13 : decode prog_30_method_2_code 13 = .ok (.i2c, 1) := by decide +kernel
  have d14 : decode prog_30_method_2_code 14 = .ok (.ireturn, 1) := by decide +kernel
  obtain ⟨hT, hZ⟩ := hpre
  have hlen : N < 2 ^ 31 := hk.1
  obtain ⟨g0, g1⟩ := ev_inlt hi hlen
  have hj : i.toNatClampNeg < N := Nat.lt_of_not_le fun z => hi (Or.inr z)
  obtain ⟨q1, q2⟩ := hk.2 _ hj
  refine lv_iload_n hx hb d0 rfl (lv_at hl 1 rfl) ?_
  refine lv_aload_n hx hb d1 rfl (lv_at hl 0 rfl) ?_
  refine va_tlen hx hb hT hS rfl d2 ?_
  refine va_callv (va_runS (As := [.int i, .int (Int32.ofNat N)]) (rest := []) ⟨hx, hb, hml, hown, hts⟩ (ej_scheck l i _ g0 g1) (va_cwS 2 hts (ev_gS (ev_gm (p := 13228) (by decide +kernel) rfl) (ev_gm (p := 13229) (by decide +kernel) rfl) (ev_ginit (by decide +kernel) rfl) (ev_gm (p := 13230) (by decide +kernel) rfl)) rfl rfl rfl (by decide +kernel) ⟨Nat.le_of_ble_eq_true rfl, Nat.le_of_ble_eq_true rfl⟩) ⟨fun a U g mk q => ⟨q.1, va_Zq.moved (Vm.Alike.refl U.vm) q.2⟩, fun U hU hW => ⟨rfl, by show va_Zq _ _ _ _ U U.heap; rw [hU]; exact hZ.moved hW.alike⟩⟩ rfl rfl hl.1 rfl (lv_room (Nat.le_of_ble_eq_true rfl)) d3 ⟨Nat.le_refl _, Nat.le_refl _⟩) hS (fun q _ h => h) (fun q h => h) (fun u t H1 locs1 ht hvm hw hB hz1 hk1 hS => ?_)
  refine lv_aload_n hx hb d6 rfl (lv_at hl 0 rfl) ?_
  refine lv_iload_n hx hb d7 rfl (lv_at hl 1 rfl) ?_
  refine va_tb hx hb hT hS hi rfl d8 ?_
  refine lv_sipush (v := 255) hx hb d9 (by decide) ?_
  refine lv_iand hx hb d12 ?_
  refine lv_i2c hx hb d13 q1 ?_
  exact W.zret hx hb hr q2 (fun t ht hW => ⟨⟨_, (), rfl, rfl, trivial⟩, hS.F ht⟩) hS.2.2 d14
abbrev yj_charAt : MethodName := ⟨"java/lang/String", "charAt", "(I)C"⟩
set_option maxHeartbeats 4000000 in
set_option maxRecDepth 100000 in
theorem ej_charAt (l : Launch) (N : Nat) (fx : Nat → Int32) (a v : Nat) (hk : ev_tbg N fx) (i : Int32) (hi : vp_in i N) : Met l yj_charAt (Cond.code yj_charAt prog_28_method_56_code 2 (some .char) :: ev_gw) ({ frames := 3, cells := 0, slots := 0, locals := 64 }) (ev_jP [.ref a, .int i] (fun U H => ev_Js N fx a v U H)) (ev_jQ (fx i.toNatClampNeg)) 0 0 (fun _ => False) := by
  refine Met.ofW (cc := prog_28_method_56_code) (maxL := 2) (ret := (some .char)) (by decide) rfl ?_
  intro p e s m args below meth c s₁ B hml hv
  obtain ⟨rfl, hpre⟩ := hv
  have hx := B.exec
  have hb := B.bytes
  have hr := B.returns
  have hts0 := atoms_spec (ws := Cond.code yj_charAt prog_28_method_56_code 2 (some .char) :: ev_gw) B.pre
  have hts : ∀ w ∈ ev_gw, w.before _ s = true := fun w hw => hts0 w (List.mem_cons_of_mem _ hw)
  have hown : s.vm.findClass "java/lang/String" = some m.cls := findClass_of_methodNamed B.named
  have hlocks := B.notSynchronized
  have hS : va_S (fun _ => False) s.heap s.heap [] := va_S.rf
  have hl := lv_entry ([.ref a, .int i]) (n := 2) (Nat.le_of_ble_eq_true rfl)
  rw [lg_entry_eq]
  generalize (lg_sl ([.ref a, .int i]) ++ List.replicate (2 - (lg_sl ([.ref a, .int i])).length) Slot.unset).toArray = ls at hl ⊢
  have hl : lv_has ls 2 [(0, .ref a), (1, .int i)] := hl
  have d0 : decode prog_28_method_56_code 0 = .ok (.aload_n 0, 1) := by decide +kernel
  have d1 : decode prog_28_method_56_code 1 = .ok (.invokevirtual 492, 3) := by decide +kernel
  have d4 : decode prog_28_method_56_code 4 = .ok (.ifCond .eq (12), 3) := by decide +kernel
  have d7 : decode prog_28_method_56_code 7 = .ok (.aload_n 0, 1) := by decide +kernel
  have d8 : decode prog_28_method_56_code 8 = .ok (.getfield 9, 3) := by decide +kernel
  have d11 : decode prog_28_method_56_code 11 = .ok (.iload_n 1, 1) := by decide +kernel
  have d12 : decode prog_28_method_56_code 12 = .ok (.invokestatic 495, 3) := by decide +kernel
  have d15 : decode prog_28_method_56_code 15 = .ok (.ireturn, 1) := by decide +kernel
  have d16 : decode prog_28_method_56_code 16 = .ok (.aload_n 0, 1) := by decide +kernel
  have d17 : decode prog_28_method_56_code 17 = .ok (.getfield 9, 3) := by decide +kernel
  have d20 : decode prog_28_method_56_code 20 = .ok (.iload_n 1, 1) := by decide +kernel
  have d21 : decode prog_28_method_56_code 21 = .ok (.invokestatic 498, 3) := by decide +kernel
  have d24 : decode prog_28_method_56_code 24 = .ok (.ireturn, 1) := by decide +kernel
  have hj : i.toNatClampNeg < N := Nat.lt_of_not_le fun z => hi (Or.inr z)
  obtain ⟨q1, q2⟩ := hk.2 _ hj
  refine lv_aload_n hx hb d0 rfl (lv_at hl 0 rfl) ?_
  refine va_calli (va_runV (As := []) (rest := []) ⟨hx, hb, hml, hown, hts⟩ (ej_isLatin1 l N fx a v) (cwV 0 hts (ev_gV (w0 := .tt) (ev_gm (p := 13221) (by decide +kernel) rfl) (ev_gm (p := 13222) (by decide +kernel) rfl) (ev_gm (p := 13223) (by decide +kernel) rfl) (ev_ginit (by decide +kernel) rfl) (ev_gm (p := 13224) (by decide +kernel) rfl)) rfl rfl rfl (by decide +kernel) ⟨Nat.le_of_ble_eq_true rfl, Nat.le_of_ble_eq_true rfl⟩) ⟨fun a U g mk q => ⟨q.1, ev_Js.moved (Vm.Alike.refl U.vm) q.2⟩, va_Orecv hpre.1 hS, fun U hU hW => ⟨rfl, by show ev_Js N fx a v U U.heap; rw [hU]; exact (hpre).moved hW.alike⟩⟩ rfl rfl hl.1 rfl (lv_room (Nat.le_of_ble_eq_true rfl)) d1 ⟨Nat.le_refl _, Nat.le_refl _⟩) hS (fun q _ h => h) (fun q h => h) (fun r u t H1 locs1 ht hvm hw hB hz1 hk1 hS => ?_)
  have hw : r = 1 := hw
  subst hw
  have hpre1 : ev_Js N fx a v s H1 := hpre.kept hk1
  refine lv_if_eq (tgt := 16) hx hb d4 (by decide) (fun z => absurd z (by decide)) (fun _ => ?_)
  refine lv_aload_n hx hb d7 rfl (lv_at hl 0 rfl) ?_
  refine vk_getf hx hb hpre.2.2.1 hS hown (hts _ (ev_gm (p := 15136) (by decide +kernel) rfl)) (fun _ h9 => h9) d8 ?_
  refine lv_iload_n hx hb d11 rfl (lv_at hl 1 rfl) ?_
  refine va_calli (va_runS (As := [.ref v, .int i]) (rest := []) ⟨hx, hb, hml, hown, hts⟩ (ej_lcharAt l N fx v hk i hi) (va_cwS 2 hts (ev_gS (ev_gm (p := 13225) (by decide +kernel) rfl) (ev_gm (p := 13226) (by decide +kernel) rfl) (ev_ginit (by decide +kernel) rfl) (ev_gm (p := 13227) (by decide +kernel) rfl)) rfl rfl rfl (by decide +kernel) ⟨Nat.le_of_ble_eq_true rfl, Nat.le_of_ble_eq_true rfl⟩) ⟨fun a U g mk q => ⟨q.1, va_T.moved (Vm.Alike.refl U.vm) q.2.1, va_Zq.moved (Vm.Alike.refl U.vm) q.2.2⟩, fun U hU hW => ⟨rfl, by show va_T _ _ _ _ _ U U.heap ∧ va_Zq _ _ _ _ U U.heap; rw [hU]; exact ⟨hpre1.2.2.2.1.moved hW.alike, hpre1.2.2.2.2.2.moved hW.alike⟩⟩⟩ rfl rfl hl.1 rfl (lv_room (Nat.le_of_ble_eq_true rfl)) d12 ⟨Nat.le_refl _, Nat.le_refl _⟩) hS (fun q _ h => h) (fun q h => h) (fun r u t H1 locs1 ht hvm hw hB hz1 hk1 hS => ?_)
  have hw : r = fx i.toNatClampNeg := hw
  subst hw
  exact W.zret hx hb hr q2 (fun t ht hW => ⟨⟨_, (), rfl, rfl, trivial⟩, hS.F ht⟩) hS.2.2 d15
