/-! The builder of texts: what her methods do, by rows of the kit. Her world: herself (class 0), her bytes. -/
def eb_F : u_T := fun k => match k with
  | 0 => ("java/lang/AbstractStringBuilder", "value", "[B", false)
  | 1 => ("java/lang/AbstractStringBuilder", "coder", "B", false)
  | 2 => ("java/lang/AbstractStringBuilder", "maybeLatin1", "Z", false)
  | _ => ("java/lang/AbstractStringBuilder", "count", "I", false)
def eb_ty : Nat → FieldType := fun k => match k with
  | 0 => .array .byte
  | 1 => .byte
  | 2 => .boolean
  | _ => .int
def eb_G : u_T := fun k => match k with
  | 0 => ("java/lang/String", "value", "[B", true)
  | 1 => ("java/lang/String", "coder", "B", true)
  | 2 => ("java/lang/String", "hash", "I", false)
  | _ => ("java/lang/String", "hashIsZero", "Z", false)
def eb_tz : Nat → FieldType := fun k => match k with
  | 0 => .array .byte
  | 1 => .byte
  | 2 => .int
  | _ => .boolean
abbrev eb_cl : List vw_C := [("java/lang/StringBuilder", eb_F, 4), ("java/lang/String", eb_G, 4)]
theorem eb_nm : ∀ a, a < 4 → ∀ b, b < 4 → a ≠ b → (eb_F a).2.1 ≠ (eb_F b).2.1 := by decide +kernel
theorem eb_tyo : ∀ k, k < 4 → parseFieldDescriptor (eb_F k).2.2.1 = some (eb_ty k) := by decide +kernel
theorem eb_nz : ∀ a, a < 4 → ∀ b, b < 4 → a ≠ b → (eb_G a).2.1 ≠ (eb_G b).2.1 := by decide +kernel
theorem eb_tzo : ∀ k, k < 4 → parseFieldDescriptor (eb_G k).2.2.1 = some (eb_tz k) := by decide +kernel
/-- the builder's private methods, that her own class holds above her -/
def eb_pv : List Cond := [.selects "java/lang/StringBuilder" ⟨"java/lang/AbstractStringBuilder", "ensureCapacityInternal", "(I)V"⟩ ⟨"java/lang/AbstractStringBuilder", "ensureCapacityInternal", "(I)V"⟩, .selects "java/lang/StringBuilder" ⟨"java/lang/AbstractStringBuilder", "newCapacity", "(I)I"⟩ ⟨"java/lang/AbstractStringBuilder", "newCapacity", "(I)I"⟩, .selects "java/lang/StringBuilder" ⟨"java/lang/AbstractStringBuilder", "putStringAt", "(ILjava/lang/String;)V"⟩ ⟨"java/lang/AbstractStringBuilder", "putStringAt", "(ILjava/lang/String;)V"⟩, .selects "java/lang/StringBuilder" ⟨"java/lang/AbstractStringBuilder", "inflateIfNeededFor", "(Ljava/lang/String;)V"⟩ ⟨"java/lang/AbstractStringBuilder", "inflateIfNeededFor", "(Ljava/lang/String;)V"⟩]
def eb_gw : List Cond := eb_pv ++ ev_gw
theorem eb_m {w : Cond} (h : w ∈ ev_gw) : w ∈ eb_gw := List.mem_append_right _ h
theorem eb_p {w : Cond} {k : Nat} (h : eb_pv[k]? = some w) : w ∈ eb_gw := List.mem_append_left _ (List.mem_of_getElem? h)
theorem eb_gg {x : Cond} (h : x ∈ eb_gw) : (x.onTables && x.keeps) = true ∨ ∃ ty, x = .arrayClass ty := by
  rcases List.mem_append.mp h with h | h
  · refine good_of_word ?_
    revert x
    decide +kernel
  · exact ev_gwg h
/-- the words that a callee may bring -/
def eb_ok (ws : List Cond) : Prop := ∀ x ∈ ws, x ∈ eb_gw
theorem eb_ok1 : eb_ok eb_gw := fun _ h => h
theorem eb_ok2 : eb_ok ev_gw := fun _ h => eb_m h
theorem eb_inl {l : List Cond} (h : l.all (fun w => decide (w ∈ lw_tbl) && goodWord w) = true) : ∀ w ∈ l, w ∈ eb_gw := fun w hw => by
  have := List.all_eq_true.mp h w hw
  rw [Bool.and_eq_true, decide_eq_true_eq] at this
  exact eb_m (List.mem_filter.mpr this)
theorem eb_sw : ∀ w ∈ u_ws "java/lang/StringBuilder" eb_F 4, w ∈ eb_gw := eb_inl (by decide +kernel)
theorem eb_zw : ∀ w ∈ u_ws "java/lang/String" eb_G 4, w ∈ eb_gw := eb_inl (by decide +kernel)
/-- a text outside the world -/
def eb_T (A : Nat → Prop) (N : Nat) (fx : Nat → Int32) (a v : Nat) (U : State) (H : Heap) : Prop := va_O "java/lang/String" a A U H ∧ va_OF "java/lang/String" "coder" "B" (.int 0) a A U H ∧ va_OF "java/lang/String" "value" "[B" (.ref v) a A U H ∧ va_T .byte v N (fun j => .int (fx j)) A U H ∧ va_Z "java/lang/String" "COMPACT_STRINGS" "Z" (.int 1) A U H ∧ va_Zq "jdk/internal/util/Preconditions" "SIOOBE_FORMATTER" "Ljava/util/function/BiFunction;" A U H
theorem eb_T.moved {A : Nat → Prop} {N : Nat} {fx : Nat → Int32} {a v : Nat} {u U : State} {H : Heap} (hvm : u.vm.Alike U.vm) (h : eb_T A N fx a v u H) : eb_T A N fx a v U H := ⟨h.1.moved hvm, h.2.1.moved hvm, h.2.2.1.moved hvm, h.2.2.2.1.moved hvm, h.2.2.2.2.1.moved hvm, h.2.2.2.2.2.moved hvm⟩
theorem eb_T.kept {A : Nat → Prop} {N : Nat} {fx : Nat → Int32} {a v : Nat} {U : State} {H H1 : Heap} (h : eb_T A N fx a v U H) (hq : ∀ a : Nat, a < H.size → ¬ A a → H1[a]? = H[a]?) : eb_T A N fx a v U H1 := ⟨h.1.kept hq, h.2.1.kept hq, h.2.2.1.kept hq, h.2.2.2.1.kept hq, h.2.2.2.2.1.kept hq, h.2.2.2.2.2.kept hq⟩
theorem eb_T.narrow {A B : Nat → Prop} {N : Nat} {fx : Nat → Int32} {a v : Nat} {U : State} {H : Heap} (h : eb_T A N fx a v U H) (hAB : ∀ q, B q → A q) : eb_T B N fx a v U H := ⟨h.1.narrow hAB, h.2.1.narrow hAB, h.2.2.1.narrow hAB, h.2.2.2.1.narrow hAB, h.2.2.2.2.1.narrow hAB, h.2.2.2.2.2.narrow hAB⟩
theorem eb_T.js {A : Nat → Prop} {N : Nat} {fx : Nat → Int32} {a v : Nat} {U : State} {H : Heap} (h : eb_T A N fx a v U H) : ev_Js N fx a v U H := h.narrow (fun _ z => z.elim)
/-- a world is kept where no cell of it is changed -/
theorem eb_keep {D : va_G} {cl : List vw_C} {ws : va_W} {H H1 : Heap} (hP : va_P D cl ws H) (hk : ∀ q : Nat, q < H.size → ¬ False → H1[q]? = H[q]?) : va_P D cl ws H1 := by
  intro k q hq
  have h := hP k q hq
  obtain ⟨a, e⟩ := q
  have hlt : a < H.size := by
    cases e with
    | inl x => exact (Array.getElem?_eq_some_iff.mp (show H[a]? = some _ from h)).1
    | inr o =>
      obtain ⟨r, -, cell, g1, -⟩ := h
      exact (Array.getElem?_eq_some_iff.mp g1).1
  have he := hk a hlt (fun z => z)
  cases e with
  | inl x => exact he.trans h
  | inr o =>
    obtain ⟨r, h1, cell, g1, g2⟩ := h
    exact ⟨r, h1, cell, he.trans g1, g2⟩
abbrev eb_W (b v : Nat) (cB : ClassId) (M : Nat) (f : Nat → Int32) (ml : Int32) (n : Nat) : va_W := [(b, .inr (0, [.ref v, .int 0, .int ml, .int (nI n)])), (v, .inl (cB, M, .inl f))]
def eb_gr (M mn : Nat) : Nat := M + max (mn - M) (M + 2)
def eb_ft (M : Nat) (f : Nat → Int32) : Prop := ∀ i, i < M → fits .byte (.int (f i)) = true
abbrev eb_S : Type := Nat × ClassId × Nat × (Nat → Int32)
/-- the builder behind a method: her bytes at v, of class c, M of them, f -/
def eb_B (D : va_G) (A : Nat → Prop) (b : Nat) (ml : Int32) (n : Nat) (u : eb_S) (t : State) : Prop := va_P D eb_cl (eb_W b u.1 u.2.1 u.2.2.1 u.2.2.2 ml n) t.heap ∧ va_K D eb_cl [(u.2.1, .byte)] t ∧ va_D A (eb_W b u.1 u.2.1 u.2.2.1 u.2.2.2 ml n)
theorem eb_gV {ws : List Cond} (ho : eb_ok ws) {own C : String} {idx : Nat} {y : MethodName} {cc : ByteArray} {mx : Nat} {rt : Option FieldType} (h1 : Cond.methodLink own idx y ∈ eb_gw) (h2 : Cond.instanceMethod y ∈ eb_gw) (h3 : Cond.selects C y y ∈ eb_gw) (h4 : Cond.initialized C ∈ eb_gw) (h5 : Cond.code y cc mx rt ∈ eb_gw) : GoodIn eb_gw (wsV own idx C y (Cond.code y cc mx rt :: ws)) := by
  intro z hz
  unfold wsV at hz
  simp only [List.cons_append, List.nil_append, List.mem_cons] at hz
  rcases hz with rfl | rfl | rfl | rfl | rfl | hz
  · exact ⟨h1, eb_gg h1⟩
  · exact ⟨h2, eb_gg h2⟩
  · exact ⟨h3, eb_gg h3⟩
  · exact ⟨h4, eb_gg h4⟩
  · exact ⟨h5, eb_gg h5⟩
  · exact ⟨ho _ hz, eb_gg (ho _ hz)⟩
theorem eb_gS {ws : List Cond} (ho : eb_ok ws) {own : String} {idx : Nat} {y : MethodName} {cc : ByteArray} {mx : Nat} {rt : Option FieldType} (h1 : Cond.methodLink own idx y ∈ eb_gw) (h2 : Cond.static y ∈ eb_gw) (h4 : Cond.initialized y.cls ∈ eb_gw) (h5 : Cond.code y cc mx rt ∈ eb_gw) : GoodIn eb_gw (va_wsS own idx y (Cond.code y cc mx rt :: ws)) := by
  intro z hz
  unfold va_wsS at hz
  simp only [List.cons_append, List.nil_append, List.mem_cons] at hz
  rcases hz with rfl | rfl | rfl | rfl | hz
  · exact ⟨h1, eb_gg h1⟩
  · exact ⟨h2, eb_gg h2⟩
  · exact ⟨h4, eb_gg h4⟩
  · exact ⟨h5, eb_gg h5⟩
  · exact ⟨ho _ hz, eb_gg (ho _ hz)⟩
theorem eb_gI {ws : List Cond} (ho : eb_ok ws) {y : MethodName} {cc : ByteArray} {mx : Nat} {rt : Option FieldType} (h5 : Cond.code y cc mx rt ∈ eb_gw) : GoodIn eb_gw (Cond.code y cc mx rt :: ws) := by
  intro z hz
  rcases List.mem_cons.mp hz with rfl | hz
  · exact ⟨h5, eb_gg h5⟩
  · exact ⟨ho _ hz, eb_gg (ho _ hz)⟩
theorem eb_gU {ws : List Cond} (ho : eb_ok ws) {own C : String} {idx : Nat} {x y : MethodName} {owner : String} {cc : ByteArray} {mx : Nat} {rt : Option FieldType} (h1 : Cond.methodLink own idx x ∈ eb_gw) (h2 : Cond.sameMethod x.cls owner x.name x.desc ∈ eb_gw) (h3 : Cond.selects C x y ∈ eb_gw) (h4 : Cond.instanceMethod y ∈ eb_gw) (h5 : Cond.initialized y.cls ∈ eb_gw) (h6 : Cond.code y cc mx rt ∈ eb_gw) : GoodIn eb_gw (va_wsU own idx C owner x y (Cond.code y cc mx rt :: ws)) := by
  intro z hz
  unfold va_wsU at hz
  simp only [List.cons_append, List.nil_append, List.mem_cons] at hz
  rcases hz with rfl | rfl | rfl | rfl | rfl | rfl | hz
  · exact ⟨h1, eb_gg h1⟩
  · exact ⟨h2, eb_gg h2⟩
  · exact ⟨h3, eb_gg h3⟩
  · exact ⟨h4, eb_gg h4⟩
  · exact ⟨h5, eb_gg h5⟩
  · exact ⟨h6, eb_gg h6⟩
  · exact ⟨ho _ hz, eb_gg (ho _ hz)⟩
theorem eb_gSU {ws : List Cond} (ho : eb_ok ws) {own : String} {idx : Nat} {y : MethodName} {cc : ByteArray} {mx : Nat} {rt : Option FieldType} (h1 : Cond.methodLink own idx y ∈ eb_gw) (h2 : Cond.sameMethod y.cls y.cls y.name y.desc ∈ eb_gw) (h3 : Cond.superclass own y.cls ∈ eb_gw) (h4 : Cond.instanceMethod y ∈ eb_gw) (h5 : Cond.initialized y.cls ∈ eb_gw) (h6 : Cond.code y cc mx rt ∈ eb_gw) : GoodIn eb_gw (va_wsSU own idx y (Cond.code y cc mx rt :: ws)) := by
  intro z hz
  unfold va_wsSU at hz
  simp only [List.cons_append, List.nil_append, List.mem_cons] at hz
  rcases hz with rfl | rfl | rfl | rfl | rfl | rfl | hz
  · exact ⟨h1, eb_gg h1⟩
  · exact ⟨h2, eb_gg h2⟩
  · exact ⟨h3, eb_gg h3⟩
  · exact ⟨h4, eb_gg h4⟩
  · exact ⟨h5, eb_gg h5⟩
  · exact ⟨h6, eb_gg h6⟩
  · exact ⟨ho _ hz, eb_gg (ho _ hz)⟩
theorem eb_gO {ws : List Cond} (ho : eb_ok ws) {own C : String} {idx : Nat} {x y : MethodName} {owner : String} {cc : ByteArray} {mx : Nat} {rt : Option FieldType} (h1 : Cond.methodLink own idx x ∈ eb_gw) (h2 : Cond.sameMethod x.cls owner x.name x.desc ∈ eb_gw) (h7 : Cond.instanceMethod ⟨owner, x.name, x.desc⟩ ∈ eb_gw) (h3 : Cond.selects C x y ∈ eb_gw) (h4 : Cond.instanceMethod y ∈ eb_gw) (h5 : Cond.initialized y.cls ∈ eb_gw) (h6 : Cond.code y cc mx rt ∈ eb_gw) : GoodIn eb_gw (va_wsO own idx C owner x y (Cond.code y cc mx rt :: ws)) := by
  intro z hz
  unfold va_wsO at hz
  simp only [List.cons_append, List.nil_append, List.mem_cons] at hz
  rcases hz with rfl | rfl | rfl | rfl | rfl | rfl | rfl | hz
  · exact ⟨h1, eb_gg h1⟩
  · exact ⟨h2, eb_gg h2⟩
  · exact ⟨h7, eb_gg h7⟩
  · exact ⟨h3, eb_gg h3⟩
  · exact ⟨h4, eb_gg h4⟩
  · exact ⟨h5, eb_gg h5⟩
  · exact ⟨h6, eb_gg h6⟩
  · exact ⟨ho _ hz, eb_gg (ho _ hz)⟩
abbrev ye_isLatin1 : MethodName := ⟨"java/lang/AbstractStringBuilder", "isLatin1", "()Z"⟩
set_option maxHeartbeats 4000000 in
set_option maxRecDepth 100000 in
theorem eb_isLatin1 (l : Launch) (D : va_G) (b v : Nat) (cB : ClassId) (M : Nat) (f : Nat → Int32) (ml : Int32) (n : Nat) : Met l ye_isLatin1 (Cond.code ye_isLatin1 prog_15_method_68_code 1 (some (.boolean)) :: eb_gw) ({ frames := 0, cells := 0, slots := 0, locals := 0 }) (ev_jP [.ref b] (fun U H => va_K D eb_cl [(cB, .byte)] U ∧ va_P D eb_cl (eb_W b v cB M f ml n) H ∧ va_Z "java/lang/String" "COMPACT_STRINGS" "Z" (.int 1) (fun _ => False) U H)) (ev_jQ 1) 0 0 (fun _ => False) := by
  refine Met.ofW (cc := prog_15_method_68_code) (maxL := 1) (ret := (some (.boolean))) (by decide) rfl ?_
  intro p e s m args below meth c s₁ B hml hv
  obtain ⟨rfl, hF⟩ := hv
  have hx := B.exec
  have hb := B.bytes
  have hr := B.returns
  have hts0 := atoms_spec (ws := Cond.code ye_isLatin1 prog_15_method_68_code 1 (some (.boolean)) :: eb_gw) B.pre
  have hts : ∀ w ∈ eb_gw, w.before _ s = true := fun w hw => hts0 w (List.mem_cons_of_mem _ hw)
  have hown : s.vm.findClass "java/lang/AbstractStringBuilder" = some m.cls := findClass_of_methodNamed B.named
  have hlocks := B.notSynchronized
  have hS : va_S (fun _ => False) s.heap s.heap [] := va_S.rf
  have hl := lv_entry ([.ref b]) (n := 1) (Nat.le_of_ble_eq_true rfl)
  rw [lg_entry_eq]
  generalize (lg_sl ([.ref b]) ++ List.replicate (1 - (lg_sl ([.ref b])).length) Slot.unset).toArray = ls at hl ⊢
  have hl : lv_has ls 1 [(0, .ref b)] := hl
  have d0 : decode prog_15_method_68_code 0 = .ok (.getstatic 18, 3) := by decide +kernel
  have d3 : decode prog_15_method_68_code 3 = .ok (.ifCond .eq (14), 3) := by decide +kernel
  have d6 : decode prog_15_method_68_code 6 = .ok (.aload_n 0, 1) := by decide +kernel
  have d7 : decode prog_15_method_68_code 7 = .ok (.getfield 22, 3) := by decide +kernel
  have d10 : decode prog_15_method_68_code 10 = .ok (.ifCond .ne (7), 3) := by decide +kernel
  have d13 : decode prog_15_method_68_code 13 = .ok (.iconst 1, 1) := by decide +kernel
  have d14 : decode prog_15_method_68_code 14 = .ok (.goto (4), 3) := by decide +kernel
  have d18 : decode prog_15_method_68_code 18 = .ok (.ireturn, 1) := by decide +kernel
  obtain ⟨hK, hP, hZ⟩ := hF
  refine va_gets hx hb hZ hS hown (hts _ (eb_m (ev_gm (p := 14213) (by decide +kernel) rfl))) (fun _ h9 => h9) d0 ?_
  refine lv_if_eq (tgt := 17) hx hb d3 (by decide) (fun z => absurd z (by decide)) (fun _ => ?_)
  refine lv_aload_n hx hb d6 rfl (lv_at hl 0 rfl) ?_
  refine va_get (D := D) (ci := 0) (v := .int 0) (C := "java/lang/StringBuilder") (T := eb_F) (N := 4) hx hb hts eb_sw hown hK hP 0 rfl rfl 1 (by decide) (hts _ (eb_m (ev_gm (p := 15023) (by decide +kernel) rfl))) (fun _ h9 => h9) rfl d7 ?_
  refine lv_if_ne (tgt := 17) hx hb d10 (by decide) (fun z => absurd rfl z) (fun _ => ?_)
  refine lv_iconst (v := 1) hx hb d13 (by decide) ?_
  refine lv_goto (tgt := 18) hx hb d14 (by decide) ?_
  exact W.zret hx hb hr (by first | rfl | decide) (fun t ht hW => ⟨⟨_, (), rfl, rfl, trivial⟩, hS.F ht⟩) hS.2.2 d18
abbrev ye_canEncode : MethodName := ⟨"java/lang/StringLatin1", "canEncode", "(C)Z"⟩
set_option maxHeartbeats 4000000 in
set_option maxRecDepth 100000 in
theorem eb_canEncode (l : Launch) (D : va_G) (c0 : Nat) (hc : c0 < 256) : Met l ye_canEncode (Cond.code ye_canEncode prog_30_method_3_code 1 (some (.boolean)) :: eb_gw) ({ frames := 0, cells := 0, slots := 0, locals := 0 }) (ev_jP [.int (nI c0)] (fun U H => True)) (ev_jQ 1) 0 0 (fun _ => False) := by
  refine Met.ofW (cc := prog_30_method_3_code) (maxL := 1) (ret := (some (.boolean))) (by decide) rfl ?_
  intro p e s m args below meth c s₁ B hml hv
  obtain ⟨rfl, hF⟩ := hv
  have hx := B.exec
  have hb := B.bytes
  have hr := B.returns
  have hts0 := atoms_spec (ws := Cond.code ye_canEncode prog_30_method_3_code 1 (some (.boolean)) :: eb_gw) B.pre
  have hts : ∀ w ∈ eb_gw, w.before _ s = true := fun w hw => hts0 w (List.mem_cons_of_mem _ hw)
  have hown : s.vm.findClass "java/lang/StringLatin1" = some m.cls := findClass_of_methodNamed B.named
  have hlocks := B.notSynchronized
  have hS : va_S (fun _ => False) s.heap s.heap [] := va_S.rf
  have hl := lv_entry ([.int (nI c0)]) (n := 1) (Nat.le_of_ble_eq_true rfl)
  rw [lg_entry_eq]
  generalize (lg_sl ([.int (nI c0)]) ++ List.replicate (1 - (lg_sl ([.int (nI c0)])).length) Slot.unset).toArray = ls at hl ⊢
  have hl : lv_has ls 1 [(0, .int (nI c0))] := hl
  have d0 : decode prog_30_method_3_code 0 = .ok (.iload_n 0, 1) := by decide +kernel
  have d1 : decode prog_30_method_3_code 1 = .ok (.sipush (255), 3) := by decide +kernel
  have d4 : decode prog_30_method_3_code 4 = .ok (.if_icmp .gt (7), 3) := by decide +kernel
  have d7 : decode prog_30_method_3_code 7 = .ok (.iconst 1, 1) := by decide +kernel
  have d8 : decode prog_30_method_3_code 8 = .ok (.goto (4), 3) := by decide +kernel
  have d12 : decode prog_30_method_3_code 12 = .ok (.ireturn, 1) := by decide +kernel
  refine lv_iload_n hx hb d0 rfl (lv_at hl 0 rfl) ?_
  refine lv_sipush (v := 255) hx hb d1 (by decide) ?_
  refine lv_icmp_gt (tgt := 11) hx hb d4 (by decide) (fun z => absurd z (show ¬ nI 255 < nI c0 from nI_nlt (by omega) (by decide))) (fun _ => ?_)
  refine lv_iconst (v := 1) hx hb d7 (by decide) ?_
  refine lv_goto (tgt := 12) hx hb d8 (by decide) ?_
  exact W.zret hx hb hr (by first | rfl | decide) (fun t ht hW => ⟨⟨_, (), rfl, rfl, trivial⟩, hS.F ht⟩) hS.2.2 d12
abbrev ye_newLength : MethodName := ⟨"jdk/internal/util/ArraysSupport", "newLength", "(III)I"⟩
set_option maxHeartbeats 4000000 in
set_option maxRecDepth 100000 in
theorem eb_newLength (l : Launch) (D : va_G) (o g q : Nat) (h : o + max g q ≤ 100000) (h0 : 0 < o + max g q) : Met l ye_newLength (Cond.code ye_newLength prog_38_method_27_code 4 (some (.int)) :: eb_gw) ({ frames := 1, cells := 0, slots := 0, locals := 20 }) (ev_jP [.int (nI o), .int (nI g), .int (nI q)] (fun U H => True)) (ev_jQ (nI (o + max g q))) 0 0 (fun _ => False) := by
  refine Met.ofW (cc := prog_38_method_27_code) (maxL := 4) (ret := (some (.int))) (by decide) rfl ?_
  intro p e s m args below meth c s₁ B hml hv
  obtain ⟨rfl, hF⟩ := hv
  have hx := B.exec
  have hb := B.bytes
  have hr := B.returns
  have hts0 := atoms_spec (ws := Cond.code ye_newLength prog_38_method_27_code 4 (some (.int)) :: eb_gw) B.pre
  have hts : ∀ w ∈ eb_gw, w.before _ s = true := fun w hw => hts0 w (List.mem_cons_of_mem _ hw)
  have hown : s.vm.findClass "jdk/internal/util/ArraysSupport" = some m.cls := findClass_of_methodNamed B.named
  have hlocks := B.notSynchronized
  have hS : va_S (fun _ => False) s.heap s.heap [] := va_S.rf
  have hl := lv_entry ([.int (nI o), .int (nI g), .int (nI q)]) (n := 4) (Nat.le_of_ble_eq_true rfl)
  rw [lg_entry_eq]
  generalize (lg_sl ([.int (nI o), .int (nI g), .int (nI q)]) ++ List.replicate (4 - (lg_sl ([.int (nI o), .int (nI g), .int (nI q)])).length) Slot.unset).toArray = ls at hl ⊢
  have hl : lv_has ls 4 [(0, .int (nI o)), (1, .int (nI g)), (2, .int (nI q))] := hl
  have d0 : decode prog_38_method_27_code 0 = .ok (.iload_n 0, 1) := by decide +kernel
  have d1 : decode prog_38_method_27_code 1 = .ok (.iload_n 1, 1) := by decide +kernel
  have d2 : decode prog_38_method_27_code 2 = .ok (.iload_n 2, 1) := by decide +kernel
  have d3 : decode prog_38_method_27_code 3 = .ok (.invokestatic 194, 3) := by decide +kernel
  have d6 : decode prog_38_method_27_code 6 = .ok (.iadd, 1) := by decide +kernel
  have d7 : decode prog_38_method_27_code 7 = .ok (.istore_n 3, 1) := by decide +kernel
  have d8 : decode prog_38_method_27_code 8 = .ok (.iconst 0, 1) := by decide +kernel
  have d9 : decode prog_38_method_27_code 9 = .ok (.iload_n 3, 1) := by decide +kernel
  have d10 : decode prog_38_method_27_code 10 = .ok (.if_icmp .ge (11), 3) := by decide +kernel
  have d13 : decode prog_38_method_27_code 13 = .ok (.iload_n 3, 1) := by decide +kernel
  have d14 : decode prog_38_method_27_code 14 = .ok (.ldc 200, 2) := by decide +kernel
  have d16 : decode prog_38_method_27_code 16 = .ok (.if_icmp .gt (5), 3) := by decide +kernel
  have d19 : decode prog_38_method_27_code 19 = .ok (.iload_n 3, 1) := by decide +kernel
  have d20 : decode prog_38_method_27_code 20 = .ok (.ireturn, 1) := by decide +kernel
  have e0 : (if nI g < nI q then nI q else nI g) = nI (max g q) := by
    by_cases hh : g < q
    · rw [if_pos (nI_lt hh (by omega)), Nat.max_eq_right (by omega)]
    · rw [if_neg (nI_nlt (by omega) (by omega)), Nat.max_eq_left (by omega)]
  refine lv_iload_n hx hb d0 rfl (lv_at hl 0 rfl) ?_
  refine lv_iload_n hx hb d1 rfl (lv_at hl 1 rfl) ?_
  refine lv_iload_n hx hb d2 rfl (lv_at hl 2 rfl) ?_
  refine va_mmax hx hb (hml.trans hl.1.symm) hown (hts _ (eb_m (ev_gm (p := 14189) (by decide +kernel) rfl))) (hts _ (eb_m (ev_gm (p := 14190) (by decide +kernel) rfl))) (hts _ (eb_m (ev_ginit (by decide +kernel) rfl))) (hts _ (eb_m (ev_gm (p := 14191) (by decide +kernel) rfl))) (Nat.le_of_ble_eq_true rfl) (Nat.le_of_ble_eq_true rfl) (Nat.zero_le _) (Nat.zero_le _) d3 ?_
  rw [e0]
  refine lv_iadd hx hb d6 ?_
  refine lv_topi (fun y ey => ?_); obtain rfl : y = nI (o + max g q) := ey.trans (nI_add o (max g q))
  refine lv_istore_n hx hb d7 rfl hl (by decide) rfl (fun ls hl => ?_)
  refine lv_iconst (v := nI 0) hx hb d8 (by decide) ?_
  refine lv_iload_n hx hb d9 rfl (lv_at hl 0 rfl) ?_
  refine lv_icmp_ge (tgt := 21) hx hb d10 (by decide) (fun z => absurd z (by rw [nI_leI (by omega) (by omega)]; omega)) (fun _ => ?_)
  refine lv_iload_n hx hb d13 rfl (lv_at hl 0 rfl) ?_
  refine lv_ldc (v := nI 2147483639) hx hb hown (hts _ (eb_m (ev_gm (p := 14192) (by decide +kernel) rfl))) d14 ?_
  refine lv_icmp_gt (tgt := 21) hx hb d16 (by decide) (fun z => absurd z (nI_nlt (by omega) (by decide))) (fun _ => ?_)
  refine lv_iload_n hx hb d19 rfl (lv_at hl 0 rfl) ?_
  exact W.iret hx hb hr (fun t ht hW => ⟨⟨_, (), rfl, rfl, trivial⟩, hS.F ht⟩) hS.2.2 d20
abbrev ye_newCapacity : MethodName := ⟨"java/lang/AbstractStringBuilder", "newCapacity", "(I)I"⟩
set_option maxHeartbeats 4000000 in
set_option maxRecDepth 100000 in
theorem eb_newCapacity (l : Launch) (D : va_G) (b v : Nat) (cB : ClassId) (M : Nat) (f : Nat → Int32) (ml : Int32) (n : Nat) (mn : Nat) (h : M < mn) (hm : mn ≤ 600) : Met l ye_newCapacity (Cond.code ye_newCapacity prog_15_method_10_code 6 (some (.int)) :: eb_gw) ({ frames := 2, cells := 0, slots := 0, locals := 43 }) (ev_jP [.ref b, .int (nI mn)] (fun U H => va_K D eb_cl [(cB, .byte)] U ∧ va_P D eb_cl (eb_W b v cB M f ml n) H)) (ev_jQ (nI (eb_gr M mn))) 0 0 (fun _ => False) := by
  refine Met.ofW (cc := prog_15_method_10_code) (maxL := 6) (ret := (some (.int))) (by decide) rfl ?_
  intro p e s m args below meth c s₁ B hml hv
  obtain ⟨rfl, hF⟩ := hv
  have hx := B.exec
  have hb := B.bytes
  have hr := B.returns
  have hts0 := atoms_spec (ws := Cond.code ye_newCapacity prog_15_method_10_code 6 (some (.int)) :: eb_gw) B.pre
  have hts : ∀ w ∈ eb_gw, w.before _ s = true := fun w hw => hts0 w (List.mem_cons_of_mem _ hw)
  have hown : s.vm.findClass "java/lang/AbstractStringBuilder" = some m.cls := findClass_of_methodNamed B.named
  have hlocks := B.notSynchronized
  have hS : va_S (fun _ => False) s.heap s.heap [] := va_S.rf
  have hl := lv_entry ([.ref b, .int (nI mn)]) (n := 6) (Nat.le_of_ble_eq_true rfl)
  rw [lg_entry_eq]
  generalize (lg_sl ([.ref b, .int (nI mn)]) ++ List.replicate (6 - (lg_sl ([.ref b, .int (nI mn)])).length) Slot.unset).toArray = ls at hl ⊢
  have hl : lv_has ls 6 [(0, .ref b), (1, .int (nI mn))] := hl
  have d0 : decode prog_15_method_10_code 0 = .ok (.aload_n 0, 1) := by decide +kernel
  have d1 : decode prog_15_method_10_code 1 = .ok (.getfield 15, 3) := by decide +kernel
  have d4 : decode prog_15_method_10_code 4 = .ok (.arraylength, 1) := by decide +kernel
  have d5 : decode prog_15_method_10_code 5 = .ok (.istore_n 2, 1) := by decide +kernel
  have d6 : decode prog_15_method_10_code 6 = .ok (.iload_n 1, 1) := by decide +kernel
  have d7 : decode prog_15_method_10_code 7 = .ok (.aload_n 0, 1) := by decide +kernel
  have d8 : decode prog_15_method_10_code 8 = .ok (.getfield 22, 3) := by decide +kernel
  have d11 : decode prog_15_method_10_code 11 = .ok (.ishl, 1) := by decide +kernel
  have d12 : decode prog_15_method_10_code 12 = .ok (.istore_n 3, 1) := by decide +kernel
  have d13 : decode prog_15_method_10_code 13 = .ok (.iload_n 3, 1) := by decide +kernel
  have d14 : decode prog_15_method_10_code 14 = .ok (.iload_n 2, 1) := by decide +kernel
  have d15 : decode prog_15_method_10_code 15 = .ok (.isub, 1) := by decide +kernel
  have d16 : decode prog_15_method_10_code 16 = .ok (.istore 4, 2) := by decide +kernel
  have d18 : decode prog_15_method_10_code 18 = .ok (.iload_n 2, 1) := by decide +kernel
  have d19 : decode prog_15_method_10_code 19 = .ok (.iload 4, 2) := by decide +kernel
  have d21 : decode prog_15_method_10_code 21 = .ok (.iload_n 2, 1) := by decide +kernel
  have d22 : decode prog_15_method_10_code 22 = .ok (.iconst 2, 1) := by decide +kernel
  have d23 : decode prog_15_method_10_code 23 = .ok (.aload_n 0, 1) := by decide +kernel
  have d24 : decode prog_15_method_10_code 24 = .ok (.getfield 22, 3) := by decide +kernel
  have d27 : decode prog_15_method_10_code 27 = .ok (.ishl, 1) := by decide +kernel
  have d28 : decode prog_15_method_10_code 28 = .ok (.iadd, 1) := by decide +kernel
  have d29 : decode prog_15_method_10_code 29 = .ok (.invokestatic 114, 3) := by decide +kernel
  have d32 : decode prog_15_method_10_code 32 = .ok (.istore 5, 2) := by decide +kernel
  have d34 : decode prog_15_method_10_code 34 = .ok (.iload 5, 2) := by decide +kernel
  have d36 : decode prog_15_method_10_code 36 = .ok (.ldc 39, 2) := by decide +kernel
  have d38 : decode prog_15_method_10_code 38 = .ok (.if_icmp .ne (13), 3) := by decide +kernel
  have d51 : decode prog_15_method_10_code 51 = .ok (.iload 5, 2) := by decide +kernel
  have d53 : decode prog_15_method_10_code 53 = .ok (.aload_n 0, 1) := by decide +kernel
  have d54 : decode prog_15_method_10_code 54 = .ok (.getfield 22, 3) := by decide +kernel
  have d57 : decode prog_15_method_10_code 57 = .ok (.ishr, 1) := by decide +kernel
  have d58 : decode prog_15_method_10_code 58 = .ok (.ireturn, 1) := by decide +kernel
  obtain ⟨hK, hP⟩ := hF
  have g1 : eb_gr M mn ≤ 100000 := by unfold eb_gr; omega
  have g2 : 0 < eb_gr M mn := by unfold eb_gr; omega
  refine lv_aload_n hx hb d0 rfl (lv_at hl 0 rfl) ?_
  refine va_get (D := D) (ci := 0) (v := .ref v) (C := "java/lang/StringBuilder") (T := eb_F) (N := 4) hx hb hts eb_sw hown hK hP 0 rfl rfl 0 (by decide) (hts _ (eb_m (ev_gm (p := 15022) (by decide +kernel) rfl))) (fun _ h9 => h9) rfl d1 ?_
  refine va_alen hx hb hK hP 1 0 (v := nI M) rfl rfl rfl d4 ?_
  refine lv_istore_n hx hb d5 rfl hl (by decide) rfl (fun ls hl => ?_)
  refine lv_iload_n hx hb d6 rfl (lv_at hl 2 rfl) ?_
  refine lv_aload_n hx hb d7 rfl (lv_at hl 1 rfl) ?_
  refine va_get (D := D) (ci := 0) (v := .int 0) (C := "java/lang/StringBuilder") (T := eb_F) (N := 4) hx hb hts eb_sw hown hK hP 0 rfl rfl 1 (by decide) (hts _ (eb_m (ev_gm (p := 15023) (by decide +kernel) rfl))) (fun _ h9 => h9) rfl d8 ?_
  refine lv_ishl hx hb d11 ?_
  refine lv_topi (fun y ey => ?_); obtain rfl : y = nI mn := ey.trans (sb_shl0 _)
  refine lv_istore_n hx hb d12 rfl hl (by decide) rfl (fun ls hl => ?_)
  refine lv_iload_n hx hb d13 rfl (lv_at hl 0 rfl) ?_
  refine lv_iload_n hx hb d14 rfl (lv_at hl 1 rfl) ?_
  refine lv_isub hx hb d15 ?_
  refine lv_topi (fun y ey => ?_); obtain rfl : y = nI (mn - M) := ey.trans (pk_sub (by omega))
  refine lv_istore hx hb d16 hl (by decide) rfl (fun ls hl => ?_)
  refine lv_iload_n hx hb d18 rfl (lv_at hl 2 rfl) ?_
  refine lv_iload hx hb d19 (lv_at hl 0 rfl) ?_
  refine lv_iload_n hx hb d21 rfl (lv_at hl 2 rfl) ?_
  refine lv_iconst (v := nI 2) hx hb d22 (by decide) ?_
  refine lv_aload_n hx hb d23 rfl (lv_at hl 3 rfl) ?_
  refine va_get (D := D) (ci := 0) (v := .int 0) (C := "java/lang/StringBuilder") (T := eb_F) (N := 4) hx hb hts eb_sw hown hK hP 0 rfl rfl 1 (by decide) (hts _ (eb_m (ev_gm (p := 15023) (by decide +kernel) rfl))) (fun _ h9 => h9) rfl d24 ?_
  refine lv_ishl hx hb d27 ?_
  refine lv_topi (fun y ey => ?_); obtain rfl : y = nI 2 := ey.trans (sb_shl0 _)
  refine lv_iadd hx hb d28 ?_
  refine lv_topi (fun y ey => ?_); obtain rfl : y = nI (M + 2) := ey.trans (nI_add _ _)
  refine va_calli (va_runS (As := [.int (nI M), .int (nI (mn - M)), .int (nI (M + 2))]) (rest := []) ⟨hx, hb, hml, hown, hts⟩ (eb_newLength l D M (mn - M) (M + 2) g1 g2) (va_cwS 3 hts (eb_gS eb_ok1 (eb_m (ev_gm (p := 14186) (by decide +kernel) rfl)) (eb_m (ev_gm (p := 14187) (by decide +kernel) rfl)) (eb_m (ev_ginit (by decide +kernel) rfl)) (eb_m (ev_gm (p := 14188) (by decide +kernel) rfl))) rfl rfl rfl (by decide +kernel) ⟨Nat.le_of_ble_eq_true rfl, Nat.le_of_ble_eq_true rfl⟩) ⟨fun a U g mk q => ⟨q.1, trivial⟩, fun U hU hW => ⟨rfl, trivial⟩⟩ rfl rfl hl.1 rfl (lv_room (Nat.le_of_ble_eq_true rfl)) d29 ⟨Nat.le_refl _, Nat.le_refl _⟩) hS (fun q _ h => h) (fun q h => h) (fun r u t H1 locs1 ht hvm hw hB hz1 hk1 hS => ?_)
  have hw : r = nI (eb_gr M mn) := hw
  subst hw
  refine lv_istore hx hb d32 hl (by decide) rfl (fun ls hl => ?_)
  refine lv_iload hx hb d34 (lv_at hl 0 rfl) ?_
  refine lv_ldc (v := nI 2147483647) hx hb hown (hts _ (eb_m (ev_gm (p := 14152) (by decide +kernel) rfl))) d36 ?_
  refine lv_icmp_ne (tgt := 51) hx hb d38 (by decide) (fun _ => ?_) (fun z => by have := (nI_eq (by omega) (by decide)).mp z; omega)
  refine lv_iload hx hb d51 (lv_at hl 0 rfl) ?_
  refine lv_aload_n hx hb d53 rfl (lv_at hl 4 rfl) ?_
  refine va_get (D := D) (ci := 0) (v := .int 0) (C := "java/lang/StringBuilder") (T := eb_F) (N := 4) hx hb hts eb_sw hown hK (eb_keep hP hk1) 0 rfl rfl 1 (by decide) (hts _ (eb_m (ev_gm (p := 15023) (by decide +kernel) rfl))) (fun _ h9 => h9) rfl d54 ?_
  refine lv_ishr hx hb d57 ?_
  refine lv_topi (fun y ey => ?_); obtain rfl : y = nI (eb_gr M mn) := ey.trans (sb_shr0 _)
  exact W.iret hx hb hr (fun t ht hW => ⟨⟨_, (), rfl, rfl, trivial⟩, hS.F ht⟩) hS.2.2 d58
abbrev ye_getValue : MethodName := ⟨"java/lang/AbstractStringBuilder", "getValue", "()[B"⟩
set_option maxHeartbeats 4000000 in
set_option maxRecDepth 100000 in
theorem eb_getValue (l : Launch) (D : va_G) (b v : Nat) (cB : ClassId) (M : Nat) (f : Nat → Int32) (ml : Int32) (n : Nat) : Met l ye_getValue (Cond.code ye_getValue prog_15_method_64_code 1 (some ((Jvm.ClassFile.FieldType.array Jvm.ClassFile.FieldType.byte))) :: eb_gw) ({ frames := 0, cells := 0, slots := 0, locals := 0 }) (ev_jP [.ref b] (fun U H => va_K D eb_cl [(cB, .byte)] U ∧ va_P D eb_cl (eb_W b v cB M f ml n) H)) (va_Qr (fun (_ : Unit) => True) (fun _ q _ => q = v) (fun _ => False)) 0 0 (fun _ => False) := by
  refine Met.ofW (cc := prog_15_method_64_code) (maxL := 1) (ret := (some ((Jvm.ClassFile.FieldType.array Jvm.ClassFile.FieldType.byte)))) (by decide) rfl ?_
  intro p e s m args below meth c s₁ B hml hv
  obtain ⟨rfl, hF⟩ := hv
  have hx := B.exec
  have hb := B.bytes
  have hr := B.returns
  have hts0 := atoms_spec (ws := Cond.code ye_getValue prog_15_method_64_code 1 (some ((Jvm.ClassFile.FieldType.array Jvm.ClassFile.FieldType.byte))) :: eb_gw) B.pre
  have hts : ∀ w ∈ eb_gw, w.before _ s = true := fun w hw => hts0 w (List.mem_cons_of_mem _ hw)
  have hown : s.vm.findClass "java/lang/AbstractStringBuilder" = some m.cls := findClass_of_methodNamed B.named
  have hlocks := B.notSynchronized
  have hS : va_S (fun _ => False) s.heap s.heap [] := va_S.rf
  have hl := lv_entry ([.ref b]) (n := 1) (Nat.le_of_ble_eq_true rfl)
  rw [lg_entry_eq]
  generalize (lg_sl ([.ref b]) ++ List.replicate (1 - (lg_sl ([.ref b])).length) Slot.unset).toArray = ls at hl ⊢
  have hl : lv_has ls 1 [(0, .ref b)] := hl
  have d0 : decode prog_15_method_64_code 0 = .ok (.aload_n 0, 1) := by decide +kernel
  have d1 : decode prog_15_method_64_code 1 = .ok (.getfield 15, 3) := by decide +kernel
  have d4 : decode prog_15_method_64_code 4 = .ok (.areturn, 1) := by decide +kernel
  obtain ⟨hK, hP⟩ := hF
  refine lv_aload_n hx hb d0 rfl (lv_at hl 0 rfl) ?_
  refine va_get (D := D) (ci := 0) (v := .ref v) (C := "java/lang/StringBuilder") (T := eb_F) (N := 4) hx hb hts eb_sw hown hK hP 0 rfl rfl 0 (by decide) (hts _ (eb_m (ev_gm (p := 15022) (by decide +kernel) rfl))) (fun _ h9 => h9) rfl d1 ?_
  exact W.aret hx hb hr (.inr ⟨_, rfl⟩) (.inr ⟨_, rfl⟩) (fun t ht hW => ⟨⟨(), v, rfl, trivial, rfl⟩, hS.F ht⟩) hS.2.2 d4
abbrev ye_alen : MethodName := ⟨"java/lang/AbstractStringBuilder", "length", "()I"⟩
set_option maxHeartbeats 4000000 in
set_option maxRecDepth 100000 in
theorem eb_alen (l : Launch) (D : va_G) (b v : Nat) (cB : ClassId) (M : Nat) (f : Nat → Int32) (ml : Int32) (n : Nat) : Met l ye_alen (Cond.code ye_alen prog_15_method_6_code 1 (some (.int)) :: eb_gw) ({ frames := 0, cells := 0, slots := 0, locals := 0 }) (ev_jP [.ref b] (fun U H => va_K D eb_cl [(cB, .byte)] U ∧ va_P D eb_cl (eb_W b v cB M f ml n) H)) (ev_jQ (nI n)) 0 0 (fun _ => False) := by
  refine Met.ofW (cc := prog_15_method_6_code) (maxL := 1) (ret := (some (.int))) (by decide) rfl ?_
  intro p e s m args below meth c s₁ B hml hv
  obtain ⟨rfl, hF⟩ := hv
  have hx := B.exec
  have hb := B.bytes
  have hr := B.returns
  have hts0 := atoms_spec (ws := Cond.code ye_alen prog_15_method_6_code 1 (some (.int)) :: eb_gw) B.pre
  have hts : ∀ w ∈ eb_gw, w.before _ s = true := fun w hw => hts0 w (List.mem_cons_of_mem _ hw)
  have hown : s.vm.findClass "java/lang/AbstractStringBuilder" = some m.cls := findClass_of_methodNamed B.named
  have hlocks := B.notSynchronized
  have hS : va_S (fun _ => False) s.heap s.heap [] := va_S.rf
  have hl := lv_entry ([.ref b]) (n := 1) (Nat.le_of_ble_eq_true rfl)
  rw [lg_entry_eq]
  generalize (lg_sl ([.ref b]) ++ List.replicate (1 - (lg_sl ([.ref b])).length) Slot.unset).toArray = ls at hl ⊢
  have hl : lv_has ls 1 [(0, .ref b)] := hl
  have d0 : decode prog_15_method_6_code 0 = .ok (.aload_n 0, 1) := by decide +kernel
  have d1 : decode prog_15_method_6_code 1 = .ok (.getfield 79, 3) := by decide +kernel
  have d4 : decode prog_15_method_6_code 4 = .ok (.ireturn, 1) := by decide +kernel
  obtain ⟨hK, hP⟩ := hF
  refine lv_aload_n hx hb d0 rfl (lv_at hl 0 rfl) ?_
  refine va_get (D := D) (ci := 0) (v := .int (nI n)) (C := "java/lang/StringBuilder") (T := eb_F) (N := 4) hx hb hts eb_sw hown hK hP 0 rfl rfl 3 (by decide) (hts _ (eb_m (ev_gm (p := 15025) (by decide +kernel) rfl))) (fun _ h9 => h9) rfl d1 ?_
  exact W.iret hx hb hr (fun t ht hW => ⟨⟨_, (), rfl, rfl, trivial⟩, hS.F ht⟩) hS.2.2 d4
abbrev ye_copyOf : MethodName := ⟨"java/util/Arrays", "copyOf", "([BI)[B"⟩
set_option maxHeartbeats 4000000 in
set_option maxRecDepth 100000 in
theorem eb_copyOf (l : Launch) (D : va_G) (sz : Nat) (v : Nat) (cB : ClassId) (M : Nat) (f : Nat → Int32) (w : Nat) (h : M < w) (hw : w ≤ 1300) : Met l ye_copyOf (Cond.code ye_copyOf prog_36_method_121_code 3 (some ((Jvm.ClassFile.FieldType.array Jvm.ClassFile.FieldType.byte))) :: eb_gw) ({ frames := 1, cells := 1, slots := 1300, locals := 64 }) (va_Pc [.ref v, .int (nI w)] (fun U => U.heap.size = sz ∧ va_P D eb_cl [(v, .inl (cB, M, .inl f))] U.heap ∧ va_K D eb_cl [(cB, .byte)] U ∧ va_D (fun _ => True) [(v, .inl (cB, M, .inl f))] ∧ eb_ft M f)) (va_Qr (fun (u : ClassId × (Nat → Int32)) => (∀ j, j < M → u.2 j = f j) ∧ eb_ft w u.2) (fun (u : ClassId × (Nat → Int32)) q t => va_P D eb_cl [(q, .inl (u.1, w, .inl u.2))] t.heap ∧ va_K D eb_cl [(u.1, .byte)] t ∧ va_D (va_A [(v, .inl (cB, M, .inl f))] sz) [(q, .inl (u.1, w, .inl u.2))]) (va_A [(v, .inl (cB, M, .inl f))] sz)) 1 1300 (va_A [(v, .inl (cB, M, .inl f))] sz) := by
  refine Met.ofW (cc := prog_36_method_121_code) (maxL := 3) (ret := (some ((Jvm.ClassFile.FieldType.array Jvm.ClassFile.FieldType.byte)))) (by decide) rfl ?_
  intro p e s m args below meth c s₁ B hml hv
  obtain ⟨rfl, hsz, hP, hK, hD0, hF⟩ := hv
  have hx := B.exec
  have hb := B.bytes
  have hr := B.returns
  have hts0 := atoms_spec (ws := Cond.code ye_copyOf prog_36_method_121_code 3 (some ((Jvm.ClassFile.FieldType.array Jvm.ClassFile.FieldType.byte))) :: eb_gw) B.pre
  have hts : ∀ w ∈ eb_gw, w.before _ s = true := fun w hw => hts0 w (List.mem_cons_of_mem _ hw)
  have hown : s.vm.findClass "java/util/Arrays" = some m.cls := findClass_of_methodNamed B.named
  have hlocks := B.notSynchronized
  subst hsz
  have hD := hD0.self (sz := s.heap.size)
  generalize hAe : va_A [(v, .inl (cB, M, .inl f))] s.heap.size = A at hD hF ⊢
  have hA : ∀ q : Nat, s.heap.size ≤ q → A q := fun q h => by rw [← hAe]; exact Or.inr h
  have hS : va_S A s.heap s.heap [] := va_S.rf
  have hl := lv_entry ([.ref v, .int (nI w)]) (n := 3) (Nat.le_of_ble_eq_true rfl)
  rw [lg_entry_eq]
  generalize (lg_sl ([.ref v, .int (nI w)]) ++ List.replicate (3 - (lg_sl ([.ref v, .int (nI w)])).length) Slot.unset).toArray = ls at hl ⊢
  have hl : lv_has ls 3 [(0, .ref v), (1, .int (nI w))] := hl
  have d0 : decode prog_36_method_121_code 0 = .ok (.iload_n 1, 1) := by decide +kernel
  have d1 : decode prog_36_method_121_code 1 = .ok (.aload_n 0, 1) := by decide +kernel
  have d2 : decode prog_36_method_121_code 2 = .ok (.arraylength, 1) := by decide +kernel
  have d3 : decode prog_36_method_121_code 3 = .ok (.if_icmp .ne (11), 3) := by decide +kernel
  have d14 : decode prog_36_method_121_code 14 = .ok (.iload_n 1, 1) := by decide +kernel
  have d15 : decode prog_36_method_121_code 15 = .ok (.newarray .byte, 2) := by decide +kernel
  have d17 : decode prog_36_method_121_code 17 = .ok (.astore_n 2, 1) := by decide +kernel
  have d18 : decode prog_36_method_121_code 18 = .ok (.aload_n 0, 1) := by decide +kernel
  have d19 : decode prog_36_method_121_code 19 = .ok (.iconst 0, 1) := by decide +kernel
  have d20 : decode prog_36_method_121_code 20 = .ok (.aload_n 2, 1) := by decide +kernel
  have d21 : decode prog_36_method_121_code 21 = .ok (.iconst 0, 1) := by decide +kernel
  have d22 : decode prog_36_method_121_code 22 = .ok (.aload_n 0, 1) := by decide +kernel
  have d23 : decode prog_36_method_121_code 23 = .ok (.arraylength, 1) := by decide +kernel
  have d24 : decode prog_36_method_121_code 24 = .ok (.iload_n 1, 1) := by decide +kernel
  have d25 : decode prog_36_method_121_code 25 = .ok (.invokestatic 304, 3) := by decide +kernel
  have d28 : decode prog_36_method_121_code 28 = .ok (.invokestatic 150, 3) := by decide +kernel
  have d31 : decode prog_36_method_121_code 31 = .ok (.aload_n 2, 1) := by decide +kernel
  have d32 : decode prog_36_method_121_code 32 = .ok (.areturn, 1) := by decide +kernel
  refine lv_iload_n hx hb d0 rfl (lv_at hl 1 rfl) ?_
  refine lv_aload_n hx hb d1 rfl (lv_at hl 0 rfl) ?_
  refine va_alen hx hb hK hP 0 0 (v := nI M) rfl rfl rfl d2 ?_
  refine lv_icmp_ne (tgt := 14) hx hb d3 (by decide) (fun _ => ?_) (fun z => by have := (nI_eq (by omega) (by omega)).mp z; omega)
  refine lv_iload_n hx hb d14 rfl (lv_at hl 1 rfl) ?_
  refine va_newa (atype := .byte) (ty := .byte) hx hb (hts _ (eb_m (ev_gm (p := 11079) (by decide +kernel) rfl))) rfl hK hP hD hS hA (a0 := (w, .inl (fun _ => 0))) (fun cA => rfl) (nI_pos (by omega)) (nI_clamp (by omega)) (by show w * 1 ≤ _; omega) (by show 0 + 1 ≤ 1; omega) (by show 0 + w ≤ 1300; omega) d15 (fun q c2 H hK hP hD hS => ?_)
  refine lv_astore_n hx hb d17 rfl hl (by decide) rfl (fun ls hl => ?_)
  refine lv_aload_n hx hb d18 rfl (lv_at hl 1 rfl) ?_
  refine lv_iconst (v := nI 0) hx hb d19 (by decide) ?_
  refine lv_aload_n hx hb d20 rfl (lv_at hl 0 rfl) ?_
  refine lv_iconst (v := nI 0) hx hb d21 (by decide) ?_
  refine lv_aload_n hx hb d22 rfl (lv_at hl 1 rfl) ?_
  refine va_alen hx hb hK hP 0 0 (v := nI M) rfl rfl rfl d23 ?_
  refine lv_iload_n hx hb d24 rfl (lv_at hl 2 rfl) ?_
  refine va_mmin hx hb (hml.trans hl.1.symm) hown (hts _ (eb_m (ev_gm (p := 14206) (by decide +kernel) rfl))) (hts _ (eb_m (ev_gm (p := 13135) (by decide +kernel) rfl))) (hts _ (eb_m (ev_ginit (by decide +kernel) rfl))) (hts _ (eb_m (ev_gm (p := 13136) (by decide +kernel) rfl))) (Nat.le_of_ble_eq_true rfl) (Nat.le_of_ble_eq_true rfl) (by show 0 + 1 ≤ 1; omega) (by show 0 + w ≤ 1300; omega) d25 ?_
  rw [show (if nI w < nI M then nI w else nI M) = nI M from if_neg (nI_nlt (by omega) (by omega))]
  have e0 : (nI 0).toNatClampNeg = 0 := nI_clamp (by decide)
  have eM : (nI M).toNatClampNeg = M := nI_clamp (by omega)
  refine va_copyi hx hb (hml.trans hl.1.symm) hown (hts _ (eb_m (ev_gm (p := 14207) (by decide +kernel) rfl))) (hts _ (eb_m (ev_gm (p := 13123) (by decide +kernel) rfl))) (hts _ (eb_m (ev_gm (p := 13122) (by decide +kernel) rfl))) (hts _ (eb_m (ev_ginit (by decide +kernel) rfl))) hK hP hD hS 0 1 0 1 rfl rfl rfl rfl rfl (nI_pos (by decide)) (nI_pos (by decide)) (nI_pos (by omega)) (by rw [e0, eM]; omega) (by rw [e0, eM]; omega) (by rw [e0, eM]; intro i hi; rw [Nat.zero_add]; exact hF i hi) (Nat.le_of_ble_eq_true rfl) (Nat.le_of_ble_eq_true rfl) d28 (fun H1 locs1 hP hD hS => ?_)
  have hft : eb_ft w (va_cpy f (fun _ => 0) (nI 0).toNatClampNeg (nI 0).toNatClampNeg (nI M).toNatClampNeg) := by
    intro j hj
    rw [e0, eM]
    unfold va_cpy
    by_cases hh : 0 ≤ j ∧ j < 0 + M
    · rw [if_pos hh]
      exact hF _ (by omega)
    · rw [if_neg hh]
      rfl
  refine lv_aload_n hx hb d31 rfl (lv_at hl 0 rfl) ?_
  have hP9 := hP.sub (ws' := [(q, .inl (c2, w, .inl (va_cpy f (fun _ => 0) (nI 0).toNatClampNeg (nI 0).toNatClampNeg (nI M).toNatClampNeg)))]) [1] rfl
  have hD9 := hD.sub (ws' := [(q, .inl (c2, w, .inl (va_cpy f (fun _ => 0) (nI 0).toNatClampNeg (nI 0).toNatClampNeg (nI M).toNatClampNeg)))]) [1] (by decide) rfl
  have hK9 := hK.sub (tys' := [(c2, .byte)]) [1] rfl
  refine W.widen (k := 1) (n := 1300) (by omega) (by omega) ?_
  exact W.aret hx hb hr (.inr ⟨_, rfl⟩) (.inr ⟨_, rfl⟩) (fun t ht hW => ⟨⟨(c2, va_cpy f (fun _ => 0) (nI 0).toNatClampNeg (nI 0).toNatClampNeg (nI M).toNatClampNeg), q, rfl, ⟨(fun j hj => by dsimp only; rw [e0, eM]; unfold va_cpy; rw [if_pos (by omega), Nat.zero_add, Nat.sub_zero]), hft⟩, by rw [ht]; exact hP9, va_K.moved hW.alike hK9, hD9⟩, hS.F ht⟩) hS.2.2 d32
