/-! What the start gives. -/
def ev_nw1 : List Cond := flatC narrow_1
/-- a text's words: its terms, its bytes -/
def eb_tm (own : String) (k : Nat) : Term := .string own k
def eb_tw (tm : Term) (l : List Int32) : List Cond := Cond.exactly tm "java/lang/String" :: Cond.eq (.field tm "java/lang/String" "coder" "B") (.int 0) :: Cond.arrayOf (.field tm "java/lang/String" "value" "[B") .byte :: Cond.eq (.length (.field tm "java/lang/String" "value" "[B")) (.int (Int32.ofNat l.length)) :: (List.range l.length).map fun j => Cond.eq (.elem (.field tm "java/lang/String" "value" "[B") (.int (Int32.ofNat j))) (.int (l.getD j 0))
def ev_sk (k : Nat) : Nat × Nat × String × Nat × Nat := ev_sr.getD k (0, 0, "", 0, 0)
def ev_tp (k : Nat) : Nat := [411, 419, 428, 437, 445, 454, 463, 471, 480, 488, 498, 508, 516, 525, 411, 411, 411].getD k 0
def eb_lq (k : Nat) : List Int32 := (eb_ll k).map nI
def eb_lp (k : Nat) : Nat := [634, 644, 653, 664, 675, 532, 541, 552, 563, 573, 584, 614, 624, 684].getD k 0
def eb_lw (k : Nat) : Nat := [15084, 15085, 15086, 15087, 15088, 14142, 15073, 15075, 15076, 15077, 15078, 15079, 15080, 15089].getD k 0
set_option maxRecDepth 100000 in
theorem ev_tw_ok : ∀ k, k < 17 → (ev_nw1.drop (ev_tp k)).take (4 + (ev_tb k).length) = eb_tw (eb_tm (ev_own (ev_sk k).1) (ev_sk k).2.1) (ev_tb k) := by decide +kernel
set_option maxRecDepth 100000 in
theorem eb_tw_ok : ∀ k, k < 14 → (ev_nw1.drop (eb_lp k)).take (4 + (eb_lq k).length) = eb_tw (eb_tm "LanternChessLaw" (eb_lx k).1) (eb_lq k) := by decide +kernel
theorem eb_in {p n : Nat} {l : List Cond} (h : (ev_nw1.drop p).take n = l) : ∀ w ∈ l, w ∈ ev_nw1 := fun w hw => by
  rw [← h] at hw
  exact List.mem_of_mem_drop (List.mem_of_mem_take hw)
theorem ev_tl_ok : ∀ k, k < 17 → (ev_tb k).length < 2 ^ 31 := by decide +kernel
theorem eb_tl_ok : ∀ k, k < 14 → (eb_lq k).length < 2 ^ 31 := by decide +kernel
/-- a table of numbers that a static field holds -/
def eb_aw (tm : Term) (ty : FieldType) (N : Nat) (f : Nat → Int32) : List Cond := Cond.arrayOf tm ty :: Cond.eq (.length tm) (.int (Int32.ofNat N)) :: (List.range N).map fun j => Cond.eq (.elem tm (.int (Int32.ofNat j))) (.int (f j))
def ev_tvF : Term := .static "LanternChess$Field" "VALUES" "[I"
def eb_tvO : Term := .static "java/lang/Integer" "DigitOnes" "[B"
def eb_tvT : Term := .static "java/lang/Integer" "DigitTens" "[B"
theorem ev_vwF_ok : (ev_nw1.drop 216).take 8 = eb_aw ev_tvF .int 6 (fun j => ([100, 9, 5, 3, 3, 1] : List Int32).getD j 0) := by decide +kernel
set_option maxRecDepth 100000 in
theorem eb_vwO_ok : (ev_nw1.drop 10).take 102 = eb_aw eb_tvO .byte 100 eb_dO := by decide +kernel
set_option maxRecDepth 100000 in
theorem eb_vwT_ok : (ev_nw1.drop 113).take 102 = eb_aw eb_tvT .byte 100 eb_dT := by decide +kernel
theorem ev_srr_ok : ∀ k, k < 17 → ev_w (ev_sk k).2.2.2.2 = some (.stringRef (ev_own (ev_sk k).1) (ev_sk k).2.1 (ev_sk k).2.2.1) ∧ (ev_sk k).2.2.2.1 = 3 + k := by decide +kernel
theorem ev_sr_k : ∀ e ∈ ev_sr, ∃ k, k < 17 ∧ ev_sk k = e := by decide +kernel
theorem eb_lr_ok : ∀ k, k < 14 → ev_w (eb_lw k) = some (.stringRef "LanternChessLaw" (eb_lx k).1 (eb_lx k).2.1) := by decide +kernel
def ev_A0 (s : State) : Nat → Prop := fun q => s.heap.size ≤ q
section EVL
variable {s : State} {b L : Nat} {xs : Nat → Int32} {args : Array Value}
theorem ev_kD (hts : ∀ w ∈ lw_tbl, w.before args s = true) : ∃ D : va_G, ∀ (c : Nat) (q : vw_C), ev_cl[c]? = some q → u_Kn s q.1 q.2.1 q.2.2 (D.1 c) (D.2 c) := by
  have h : ∀ c : Nat, ∃ d : ClassId × (Nat → Nat), c < 12 → u_Kn s (ev_C c).1 (ev_C c).2.1 (ev_C c).2.2 d.1 d.2 := by
    intro c
    by_cases hc : c < 12
    · obtain ⟨h1, h2, -, -⟩ := ev_lay c hc
      obtain ⟨cC, iS, h3⟩ := u_known (ws := lw_tbl) hts (ev_wsin hc) (hts _ (ev_mem h2))
      exact ⟨(cC, iS), fun _ => h3⟩
    · exact ⟨(0, fun _ => 0), fun h => absurd h hc⟩
  obtain ⟨d, hd⟩ := Classical.axiomOfChoice h
  refine ⟨(fun c => (d c).1, fun c => (d c).2), fun c q hq => ?_⟩
  have hl : c < 12 := (List.getElem?_eq_some_iff.mp hq).1
  have h1 := ev_clget hl
  rw [h1] at hq
  cases hq
  exact hd c hl
theorem eb_kD (hts : ∀ w ∈ lw_tbl, w.before args s = true) : ∃ D : va_G, ∀ (c : Nat) (q : vw_C), eb_cl[c]? = some q → u_Kn s q.1 q.2.1 q.2.2 (D.1 c) (D.2 c) := by
  have hg := eb_pv_ok hts
  obtain ⟨c0, i0, h0⟩ := u_known (ws := eb_gw) hg eb_sw (hts _ (ev_mem (show ev_w 14141 = some (Cond.instantiable "java/lang/StringBuilder" 4) by decide +kernel)))
  obtain ⟨c1, i1, h1⟩ := u_known (ws := eb_gw) hg eb_zw (hts _ (ev_mem (show ev_w 15095 = some (Cond.instantiable "java/lang/String" 4) by decide +kernel)))
  refine ⟨(fun c => if c = 0 then c0 else c1, fun c => if c = 0 then i0 else i1), fun c q hq => ?_⟩
  match c, hq with
  | 0, hq => cases hq; exact h0
  | 1, hq => cases hq; exact h1
theorem ev_kA (hts : ∀ w ∈ lw_tbl, w.before args s = true) : ∃ cA : Nat → ClassId, ∀ (k : Nat) (q : ClassId × FieldType), (ev_tys cA)[k]? = some q → ArrOfT s q.1 q.2 ∧ va_RA s q.1 q.2 := by
  obtain ⟨c0, k0, p0, a1, a2, a3⟩ := Cond.arrayClass_spec (hts _ (ev_mem (show ev_w 11112 = some (Cond.arrayClass .int) by decide +kernel)))
  obtain ⟨c1, k1, p1, b1, b2, b3⟩ := Cond.arrayClass_spec (hts _ (ev_mem (show ev_w 11079 = some (Cond.arrayClass .byte) by decide +kernel)))
  obtain ⟨p3, c3, k3, e1, -, e3, e4, e5⟩ := Cond.arrayOver_spec (hts _ (ev_mem (show ev_w 11238 = some (Cond.arrayOver (.object "LanternChess$Game")) by decide +kernel)))
  refine ⟨fun k => if k = 0 then c0 else if k = 1 then c1 else if k = 2 then c0 else c3, fun k q hq => ?_⟩
  match k, hq with
  | 0, hq => cases hq; exact ⟨fun n z => ⟨fun k h => (by cases h), k0, a2, p0, a3⟩, a1⟩
  | 1, hq => cases hq; exact ⟨fun n z => ⟨fun k h => (by cases h), k1, b2, p1, b3⟩, b1⟩
  | 2, hq => cases hq; exact ⟨fun n z => ⟨fun k h => (by cases h), k0, a2, p0, a3⟩, a1⟩
  | 3, hq => cases hq; exact ⟨fun n z => ⟨fun k h => (by cases h), k3, e3, p3, e4⟩, k3, p3, e3, e4, e1, e5⟩
/-- a text of the start -/
theorem eb_t0 {tm : Term} {l : List Int32} (hl : l.length < 2 ^ 31) (hin : ∀ w ∈ eb_tw tm l, w.before args s = true) (hA : ∀ a : Nat, a < s.heap.size → ¬ ev_A0 s a) : ∃ q : Nat, tm.eval args s none [] s = some (.ref q) ∧ ∃ v : Nat, va_O "java/lang/String" q (ev_A0 s) s s.heap ∧ va_OF "java/lang/String" "coder" "B" (.int 0) q (ev_A0 s) s s.heap ∧ va_OF "java/lang/String" "value" "[B" (.ref v) q (ev_A0 s) s s.heap ∧ va_T .byte v l.length (fun j => .int (l.getD j 0)) (ev_A0 s) s s.heap := by
  obtain ⟨a, c, cC, kC, q1, q2, q3, q4, q5, q6, -⟩ := Cond.exactly_spec (args := args) (first := s) (o := none) (s := s) (idx := []) (t := tm) (cls := "java/lang/String") (hin _ List.mem_cons_self)
  obtain ⟨t, ht, hT⟩ := va_Tof (s := s) (args := args) (tm := .field tm "java/lang/String" "value" "[B") (ty := .byte) (N := l.length) (f := fun j => .int (l.getD j 0)) (A := ev_A0 s) hl (hin _ (List.mem_cons_of_mem _ (List.mem_cons_of_mem _ List.mem_cons_self))) (va_eqt (hin _ (List.mem_cons_of_mem _ (List.mem_cons_of_mem _ (List.mem_cons_of_mem _ List.mem_cons_self)))))
    (fun j hj => va_eqt (hin _ (List.mem_cons_of_mem _ (List.mem_cons_of_mem _ (List.mem_cons_of_mem _ (List.mem_cons_of_mem _ (List.mem_map.mpr ⟨j, List.mem_range.mpr hj, rfl⟩))))))) hA
  exact ⟨a, q1, t, ⟨cC, q3, q5, by rw [q6]; exact q2, hA a (Array.getElem?_eq_some_iff.mp q3).1⟩, vk_OFof q1 (va_eqt (hin _ (List.mem_cons_of_mem _ List.mem_cons_self))) hA, vk_OFof q1 ht hA, hT⟩
/-- a table of the start -/
theorem eb_a0 {tm : Term} {ty : FieldType} {N : Nat} {f : Nat → Int32} (hN : N < 2 ^ 31) (hin : ∀ w ∈ eb_aw tm ty N f, w.before args s = true) (hA : ∀ a : Nat, a < s.heap.size → ¬ ev_A0 s a) : ∃ t : Nat, tm.eval args s none [] s = some (.ref t) ∧ va_T ty t N (fun j => .int (f j)) (ev_A0 s) s s.heap :=
  va_Tof (s := s) (args := args) (tm := tm) (ty := ty) (N := N) (f := fun j => .int (f j)) (A := ev_A0 s) hN (hin _ List.mem_cons_self) (va_eqt (hin _ (List.mem_cons_of_mem _ List.mem_cons_self)))
    (fun j hj => va_eqt (hin _ (List.mem_cons_of_mem _ (List.mem_cons_of_mem _ (List.mem_map.mpr ⟨j, List.mem_range.mpr hj, rfl⟩))))) hA
theorem eb_s0 (hts : ∀ w ∈ lw_tbl, w.before args s = true) (hn : ∀ w ∈ ev_nw1, w.before args s = true) (hA : ∀ a : Nat, a < s.heap.size → ¬ ev_A0 s a) : va_Z "java/lang/String" "COMPACT_STRINGS" "Z" (.int 1) (ev_A0 s) s s.heap ∧ va_Zq "jdk/internal/util/Preconditions" "SIOOBE_FORMATTER" "Ljava/util/function/BiFunction;" (ev_A0 s) s s.heap := by
  have hi : ∀ w ∈ tables_1_1.take 31, w.before args s = true := fun w hw => hts w (ev_init hw)
  exact ⟨va_Zof (hts _ (ev_mem (show ev_w 13216 = some (Cond.laysStatic "java/lang/String" "COMPACT_STRINGS" "Z") by decide +kernel))) (hi _ (by decide +kernel)) (va_eqt (hn _ (List.mem_of_getElem? (i := 4) (by decide +kernel)))) hA, va_Zqof (hts _ (ev_mem (show ev_w 13232 = some (Cond.laysStatic "jdk/internal/util/Preconditions" "SIOOBE_FORMATTER" "Ljava/util/function/BiFunction;") by decide +kernel))) (hi _ (by decide +kernel)) (hn _ (List.mem_of_getElem? (i := 5) (by decide +kernel))) hA⟩
theorem ev_sSH (hts : ∀ w ∈ lw_tbl, w.before args s = true) (hn : ∀ w ∈ ev_nw1, w.before args s = true) (hX : va_X b L xs s s.heap) (hbl : b < s.heap.size) : ∃ ad : Nat → Nat, ad 2 = b ∧ ev_SH L xs ad (ev_A0 s) s s.heap ∧ ev_SU ad s := by
  have hA : ∀ a : Nat, a < s.heap.size → ¬ ev_A0 s a := fun a ha h => Nat.not_lt.mpr h ha
  have hi : ∀ w ∈ tables_1_1.take 31, w.before args s = true := fun w hw => hts w (ev_init hw)
  obtain ⟨tF, hF1, hF2⟩ := eb_a0 (s := s) (args := args) (by decide) (fun w hw => hn w (eb_in ev_vwF_ok w hw)) hA
  have hS : ∀ k : Nat, ∃ q : Nat, k < 17 → ((eb_tm (ev_own (ev_sk k).1) (ev_sk k).2.1).eval args s none [] s = some (.ref q) ∧ ∃ v : Nat, va_O "java/lang/String" q (ev_A0 s) s s.heap ∧ va_OF "java/lang/String" "coder" "B" (.int 0) q (ev_A0 s) s s.heap ∧ va_OF "java/lang/String" "value" "[B" (.ref v) q (ev_A0 s) s s.heap ∧ va_T .byte v (ev_tb k).length (fun j => .int ((ev_tb k).getD j 0)) (ev_A0 s) s s.heap) := by
    intro k
    by_cases hk : k < 17
    · obtain ⟨q, h1⟩ := eb_t0 (s := s) (args := args) (ev_tl_ok k hk) (fun w hw => hn w (eb_in (ev_tw_ok k hk) w hw)) hA
      exact ⟨q, fun _ => h1⟩
    · exact ⟨0, fun h => absurd h hk⟩
  obtain ⟨ak, hak⟩ := Classical.axiomOfChoice hS
  refine ⟨fun a => if a = 0 then tF else if a = 1 then tF else if a = 2 then b else ak (a - 3), rfl, ⟨?_, ?_, ?_, ?_, ?_, ?_⟩, ?_, ?_⟩
  · intro a N f ha hf
    match a, ha, hf with
    | 0, _, hf => cases hf; exact hF2
    | 1, _, hf => cases hf; exact hF2
    | 2, _, hf =>
      cases hf
      obtain ⟨scr, h1, h2, h3, h4, h5⟩ := hX
      exact ⟨scr, h1, h2, h3, by rw [h4]; exact Nat.le_refl _, by rw [h4] <;> rfl, h5, hA b hbl⟩
  · exact va_Zof (hts _ (ev_mem (show ev_w 15237 = some (Cond.laysStatic "LanternChess$Field" "VALUES" "[I") by decide +kernel))) (hi _ (by decide +kernel)) hF1 hA
  · exact va_Zof (hts _ (ev_mem (show ev_w 15237 = some (Cond.laysStatic "LanternChess$Field" "VALUES" "[I") by decide +kernel))) (hi _ (by decide +kernel)) hF1 hA
  · intro k hk
    obtain ⟨-, v, h2⟩ := hak k hk
    have e1 : ¬ 3 + k = 0 := by omega
    have e2 : ¬ 3 + k = 1 := by omega
    have e3 : ¬ 3 + k = 2 := by omega
    simp only [e1, e2, e3, if_false, Nat.add_sub_cancel_left]
    exact ⟨v, h2⟩
  · exact (eb_s0 hts hn hA).1
  · exact (eb_s0 hts hn hA).2
  · intro e he
    obtain ⟨k, hk, rfl⟩ := ev_sr_k e he
    obtain ⟨h1, h2⟩ := ev_srr_ok k hk
    have e1 : ¬ 3 + k = 0 := by omega
    have e2 : ¬ 3 + k = 1 := by omega
    have e3 : ¬ 3 + k = 2 := by omega
    simp only [h2, e1, e2, e3, if_false, Nat.add_sub_cancel_left]
    exact vk_R.of (hts _ (ev_mem h1)) (hak k hk).1
  · exact va_AO.of (hts _ (ev_mem (show ev_w 11238 = some (Cond.arrayOver (.object "LanternChess$Game")) by decide +kernel)))
theorem eb_sXY (hts : ∀ w ∈ lw_tbl, w.before args s = true) (hn : ∀ w ∈ ev_nw1, w.before args s = true) (hX : va_X b L xs s s.heap) (hbl : b < s.heap.size) : ∃ av aw : Nat → Nat, eb_X L xs b av aw (ev_A0 s) s s.heap ∧ eb_Y av s := by
  have hA : ∀ a : Nat, a < s.heap.size → ¬ ev_A0 s a := fun a ha h => Nat.not_lt.mpr h ha
  have hi : ∀ w ∈ tables_1_1.take 31, w.before args s = true := fun w hw => hts w (ev_init hw)
  obtain ⟨z1, z2⟩ := eb_s0 hts hn hA
  have hS : ∀ k : Nat, ∃ q : Nat × Nat, k < 14 → ((eb_tm "LanternChessLaw" (eb_lx k).1).eval args s none [] s = some (.ref q.1) ∧ eb_T (ev_A0 s) (eb_ll k).length (eb_fx (eb_ll k)) q.1 q.2 s s.heap) := by
    intro k
    by_cases hk : k < 14
    · obtain ⟨q, h1, v, h2, h3, h4, h5⟩ := eb_t0 (s := s) (args := args) (eb_tl_ok k hk) (fun w hw => hn w (eb_in (eb_tw_ok k hk) w hw)) hA
      refine ⟨(q, v), fun _ => ⟨h1, h2, h3, h4, ?_, z1, z2⟩⟩
      have e1 : (eb_lq k).length = (eb_ll k).length := List.length_map _
      rw [e1] at h5
      obtain ⟨cell, g1, g2, g3, g4, g5, g6, g7⟩ := h5
      refine ⟨cell, g1, g2, g3, g4, g5, fun j hj => (g6 j hj).trans ?_, g7⟩
      refine congrArg (fun z : Int32 => some (Value.int z)) (?_ : (eb_lq k).getD j 0 = nI ((eb_ll k).getD j 0))
      unfold eb_lq
      rw [List.getD_eq_getElem?_getD, List.getElem?_map, List.getD_eq_getElem?_getD, List.getElem?_eq_getElem hj]
      rfl
    · exact ⟨(0, 0), fun h => absurd h hk⟩
  obtain ⟨ak, hak⟩ := Classical.axiomOfChoice hS
  obtain ⟨d1, o1, o2⟩ := eb_a0 (s := s) (args := args) (by decide) (fun w hw => hn w (eb_in eb_vwO_ok w hw)) hA
  obtain ⟨d2, t1, t2⟩ := eb_a0 (s := s) (args := args) (by decide) (fun w hw => hn w (eb_in eb_vwT_ok w hw)) hA
  refine ⟨fun k => (ak k).1, fun k => (ak k).2, ⟨fun k hk => (hak k hk).2, ?_, ⟨d1, d2, va_Zof (hts _ (ev_mem (show ev_w 15049 = some (Cond.laysStatic "java/lang/Integer" "DigitOnes" "[B") by decide +kernel))) (hi _ (by decide +kernel)) o1 hA, o2, va_Zof (hts _ (ev_mem (show ev_w 15051 = some (Cond.laysStatic "java/lang/Integer" "DigitTens" "[B") by decide +kernel))) (hi _ (by decide +kernel)) t1 hA, t2⟩, z1⟩, fun k hk => vk_R.of (hts _ (ev_mem (eb_lr_ok k hk))) (hak k hk).1, va_Nw.of rfl (hts _ (ev_mem (show ev_w 14204 = some (.castable "[B" "java/lang/Cloneable") by decide +kernel)))⟩
  obtain ⟨scr, h1, h2, h3, h4, h5⟩ := hX
  exact ⟨scr, h1, h2, h3, by rw [h4]; exact Nat.le_refl _, by rw [h4] <;> rfl, h5, hA b hbl⟩
end EVL
