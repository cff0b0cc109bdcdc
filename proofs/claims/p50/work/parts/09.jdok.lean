/-! Soundness of the JDK's own methods taken as one step. -/
def ev_jy (t : Nat) : MethodName := if t = 1000 then arraycopyName else if t = 1001 then Lib.Math.abs.name else if t = 1002 then Lib.Math.max.name else if t = 1003 then Lib.Math.min.name else if t = 1004 then yj_length else if t = 1005 then yj_charAt else Lib.objectInit
set_option maxRecDepth 100000 in
theorem ev_ctj : ∀ e ∈ ev_ct, 1000 ≤ e.2.2.1 → ev_w e.2.2.2 = some (.methodLink (ev_own e.1) e.2.1 (ev_jy e.2.2.1)) := by decide +kernel
theorem ev_cl2_ok {c idx t p : Nat} (h : ev_cl2 c idx = some (t, p)) : (c, idx, t, p) ∈ ev_ct := by
  unfold ev_cl2 at h
  cases hf : ev_ct.find? (fun e => e.1 == c && e.2.1 == idx) with
  | none => rw [hf] at h; cases h
  | some e =>
    rw [hf] at h
    have h1 := List.find?_some hf
    have h2 := List.mem_of_find?_eq_some hf
    obtain ⟨e1, e2, e3⟩ := e
    simp only [Option.map_some, Option.some.injEq] at h
    simp only [Bool.and_eq_true, beq_iff_eq] at h1
    rw [← h1.1, ← h1.2, ← h]
    exact h2
theorem ev_iv_ok {M n t k : Nat} {i : Instr} (h : ev_iv M i n = some (t, k)) : n = 3 ∧ ∃ idx p, ev_cl2 (ev_ci M) idx = some (t, p) ∧ ((k = 0 ∧ i = .invokestatic idx) ∨ (k = 1 ∧ i = .invokevirtual idx) ∨ (k = 2 ∧ i = .invokespecial idx)) := by
  unfold ev_iv at h
  split at h
  · rename_i idx
    cases hc : ev_cl2 (ev_ci M) idx with
    | none => rw [hc] at h; cases h
    | some q => rw [hc] at h; cases h; exact ⟨rfl, idx, q.2, hc, Or.inl ⟨rfl, rfl⟩⟩
  · rename_i idx
    cases hc : ev_cl2 (ev_ci M) idx with
    | none => rw [hc] at h; cases h
    | some q => rw [hc] at h; cases h; exact ⟨rfl, idx, q.2, hc, Or.inr (Or.inl ⟨rfl, rfl⟩)⟩
  · rename_i idx
    cases hc : ev_cl2 (ev_ci M) idx with
    | none => rw [hc] at h; cases h
    | some q => rw [hc] at h; cases h; exact ⟨rfl, idx, q.2, hc, Or.inr (Or.inr ⟨rfl, rfl⟩)⟩
  · cases h
theorem ev_sf9 {L : Nat} {xs : Nat → Int32} {a m : Nat} {f : Nat → Int32} (h : ev_sf L xs a = some (ev_ia 9 m f)) : ∃ k, k < 17 ∧ a = 3 + k ∧ m = (ev_tb k).length ∧ f = fun j => (ev_tb k).getD j 0 := by
  have h1 : ev_tag (ev_sf L xs a) = 9 := by rw [h]; rfl
  unfold ev_sf at h1 h
  by_cases h0 : a = 0
  · rw [if_pos h0] at h1; cases h1
  · rw [if_neg h0] at h1 h
    by_cases h2 : a = 1
    · rw [if_pos h2] at h1; cases h1
    · rw [if_neg h2] at h1 h
      by_cases h3 : a = 2
      · rw [if_pos h3] at h1; cases h1
      · rw [if_neg h3] at h1 h
        by_cases h4 : a < ev_S
        · rw [if_pos h4] at h
          have hS : ev_S = 20 := rfl
          simp only [ev_ia, Option.some.injEq, Sum.inr.injEq, Sum.inl.injEq, Prod.mk.injEq, true_and] at h
          exact ⟨a - 3, by omega, by omega, h.1.symm, h.2.symm⟩
        · rw [if_neg h4] at h; cases h
theorem ev_I.heap {L : Nat} {xs : Nat → Int32} {D : va_G} {cA : Nat → ClassId} {A : Nat → Prop} {s : State} {ad : Nat → Nat} {μ : ev_H} {H H1 : Heap} {locs locs1 : List Loc} (h : ev_I L xs D cA A s ad μ H locs) (hk : ∀ q : Nat, q < H.size → ¬ False → H1[q]? = H[q]?) (hS : va_S A s.heap H1 locs1) : ev_I L xs D cA A s ad μ H1 locs1 := by
  obtain ⟨q1, q2, q3, q4, q5, q6, q7, q8, q9⟩ := h
  exact ⟨q1, q2, q3, q4.kept (fun k q hq => hk _ (q4 k q hq).lt (fun z => z)), q5, hS, q7, q8, q9⟩
section EVJ
variable {p : Program} {l : Launch} {e : Env} {R : Room} {s : State} {m : MethodId} {args : Array Value} {below : List Frame} {meth : Method} {c : Code} {H : Heap} {locs : List Loc} {cells slots : Nat} {Q : State → Prop}
variable {pc : Nat} {ls : Array Slot} {cc : ByteArray} {ad : Nat → Nat} {L : Nat} {xs : Nat → Int32} {D : va_G} {cA : Nat → ClassId} {A : Nat → Prop}
theorem ev_jw {w : Cond} (p : Nat) (hts : ∀ w ∈ ev_gw, w.before args s = true) (h : (decide (ev_w p = some w) && goodWord w) = true) : w.before args s = true := by
  rw [Bool.and_eq_true] at h
  exact hts _ (ev_gm (of_decide_eq_true h.1) h.2)
set_option maxHeartbeats 8000000 in
set_option maxRecDepth 100000 in
theorem ev_jd_ok {M : Nat} (hx : p.tables.exec = Jvm.exec) (hb : c.code = cc) (hml : c.maxLocals = ls.size) (hown : s.vm.findClass (ev_own (ev_ci M)) = some m.cls) (hts : ∀ w ∈ ev_gw, w.before args s = true)
    {i : Instr} {n t k : Nat} {st st' : List Value} {μ μ' : ev_H} (hiv : ev_iv M i n = some (t, k)) (ht : 1000 ≤ t) (hjk : ev_jk t = k) (hsum : (st.map Value.category).sum ≤ 9) (hjf : ev_jf t ≤ R.frames) (hjl : ev_jl t ≤ R.locals)
    (h : ev_jd t st μ = some (st', μ')) (hI : ev_I L xs D cA A s ad μ H locs) (hs : ev_sl μ.1 st) (hR : cells ≤ R.cells ∧ slots ≤ R.slots) (hdg : decode cc pc = .ok (i, n))
    (kk : ev_K p l e R s m args below meth c cells slots Q L xs D cA A ad μ.1 (pc + n) ls st' μ') : W p l e R s m args below meth c H locs cells slots Q (F0 m pc ls (st.map (ev_v ad))) := by
  obtain ⟨rfl, idx, pp, hcl, hi⟩ := ev_iv_ok hiv
  have hlink := hts _ (ev_gm (ev_ctj _ (ev_cl2_ok hcl) ht) rfl)
  have hI0 := hI
  obtain ⟨i1, i2, hK, hP, hD, hS, hA, i8, i9⟩ := hI
  have hcat : ∀ st1 : List Value, ((st1.map (ev_v ad)).map fun v => v.category).sum = (st1.map Value.category).sum := fun st1 => by
    rw [List.map_map]
    exact congrArg List.sum (List.map_congr_left fun v _ => ev_v_cat ad v)
  have hcat1 : ∀ v : Value, 1 ≤ v.category := fun v => by rcases lv_cat v with q | q <;> omega
  have hs0 : ∀ (v : Value) (st1 : List Value), ((v :: st1).map Value.category).sum ≤ 9 → (st1.map Value.category).sum ≤ 8 := fun v st1 hq => by
    have := hcat1 v
    simp only [List.map_cons, List.sum_cons] at hq
    omega
  have k0 : ∀ st1 : List Value, st1 = st' → μ = μ' → ev_sl μ.1 st1 → W p l e R s m args below meth c H locs cells slots Q (F0 m (pc + 3) ls (st1.map (ev_v ad))) := by
    intro st1 e1 e2 h5
    subst e1; subst e2
    exact kk ad H locs (fun _ _ => rfl) (Nat.le_refl _) hI0 h5
  have hr30 : ∀ {n : Nat}, n ≤ 8 → 30 ≤ R.locals → n + (7 + 11) ≤ R.locals := fun h1 h2 => by omega
  have hin : ∀ {v : Int32} {st1 : List Value}, ev_sl μ.1 st1 → ev_sl μ.1 (.int v :: st1) := fun h1 => ev_sl_cons (ev_vl_nil (fun a ha => by cases ha)) h1
  unfold ev_jd at h
  split at h
  · -- arraycopy
    rename_i nn dp b sp a st
    have hi2 : i = .invokestatic idx := by
      rcases hi with ⟨_, q⟩ | ⟨q, _⟩ | ⟨q, _⟩
      · exact q
      · subst q; exact absurd hjk (by decide)
      · subst q; exact absurd hjk (by decide)
    subst hi2
    split at h
    · rename_i t0 m0 f t1 m1 g hm0 hm1
      split at h
      · rename_i hc
        obtain ⟨rfl, rfl, h1, h2, h3, h4, h5, ha, hb2⟩ := hc
        cases h
        have hr := hs0 _ _ (Nat.le_succ_of_le (hs0 _ _ (Nat.le_succ_of_le (hs0 _ _ (Nat.le_succ_of_le (hs0 _ _ (Nat.le_succ_of_le (hs0 _ _ hsum))))))))
        exact va_copyi hx hb hml hown hlink (ev_jw 13123 hts (by decide +kernel)) (ev_jw 13122 hts (by decide +kernel)) (ev_jw 11019 hts (by decide +kernel)) hK hP hD hS (a - ev_S) (b - ev_S) 0 0 (ev_ws_get i1 ha hm0) (ev_ws_get i1 hb2 hm1) rfl rfl rfl h1 h2 h3 h4 h5 (fun _ _ => rfl) hjf (by rw [hcat, show nativeFrameWords "java/lang/System" "arraycopy" 5 = 7 by decide +kernel]; exact hr30 hr hjl) hdg (fun H1 locs1 hP1 hD1 hS1 => kk ad H1 locs1 (fun _ _ => rfl) (Nat.le_refl _) (hI0.set (e := ev_ia 0 m1 (va_cpy f g sp.toNatClampNeg dp.toNatClampNeg nn.toNatClampNeg)) hb2 (i1.2.1 _ _ hb2 hm1).1 (Nat.zero_le _) hP1 hD1 hS1) (ev_sl_tail (ev_sl_tail (ev_sl_tail (ev_sl_tail (ev_sl_tail hs))))))
      · cases h
    · cases h
  · -- abs
    rename_i x st
    have hi2 : i = .invokestatic idx := by
      rcases hi with ⟨_, q⟩ | ⟨q, _⟩ | ⟨q, _⟩
      · exact q
      · subst q; exact absurd hjk (by decide)
      · subst q; exact absurd hjk (by decide)
    subst hi2
    cases h
    exact va_mabs hx hb hml hown hlink (ev_jw 15187 hts (by decide +kernel)) (ev_jw 11018 hts (by decide +kernel)) (ev_jw 15188 hts (by decide +kernel)) hjf (by rw [hcat]; have := hs0 _ _ hsum; have h9 : 30 ≤ R.locals := hjl; omega) hR.1 hR.2 hdg (k0 (.int _ :: st) rfl rfl (hin (ev_sl_tail hs)))
  · -- max
    rename_i y x st
    have hi2 : i = .invokestatic idx := by
      rcases hi with ⟨_, q⟩ | ⟨q, _⟩ | ⟨q, _⟩
      · exact q
      · subst q; exact absurd hjk (by decide)
      · subst q; exact absurd hjk (by decide)
    subst hi2
    cases h
    exact va_mmax hx hb hml hown hlink (ev_jw 14190 hts (by decide +kernel)) (ev_jw 11018 hts (by decide +kernel)) (ev_jw 14191 hts (by decide +kernel)) hjf (by rw [hcat]; have := hs0 _ _ (Nat.le_succ_of_le (hs0 _ _ hsum)); have h9 : 30 ≤ R.locals := hjl; omega) hR.1 hR.2 hdg (k0 (.int _ :: st) rfl rfl (hin (ev_sl_tail (ev_sl_tail hs))))
  · -- min
    rename_i y x st
    have hi2 : i = .invokestatic idx := by
      rcases hi with ⟨_, q⟩ | ⟨q, _⟩ | ⟨q, _⟩
      · exact q
      · subst q; exact absurd hjk (by decide)
      · subst q; exact absurd hjk (by decide)
    subst hi2
    cases h
    exact va_mmin hx hb hml hown hlink (ev_jw 13135 hts (by decide +kernel)) (ev_jw 11018 hts (by decide +kernel)) (ev_jw 13136 hts (by decide +kernel)) hjf (by rw [hcat]; have := hs0 _ _ (Nat.le_succ_of_le (hs0 _ _ hsum)); have h9 : 30 ≤ R.locals := hjl; omega) hR.1 hR.2 hdg (k0 (.int _ :: st) rfl rfl (hin (ev_sl_tail (ev_sl_tail hs))))
  · -- length
    rename_i a st
    have hi2 : i = .invokevirtual idx := by
      rcases hi with ⟨q, _⟩ | ⟨_, q⟩ | ⟨q, _⟩
      · subst q; exact absurd hjk (by decide)
      · exact q
      · subst q; exact absurd hjk (by decide)
    subst hi2
    split at h
    · rename_i mm f hm
      have ha : ¬ ev_S ≤ a := fun z => by
        have h9 : (9 : Nat) ≤ 1 := (i1.2.1 a _ z hm).2
        omega
      obtain ⟨k, hk, rfl, rfl, rfl⟩ := ev_sf9 ((i2 a (by omega)).symm.trans hm)
      obtain ⟨v, s1, s2, s3, s4⟩ := i8.2.2.2.1 k hk
      have hq : ∀ a : Nat, a < s.heap.size → ¬ A a → H[a]? = s.heap[a]? := hS.2.1
      have fN : ∀ q : Nat, False → A q := fun _ z => z.elim
      have hJ : ev_Js (ev_tb k).length (fun j => (ev_tb k).getD j 0) (ad (3 + k)) v s H := ⟨(s1.kept hq).narrow fN, (s2.kept hq).narrow fN, (s3.kept hq).narrow fN, (s4.kept hq).narrow fN, (i8.2.2.2.2.1.kept hq).narrow fN, (i8.2.2.2.2.2.kept hq).narrow fN⟩
      cases h
      refine va_calli (va_runV (As := []) (rest := st.map (ev_v ad)) ⟨hx, hb, hml, hown, hts⟩ (ej_length l (ev_tb k).length (fun j => (ev_tb k).getD j 0) (ad (3 + k)) v) (cwV 0 hts (ev_gV (w0 := .tt) (ev_gm (ev_ctj _ (ev_cl2_ok hcl) ht) rfl) (ev_gm (p := 13208) (by decide +kernel) rfl) (ev_gm (p := 13209) (by decide +kernel) rfl) (ev_ginit (by decide +kernel) rfl) (ev_gm (p := 13210) (by decide +kernel) rfl)) rfl rfl rfl (by decide +kernel) ⟨hjf, by have h9 : 40 ≤ R.locals := hjl; show 8 + (1 + 11) + 20 ≤ R.locals; omega⟩) ⟨fun a U g mk q => ⟨q.1, ev_Js.moved (Vm.Alike.refl U.vm) q.2.1, q.2.2⟩, va_Orecv s1 hS, fun U hU hW => ⟨rfl, by show ev_Js (ev_tb k).length (fun j => (ev_tb k).getD j 0) (ad (3 + k)) v U U.heap ∧ _; rw [hU]; exact ⟨hJ.moved hW.alike, Nat.lt_of_lt_of_le (ev_tbl k) (by decide)⟩⟩⟩ rfl rfl rfl rfl (by show 2 * 0 + ((st.map (ev_v ad)).map fun v => v.category).sum ≤ 8; rw [hcat, Nat.mul_zero, Nat.zero_add]; exact hs0 _ _ hsum) hdg ⟨hR.1, hR.2⟩) hS (fun q _ z => z.elim) (fun q z => z.elim) (fun r u t H1 locs1 ht1 hvm hw hB hz1 hk1 hS1 => ?_)
      have hw : r = Int32.ofNat (ev_tb k).length := hw
      subst hw
      exact kk ad H1 locs1 (fun _ _ => rfl) (Nat.le_refl _) (hI0.heap hk1 hS1) (hin (ev_sl_tail hs))
    · cases h
  · -- charAt
    rename_i x a st
    have hi2 : i = .invokevirtual idx := by
      rcases hi with ⟨q, _⟩ | ⟨_, q⟩ | ⟨q, _⟩
      · subst q; exact absurd hjk (by decide)
      · exact q
      · subst q; exact absurd hjk (by decide)
    subst hi2
    split at h
    · rename_i mm f hm
      have ha : ¬ ev_S ≤ a := fun z => by
        have h9 : (9 : Nat) ≤ 1 := (i1.2.1 a _ z hm).2
        omega
      obtain ⟨k, hk, rfl, rfl, rfl⟩ := ev_sf9 ((i2 a (by omega)).symm.trans hm)
      obtain ⟨v, s1, s2, s3, s4⟩ := i8.2.2.2.1 k hk
      have hq : ∀ a : Nat, a < s.heap.size → ¬ A a → H[a]? = s.heap[a]? := hS.2.1
      have fN : ∀ q : Nat, False → A q := fun _ z => z.elim
      have hJ : ev_Js (ev_tb k).length (fun j => (ev_tb k).getD j 0) (ad (3 + k)) v s H := ⟨(s1.kept hq).narrow fN, (s2.kept hq).narrow fN, (s3.kept hq).narrow fN, (s4.kept hq).narrow fN, (i8.2.2.2.2.1.kept hq).narrow fN, (i8.2.2.2.2.2.kept hq).narrow fN⟩
      split at h
      · rename_i hxin
        have hxin := ev_in_ok hxin
        cases h
        refine va_calli (va_runV (As := [.int x]) (rest := st.map (ev_v ad)) ⟨hx, hb, hml, hown, hts⟩ (ej_charAt l (ev_tb k).length (fun j => (ev_tb k).getD j 0) (ad (3 + k)) v (ev_tbg_k hk) x hxin) (cwV 1 hts (ev_gV (w0 := .tt) (ev_gm (ev_ctj _ (ev_cl2_ok hcl) ht) rfl) (ev_gm (p := 13218) (by decide +kernel) rfl) (ev_gm (p := 13219) (by decide +kernel) rfl) (ev_ginit (by decide +kernel) rfl) (ev_gm (p := 13220) (by decide +kernel) rfl)) rfl rfl rfl (by decide +kernel) ⟨hjf, by have h9 : 85 ≤ R.locals := hjl; show 8 + (2 + 11) + 64 ≤ R.locals; omega⟩) ⟨fun a U g mk q => ⟨q.1, ev_Js.moved (Vm.Alike.refl U.vm) q.2⟩, va_Orecv s1 hS, fun U hU hW => ⟨rfl, by show ev_Js (ev_tb k).length (fun j => (ev_tb k).getD j 0) (ad (3 + k)) v U U.heap; rw [hU]; exact hJ.moved hW.alike⟩⟩ rfl rfl rfl rfl (by show 2 * 0 + ((st.map (ev_v ad)).map fun v => v.category).sum ≤ 8; rw [hcat, Nat.mul_zero, Nat.zero_add]; exact hs0 _ _ (Nat.le_succ_of_le (hs0 _ _ hsum))) hdg ⟨hR.1, hR.2⟩) hS (fun q _ z => z.elim) (fun q z => z.elim) (fun r u t H1 locs1 ht1 hvm hw hB hz1 hk1 hS1 => ?_)
        have hw : r = (ev_tb k).getD x.toNatClampNeg 0 := hw
        subst hw
        exact kk ad H1 locs1 (fun _ _ => rfl) (Nat.le_refl _) (hI0.heap hk1 hS1) (hin (ev_sl_tail (ev_sl_tail hs)))
      · cases h
    · cases h
  · -- Object.<init>
    have hi2 : i = .invokespecial idx := by
      rcases hi with ⟨q, _⟩ | ⟨q, _⟩ | ⟨_, q⟩
      · subst q; exact absurd hjk (by decide)
      · subst q; exact absurd hjk (by decide)
      · exact q
    subst hi2
    cases h
    refine W.objInit hx hb hown hlink (ev_jw 11037 hts (by decide +kernel)) (ev_jw 11038 hts (by decide +kernel)) rfl hml.symm rfl hdg hjf ?_ ?_
    · have h8 := hs0 _ _ hsum
      have h9 : 30 ≤ R.locals := hjl
      refine Nat.le_trans ?_ h9
      rw [hcat]
      show 2 * 0 + _ + 12 ≤ 30
      omega
    · exact k0 _ rfl rfl (ev_sl_tail hs)
  · cases h
end EVJ
