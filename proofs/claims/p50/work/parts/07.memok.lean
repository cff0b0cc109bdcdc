/-! Soundness of the evaluator's steps over memory. -/
def ev_tag (x : Option ev_E) : Nat := match x with
  | some (.inr (.inl (t, _, _))) => t
  | _ => 77
theorem ev_sf3 {L : Nat} {xs : Nat → Int32} {a t N : Nat} {f : Nat → Int32} (h : ev_sf L xs a = some (ev_ia t N f)) (ht : t ≤ 1) : a < 3 ∧ t = 0 := by
  have h1 : ev_tag (ev_sf L xs a) = t := by rw [h]; rfl
  unfold ev_sf at h1
  by_cases h0 : a = 0
  · rw [if_pos h0] at h1; exact ⟨by omega, h1.symm⟩
  · rw [if_neg h0] at h1
    by_cases h2 : a = 1
    · rw [if_pos h2] at h1; exact ⟨by omega, h1.symm⟩
    · rw [if_neg h2] at h1
      by_cases h3 : a = 2
      · rw [if_pos h3] at h1; exact ⟨by omega, h1.symm⟩
      · rw [if_neg h3] at h1
        by_cases h4 : a < ev_S
        · rw [if_pos h4] at h1
          have : 9 = t := h1
          omega
        · rw [if_neg h4] at h1
          have : 77 = t := h1
          omega
section EVM
variable {p : Program} {l : Launch} {e : Env} {R : Room} {s : State} {m : MethodId} {args : Array Value} {below : List Frame} {meth : Method} {c : Code} {H : Heap} {locs : List Loc} {cells slots : Nat} {Q : State → Prop}
variable {pc : Nat} {ls : Array Slot} {cc : ByteArray} {ad : Nat → Nat} {L : Nat} {xs : Nat → Int32} {D : va_G} {cA : Nat → ClassId} {A : Nat → Prop}
/-- the step's continuation -/
def ev_K (p : Program) (l : Launch) (e : Env) (R : Room) (s : State) (m : MethodId) (args : Array Value) (below : List Frame) (meth : Method) (c : Code) (cells slots : Nat) (Q : State → Prop) (L : Nat) (xs : Nat → Int32) (D : va_G) (cA : Nat → ClassId) (A : Nat → Prop) (ad : Nat → Nat) (n0 : Nat) (pc : Nat) (ls : Array Slot) (st : List Value) (μ : ev_H) : Prop :=
  ∀ (ad' : Nat → Nat) (H' : Heap) (locs' : List Loc), (∀ a, a < n0 → ad' a = ad a) → n0 ≤ μ.1 → ev_I L xs D cA A s ad' μ H' locs' → ev_sl μ.1 st → W p l e R s m args below meth c H' locs' cells slots Q (F0 m pc ls (st.map (ev_v ad')))
set_option maxHeartbeats 8000000 in
theorem ev_me_ok {M : Nat} (hx : p.tables.exec = Jvm.exec) (hb : c.code = cc) (hown : s.vm.findClass (ev_own (ev_ci M)) = some m.cls) (hts : ∀ w ∈ ev_gw, w.before args s = true) (hin2 : ev_kd M = 2 → meth.name = "<init>")
    {i : Instr} {n c0 s0 : Nat} {st st' : List Value} {μ μ' : ev_H} (h : ev_me (ev_ci M) (ev_kd M) i n st μ = some (c0, s0, st', μ')) (hI : ev_I L xs D cA A s ad μ H locs) (hs : ev_sl μ.1 st) (hR : cells + c0 ≤ R.cells ∧ slots + s0 ≤ R.slots) (hdg : decode cc pc = .ok (i, n))
    (k : ev_K p l e R s m args below meth c (cells + c0) (slots + s0) Q L xs D cA A ad μ.1 (pc + n) ls st' μ') : W p l e R s m args below meth c H locs cells slots Q (F0 m pc ls (st.map (ev_v ad))) := by
  have hI0 := hI
  obtain ⟨i1, i2, hK, hP, hD, hS, hA, i8, i9⟩ := hI
  have k0 : ∀ st1 : List Value, st1 = st' → μ = μ' → c0 = 0 → s0 = 0 → ev_sl μ.1 st1 → W p l e R s m args below meth c H locs cells slots Q (F0 m (pc + n) ls (st1.map (ev_v ad))) := by
    intro st1 e1 e2 e3 e4 h5
    subst e1; subst e2; subst e3; subst e4
    exact k ad H locs (fun _ _ => rfl) (Nat.le_refl _) hI0 h5
  have kS : ∀ {a : Nat} {e1 : ev_E} {st1 : List Value} {H1 : Heap} {locs1 : List Loc}, st1 = st' → (μ.1, ev_up μ.2 a e1) = μ' → c0 = 0 → s0 = 0 → ev_sl μ.1 st1 → ev_S ≤ a → a < μ.1 → ev_el μ.1 e1 → va_P D ev_cl ((ev_ws ad cA μ).set (a - ev_S) (ad a, ev_ce ad cA e1)) H1 → va_D A ((ev_ws ad cA μ).set (a - ev_S) (ad a, ev_ce ad cA e1)) → va_S A s.heap H1 locs1 → W p l e R s m args below meth c H1 locs1 cells slots Q (F0 m (pc + n) ls (st1.map (ev_v ad))) := by
    intro a e1 st1 H1 locs1 f1 f2 f3 f4 f5 f6 f7 f8 hP1 hD1 hS1
    subst f1; subst f2; subst f3; subst f4
    exact k ad H1 locs1 (fun _ _ => rfl) (Nat.le_refl _) (hI0.set f6 f7 f8 hP1 hD1 hS1) f5
  have kP : ∀ {e1 : ev_E} {st1 : List Value} {H1 : Heap} {q k1 k2 : Nat}, .ref μ.1 :: st1 = st' → (μ.1 + 1, ev_up μ.2 μ.1 e1) = μ' → k1 = c0 → k2 = s0 → ev_sl μ.1 st1 → ev_el μ.1 e1 → va_P D ev_cl (ev_ws ad cA μ ++ [(q, ev_ce ad cA e1)]) H1 → va_D A (ev_ws ad cA μ ++ [(q, ev_ce ad cA e1)]) → va_S A s.heap H1 locs → W p l e R s m args below meth c H1 locs (cells + k1) (slots + k2) Q (F0 m (pc + n) ls (.ref q :: st1.map (ev_v ad))) := by
    intro e1 st1 H1 q k1 k2 f1 f2 f3 f4 f5 f8 hP1 hD1 hS1
    subst f1; subst f2; subst f3; subst f4
    have hag : ∀ a, a < μ.1 → va_up ad μ.1 q a = ad a := fun a ha => by unfold va_up; rw [if_neg (by omega)]
    have h9 := k (va_up ad μ.1 q) H1 locs hag (Nat.le_succ _) (hI0.push f8 hP1 hD1 hS1) (ev_sl_cons (fun a ha => by cases ha; exact Nat.lt_succ_self _) (ev_sl_mono f5 (Nat.le_succ _)))
    rw [List.map_cons, ev_st_ag f5 hag] at h9
    have h10 : ev_v (va_up ad μ.1 q) (.ref μ.1) = .ref q := by show Value.ref (va_up ad μ.1 q μ.1) = .ref q; unfold va_up; rw [if_pos rfl]
    rw [h10] at h9
    exact h9
  have hws : ∀ {a : Nat} {e1 : ev_E}, ev_S ≤ a → μ.2 a = some e1 → (ev_ws ad cA μ)[a - ev_S]? = some (ad a, ev_ce ad cA e1) := fun h1 h2 => ev_ws_get i1 h1 h2
  have hlt : ∀ {a : Nat} {e1 : ev_E}, ev_S ≤ a → μ.2 a = some e1 → a < μ.1 ∧ ev_el μ.1 e1 := fun h1 h2 => i1.2.1 _ _ h1 h2
  unfold ev_me at h
  split at h
  · -- getfield
    rename_i idx a st
    split at h
    · rename_i ci kk t pp c2 fs hf hm
      split at h
      · rename_i hc
        obtain ⟨rfl, ha⟩ := hc
        split at h
        · rename_i v hv
          cases h
          obtain ⟨hw, hci, hk⟩ := ev_ft_ok _ (ev_fl_ok hf)
          have he := (hlt ha hm).2
          exact va_get (D := D) (own := ev_own (ev_ci M)) hx hb hts (ev_gws hci) hown hK hP (a - ev_S) (hws ha hm) (ev_clget hci) kk hk (hts _ (ev_gm hw rfl)) (fun _ h9 => h9) (v := ev_v ad v) (by rw [List.getElem?_map, hv]; rfl) hdg (k0 (v :: st) rfl rfl rfl rfl (ev_sl_cons (he.2.2 v (List.mem_of_getElem? hv)) (ev_sl_tail hs)))
        · cases h
      · cases h
    · cases h
  · -- putfield
    rename_i idx v a st
    split at h
    · rename_i ci kk t pp c2 fs hf hm
      split at h
      · rename_i hc
        obtain ⟨rfl, ha, hkl, hfit, hfin⟩ := hc
        cases h
        obtain ⟨hw, hci, hk⟩ := ev_ft_ok _ (ev_fl_ok hf)
        obtain ⟨ft0, ft1, ft2⟩ := ev_fty _ (ev_fl_ok hf)
        obtain ⟨hal, he⟩ := hlt ha hm
        have hty := ev_tyok c2 hci kk hk
        have hv : ev_vl μ.1 v := hs v List.mem_cons_self
        have hel : ev_el μ.1 (ev_ob c2 (fs.set kk v)) := ⟨hci, by rw [List.length_set]; exact he.2.1, fun w hw => by
          rcases List.mem_or_eq_of_mem_set hw with q | q
          · exact he.2.2 w q
          · rw [q]; exact hv⟩
        have hset : (fs.map (ev_v ad)).set kk (ev_v ad v) = (fs.set kk v).map (ev_v ad) := (List.map_set ..).symm
        have hnf : narrow (ev_ty c2 kk) (ev_v ad v) = ev_v ad v ∧ fits (ev_ty c2 kk) (ev_v ad v) = true := by
          unfold ev_fit at hfit
          dsimp only at ft0 ft1 ft2
          split at hfit
          · rw [ft0 rfl]; exact ⟨rfl, rfl⟩
          · rename_i x
            rw [ft1 rfl]
            rcases of_decide_eq_true hfit with q | q <;> (rw [q]; exact ⟨(by decide : narrow .boolean (.int _) = .int _), (by decide : fits .boolean (.int _) = true)⟩)
          · have h7 := ft2 rfl
            revert h7
            cases ev_ty c2 kk <;> intro h7 <;> first | exact ⟨rfl, rfl⟩ | (exact absurd h7 (by decide))
          · cases hfit
        rcases hfin with hfin | ⟨hfin, hfc⟩
        · by_cases hff : ((ev_C c2).2.1 kk).2.2.2 = false
          · exact va_put (D := D) (own := ev_own (ev_ci M)) hx hb hts (ev_gws hci) (ev_ty c2) (ev_tyok c2 hci) (ev_nmok c2 hci) hown hK hP hD hS (a - ev_S) (hws ha hm) (ev_clget hci) kk hk (hts _ (ev_gm hw rfl)) (fun _ h9 => h9) hff hty hnf.1 hnf.2 (by rw [List.length_map]; exact hkl) hdg (fun H1 locs1 hP1 hD1 hS1 => by
              rw [hset] at hP1 hD1
              exact kS rfl rfl rfl rfl (ev_sl_tail (ev_sl_tail hs)) ha hal hel hP1 hD1 hS1)
          · exact absurd hfin hff
        · by_cases hff : ((ev_C c2).2.1 kk).2.2.2 = false
          · exact va_put (D := D) (own := ev_own (ev_ci M)) hx hb hts (ev_gws hci) (ev_ty c2) (ev_tyok c2 hci) (ev_nmok c2 hci) hown hK hP hD hS (a - ev_S) (hws ha hm) (ev_clget hci) kk hk (hts _ (ev_gm hw rfl)) (fun _ h9 => h9) hff hty hnf.1 hnf.2 (by rw [List.length_map]; exact hkl) hdg (fun H1 locs1 hP1 hD1 hS1 => by
              rw [hset] at hP1 hD1
              exact kS rfl rfl rfl rfl (ev_sl_tail (ev_sl_tail hs)) ha hal hel hP1 hD1 hS1)
          · have hdc : ∀ c, c < 12 → ∀ k, k < (ev_C c).2.2 → ((ev_C c).2.1 k).1 = ev_own c := by decide +kernel
            exact va_putF (D := D) (own := ev_own (ev_ci M)) hx hb hts (ev_gws hci) (ev_ty c2) (ev_tyok c2 hci) (ev_nmok c2 hci) hown hK hP hD hS (a - ev_S) (hws ha hm) (ev_clget hci) kk hk (hts _ (ev_gm hw rfl)) (fun _ h9 => h9) (by simpa using hff) (hin2 hfin) (by rw [hfc]; exact hdc c2 hci kk hk) hty hnf.1 hnf.2 (by rw [List.length_map]; exact hkl) hdg (fun H1 locs1 hP1 hD1 hS1 => by
              rw [hset] at hP1 hD1
              exact kS rfl rfl rfl rfl (ev_sl_tail (ev_sl_tail hs)) ha hal hel hP1 hD1 hS1)
      · cases h
    · cases h
  · -- getstatic
    rename_i st idx
    split at h
    · rename_i hc
      cases h
      have hw := hts _ (ev_gm ev_pV_ok.1 rfl)
      rw [← hc.1, ← hc.2] at hw
      exact va_gets hx hb i8.2.1 hS hown hw (fun _ h9 => h9) hdg (k0 _ rfl rfl rfl rfl (ev_sl_cons (fun a ha => by cases ha; exact Nat.lt_of_lt_of_le (by decide) i1.1) hs))
    · cases h
  · -- iaload
    rename_i x a st
    split at h
    · rename_i t mm f hm
      split at h
      · rename_i hc
        obtain ⟨rfl, hin⟩ := hc
        cases h
        have hs2 := ev_sl_tail (ev_sl_tail hs)
        by_cases ha : ev_S ≤ a
        · exact va_iald hx hb hK hP (a - ev_S) 0 (hws ha hm) rfl (ev_in_ok hin) hdg (k0 (.int (f x.toNatClampNeg) :: st) rfl rfl rfl rfl (ev_sl_cons (ev_vl_nil (fun a ha => by cases ha)) hs2))
        · have hsa : ev_sf L xs a = some (ev_ia 0 mm f) := by rw [← i2 a (by omega)]; exact hm
          have ha3 : a < 3 := by
            refine Nat.lt_of_not_le fun h3 => ?_
            unfold ev_sf at hsa
            rw [if_neg (by omega), if_neg (by omega), if_neg (by omega), if_pos (by omega)] at hsa
            cases hsa
          exact va_ti hx hb (i8.1 a mm f ha3 hsa) hS (ev_in_ok hin) rfl hdg (k0 (.int (f x.toNatClampNeg) :: st) rfl rfl rfl rfl (ev_sl_cons (ev_vl_nil (fun a ha => by cases ha)) hs2))
      · cases h
    · cases h
  · -- baload
    rename_i x a st
    split at h
    · rename_i t mm f hm
      split at h
      · rename_i hc
        obtain ⟨rfl, hin, ha⟩ := hc
        cases h
        exact va_bald hx hb hK hP (a - ev_S) 1 (hws ha hm) rfl (ev_in_ok hin) hdg (k0 (.int (f x.toNatClampNeg) :: st) rfl rfl rfl rfl (ev_sl_cons (ev_vl_nil (fun a ha => by cases ha)) (ev_sl_tail (ev_sl_tail hs))))
      · cases h
    · cases h
  · -- aaload
    rename_i x a st
    split at h
    · rename_i mm f hm
      split at h
      · rename_i hc
        obtain ⟨hin, ha⟩ := hc
        cases h
        have hel := (hlt ha hm).2
        have h9 := k0 (va_rf (f x.toNatClampNeg) :: st) rfl rfl rfl rfl (ev_sl_cons (fun b hb9 => by
          cases hf : f x.toNatClampNeg with
          | none => rw [hf] at hb9; cases hb9
          | some d => rw [hf] at hb9; cases hb9; exact hel _ _ hf) (ev_sl_tail (ev_sl_tail hs)))
        rw [List.map_cons, ev_v_rf] at h9
        exact va_aldq hx hb hK hP (a - ev_S) 3 (hws ha hm) rfl (ev_in_ok hin) hdg h9
      · cases h
    · cases h
  · -- iastore
    rename_i v x a st
    split at h
    · rename_i t mm f hm
      split at h
      · rename_i hc
        obtain ⟨rfl, hin, ha⟩ := hc
        cases h
        exact va_iast hx hb hK hP hD hS (a - ev_S) 0 (hws ha hm) rfl (ev_in_ok hin) hdg (fun H1 locs1 hP1 hD1 hS1 => kS (e1 := ev_ia 0 mm (upd f x.toNatClampNeg v)) rfl rfl rfl rfl (ev_sl_tail (ev_sl_tail (ev_sl_tail hs))) ha (hlt ha hm).1 (Nat.zero_le _) hP1 hD1 hS1)
      · cases h
    · cases h
  · -- bastore
    rename_i v x a st
    split at h
    · rename_i t mm f hm
      split at h
      · rename_i hc
        obtain ⟨rfl, hin, ha⟩ := hc
        cases h
        exact va_bast hx hb hK hP hD hS (a - ev_S) 1 (hws ha hm) rfl (ev_in_ok hin) hdg (fun H1 locs1 hP1 hD1 hS1 => kS (e1 := ev_ia 1 mm (upd f x.toNatClampNeg v.toInt8.toInt32)) rfl rfl rfl rfl (ev_sl_tail (ev_sl_tail (ev_sl_tail hs))) ha (hlt ha hm).1 (Nat.le_refl _) hP1 hD1 hS1)
      · cases h
    · cases h
  · -- aastore
    rename_i v x a st
    split at h
    · rename_i mm f c2 fs hm hm2
      split at h
      · rename_i hc
        obtain ⟨rfl, hin, ha, hv⟩ := hc
        cases h
        have hup : (fun i => (va_up f x.toNatClampNeg (some v) i).map ad) = va_up (fun i => (f i).map ad) x.toNatClampNeg (some (ad v)) := by
          funext i
          unfold va_up
          split <;> rfl
        exact va_astq hx hb hK hP hD hS (a - ev_S) 3 (v - ev_S) 3 (r := ((ev_C 3).1, (ev_C 3).2.1, (ev_C 3).2.2)) (hws ha hm) rfl (hws hv hm2) (ev_clget (by decide)) (ev_in_ok hin) hdg (fun H1 locs1 hP1 hD1 hS1 => kS (e1 := ev_ra mm (va_up f x.toNatClampNeg (some v))) rfl rfl rfl rfl (ev_sl_tail (ev_sl_tail (ev_sl_tail hs))) ha (hlt ha hm).1 (fun i b hb9 => by
          unfold va_up at hb9
          split at hb9
          · cases hb9; exact (hlt hv hm2).1
          · exact (hlt ha hm).2 i b hb9) (by show va_P D ev_cl ((ev_ws ad cA μ).set (a - ev_S) (ad a, .inl (cA 3, mm, .inr (.inr (.inr (.inr (fun i => (va_up f x.toNatClampNeg (some v) i).map ad))))))) H1; rw [hup]; exact hP1) (by show va_D A ((ev_ws ad cA μ).set (a - ev_S) (ad a, .inl (cA 3, mm, .inr (.inr (.inr (.inr (fun i => (va_up f x.toNatClampNeg (some v) i).map ad))))))); rw [hup]; exact hD1) hS1)
      · cases h
    · cases h
  · -- arraylength
    rename_i a st
    split at h
    · rename_i t mm f hm
      split at h
      · rename_i hc
        cases h
        have h9 := k0 (.int (Int32.ofNat mm) :: st) rfl rfl rfl rfl (ev_sl_cons (ev_vl_nil (fun a ha => by cases ha)) (ev_sl_tail hs))
        by_cases ha : ev_S ≤ a
        · have ht : t = 0 ∨ t = 1 := by omega
          rcases ht with rfl | rfl
          · exact va_alen hx hb hK hP (a - ev_S) 0 (hws ha hm) (ty := .int) rfl rfl hdg h9
          · exact va_alen hx hb hK hP (a - ev_S) 1 (hws ha hm) (ty := .byte) rfl rfl hdg h9
        · have hsa : ev_sf L xs a = some (ev_ia t mm f) := by rw [← i2 a (by omega)]; exact hm
          have ha3 : a < 3 ∧ t = 0 := ev_sf3 hsa hc
          obtain ⟨ha3, rfl⟩ := ha3
          exact va_tlen hx hb (i8.1 a mm f ha3 hsa) hS rfl hdg h9
      · cases h
    · cases h
  · -- newarray int
    rename_i kk st
    split at h
    · cases h
    · rename_i hc
      cases h
      exact va_newa (ty := .int) hx hb (hts _ (ev_gm ev_pA_ok.1 rfl)) rfl hK hP hD hS hA (a0 := (kk.toNatClampNeg, .inl (fun _ => 0))) (N' := kk.toNatClampNeg) (fun _ => rfl) (fun z => hc (Or.inl z)) rfl (by rw [show componentBytes .int = 4 from rfl]; omega) hR.1 hR.2 hdg (fun q c1 H1 hK1 hP1 hD1 hS1 => by
        have e1 := ev_arrK hK (t := 0) rfl hK1
        subst e1
        exact kP (e1 := ev_ia 0 kk.toNatClampNeg (fun _ => 0)) rfl rfl rfl rfl (ev_sl_tail hs) (Nat.zero_le _) hP1 hD1 hS1)
  · rename_i kk st
    split at h
    · cases h
    · rename_i hc
      cases h
      exact va_newa (ty := .byte) hx hb (hts _ (ev_gm ev_pA_ok.2.1 rfl)) rfl hK hP hD hS hA (a0 := (kk.toNatClampNeg, .inl (fun _ => 0))) (N' := kk.toNatClampNeg) (fun _ => rfl) (fun z => hc (Or.inl z)) rfl (by rw [show componentBytes .byte = 1 from rfl]; omega) hR.1 hR.2 hdg (fun q c1 H1 hK1 hP1 hD1 hS1 => by
        have e1 := ev_arrK hK (t := 1) rfl hK1
        subst e1
        exact kP (e1 := ev_ia 1 kk.toNatClampNeg (fun _ => 0)) rfl rfl rfl rfl (ev_sl_tail hs) (Nat.le_refl _) hP1 hD1 hS1)
  · -- anewarray
    rename_i idx kk st
    split at h
    · rename_i hc
      obtain ⟨hc1, hc2, hc⟩ := hc
      cases h
      have hw := hts _ (ev_gm ev_pO_ok.2 rfl)
      rw [← hc1, ← hc2] at hw
      exact va_newq hx hb hown hw (i9.2) hK hP hD hS hA (N' := kk.toNatClampNeg) (fun z => hc (Or.inl z)) rfl (by omega) hR.1 hR.2 hdg (fun q c1 H1 hK1 hP1 hD1 hS1 => by
        have e1 := ev_arrK hK (t := 3) rfl hK1
        subst e1
        exact kP (e1 := ev_ra kk.toNatClampNeg (fun _ => none)) rfl rfl rfl rfl (ev_sl_tail hs) (fun i b hb9 => by cases hb9) hP1 hD1 hS1)
    · cases h
  · -- new
    rename_i st idx
    split at h
    · rename_i ci pp hn
      cases h
      obtain ⟨hw, hci⟩ := ev_nt_ok _ (ev_nw_ok hn)
      obtain ⟨l1, l2, l3, l4⟩ := ev_lay ci hci
      obtain ⟨n1, n2⟩ := ev_new_lt ci hci
      have hn0 : ∀ v ∈ ev_new ci, (∀ a, v ≠ .ref a) := fun v hv a ha => by
        have := n2 v hv
        rw [ha] at this
        cases this
      have hmap : (ev_new ci).map (ev_v ad) = ev_new ci := by
        have h1 : ∀ v ∈ ev_new ci, ev_v ad v = v := fun v hv => by
          have := hn0 v hv
          cases v with
          | ref a => exact absurd rfl (this a)
          | _ => rfl
        rw [List.map_congr_left h1, List.map_id']
      exact va_new (D := D) (ci := ci) (own := ev_own (ev_ci M)) (fs := ev_new ci) hx hb hts (ev_gws hci) (ev_ty ci) (ev_tyok ci hci) hown (by rw [l3]; exact hts _ (ev_gm hw rfl)) (hts _ (ev_gm l2 rfl)) (hts _ (ev_ginit l4 rfl)) hK hP hD hS hA (ev_clget hci) (ev_newok ci hci) hR.1 hR.2 hdg (fun q H1 hP1 hD1 hS1 => by
        have e2 : ev_ce ad cA (ev_ob ci (ev_new ci)) = .inr (ci, ev_new ci) := by show (Sum.inr (ci, (ev_new ci).map (ev_v ad)) : va_E) = _; rw [hmap]
        refine kP (e1 := ev_ob ci (ev_new ci)) rfl rfl rfl rfl hs ⟨hci, n1, fun v hv => ev_vl_nil (hn0 v hv)⟩ ?_ ?_ hS1
        · rw [e2]; exact hP1
        · rw [e2]; exact hD1)
    · cases h
  · -- ldc
    rename_i st idx
    split at h
    · rename_i v pp hk9
      cases h
      have h1 := ev_kt_ok _ (ev_ks_ok ‹_›)
      exact lv_ldc hx hb hown (hts _ (ev_gm (of_decide_eq_true h1) rfl)) hdg (k0 _ rfl rfl rfl rfl (ev_sl_cons (ev_vl_nil (fun a ha => by cases ha)) hs))
    · rename_i tx a pp hn ht
      cases h
      have h1 := i9.1 _ (ev_tx_ok ht)
      have hb9 : ∀ e ∈ ev_sr, e.2.2.2.1 < ev_S := by decide +kernel
      exact va_ldcS hx hb hown h1 hdg (k0 _ rfl rfl rfl rfl (ev_sl_cons (fun b hb8 => by cases hb8; exact Nat.lt_of_lt_of_le (hb9 _ (ev_tx_ok ht)) i1.1) hs))
    · cases h
  · -- ldc_w
    rename_i st idx
    split at h
    · rename_i v pp hk9
      cases h
      have h1 := ev_kt_ok _ (ev_ks_ok ‹_›)
      exact lv_ldcw hx hb hown (hts _ (ev_gm (of_decide_eq_true h1) rfl)) hdg (k0 _ rfl rfl rfl rfl (ev_sl_cons (ev_vl_nil (fun a ha => by cases ha)) hs))
    · rename_i tx a pp hn ht
      cases h
      have h1 := i9.1 _ (ev_tx_ok ht)
      have hb9 : ∀ e ∈ ev_sr, e.2.2.2.1 < ev_S := by decide +kernel
      have h9 := k0 _ rfl rfl rfl rfl (ev_sl_cons (fun b hb8 => by cases hb8; exact Nat.lt_of_lt_of_le (hb9 _ (ev_tx_ok ht)) i1.1) hs)
      intro T hT X
      obtain ⟨t, a1, b1⟩ := h9 T hT X
      exact ⟨t, X.ldcStringW hx hown h1.1 h1.2 (g := F0 m pc ls _) rfl (by rw [hb]; exact hdg) t a1, b1⟩
    · cases h
  · -- ldc2_w
    rename_i st idx
    split at h
    · rename_i v pp hk9
      cases h
      have h1 := ev_kt_ok _ (ev_ks_ok ‹_›)
      exact lv_ldc2 hx hb hown (hts _ (ev_gm (of_decide_eq_true h1) rfl)) hdg (k0 _ rfl rfl rfl rfl (ev_sl_cons (ev_vl_nil (fun a ha => by cases ha)) hs))
    · cases h
  · cases h
end EVM
