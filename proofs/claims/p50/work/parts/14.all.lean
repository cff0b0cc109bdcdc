/-! A method's contract out of its frame; every frame, by induction. -/
section EVB
variable {p : Program} {l : Launch} {e : Env} {R : Room} {s : State} {m : MethodId} {args : Array Value} {below : List Frame} {meth : Method} {c : Code} {M L : Nat} {xs : Nat → Int32} {D : va_G} {cA : Nat → ClassId} {A : Nat → Prop} {ad : Nat → Nat} {o : Option Value ⊕ Nat} {μ1 : ev_H} {n0 mc ms : Nat}
theorem ev_vl_of {N : Nat} {v : Value} {st : List Value} (h : ev_sl N (v :: st)) : ev_vl N v := h v List.mem_cons_self
theorem ev_return {XC : String → State → State → Prop} (hx : p.tables.exec = Jvm.exec) (hb : c.code = ev_cd M) (hrt : meth.sig.returnType = ev_rt M) (hlk : meth.locks = false) :
    ev_Hr p l e R s m args below meth c (vx_MQ below (ev_Qc L xs D cA A ad n0 o μ1) XC args s R.cells R.slots A) M L xs D cA A ad n0 o μ1 := by
  intro v ad' H' locs' pc' ls' i n st' ho hag hle hI hrv hdg hs
  obtain ⟨i1, i2, hK, hP, hD, hS, hA, i8, i9⟩ := hI
  have fin : ∀ w : Option Value, v = w → (∀ x, w = some x → ev_vl μ1.1 x) → ∀ t : State, t.heap = H' → s.WarmedH t.vm → ev_Qc L xs D cA A ad n0 o μ1 args s (.returned (w.map (ev_v ad'))) t := by
    intro w hw hv t ht _
    exact ⟨⟨w, ad', by rw [ho, hw], rfl, hv, hag, hle, i1, i2, by rw [ht]; exact hP, hD⟩, hS.F ht⟩
  unfold ev_rv at hrv
  split at hrv
  · split at hrv
    · rename_i h0
      cases hrv
      exact vx_ret (W.vret hx hb (hrt.trans h0) (fin none rfl (fun x h => nomatch h)) hS.2.2 hdg hlk)
    · cases hrv
  · rename_i x
    split at hrv
    · rename_i ty h0
      split at hrv
      · rename_i h1
        cases hrv
        exact vx_ret (W.zret hx hb (hrt.trans h0) h1 (fin (some (.int x)) rfl (fun y h => by cases h; exact ev_vl_of hs)) hS.2.2 hdg hlk)
      · cases hrv
    · cases hrv
  · rename_i x
    split at hrv
    · rename_i cn h0
      cases hrv
      exact vx_ret (W.aret hx hb (hrt.trans h0) (Or.inl ⟨_, rfl⟩) (Or.inr ⟨ad' x, rfl⟩) (fin (some (.ref x)) rfl (fun y h => by cases h; exact ev_vl_of hs)) hS.2.2 hdg hlk)
    · cases hrv
  · rename_i x
    split at hrv
    · rename_i h0
      cases hrv
      exact vx_ret (W.fret hx hb (hrt.trans h0) (fin (some (.float x)) rfl (fun y h => by cases h; exact ev_vl_of hs)) hS.2.2 hdg hlk)
    · cases hrv
  · rename_i x
    split at hrv
    · rename_i h0
      cases hrv
      exact vx_ret (W.dret hx hb (hrt.trans h0) (fin (some (.double x)) rfl (fun y h => by cases h; exact ev_vl_of hs)) hS.2.2 hdg hlk)
    · cases hrv
  · cases hrv
theorem ev_pass {Qc : Array Value → State → Outcome → State → Prop} (hM : M < ev_nm) (hl : M ≠ ev_lawM) (htb : c.exceptionTable.toList = tableOf (ev_hh M)) (hlk : meth.locks = false) (hmc : R.cells ≤ mc) (hms : R.slots ≤ ms) :
    ev_Hp p l e R s m args below meth c (vx_MQ below Qc (ev_XC L xs D cA A ad n0 o μ1) args s mc ms A) M L xs D cA A ad n0 o μ1 := by
  intro ex ad' H' locs' cells' slots' pc' ls' rest q ce ho heh hag hle hI hc hs hex hce hcv hcl
  obtain ⟨i1, i2, hK, hP, hD, hS, hA, i8, i9⟩ := hI
  have h0 : ev_hh M = [] := by
    have h1 := ev_hck_all hM hl
    unfold ev_hck at h1
    rw [heh] at h1
    simp only [Bool.and_eq_true, decide_eq_true_eq, List.length_nil] at h1
    exact List.length_eq_zero_iff.mp h1.1
  refine vx_out (fun x hx => ?_) hlk hce hcv hcl (fun t ht _ => ?_) hS.2.2 (Nat.le_trans hc hmc) (Nat.le_trans hs hms)
  · rw [htb, h0] at hx
    cases hx
  · exact ⟨⟨ex, ad', ho, hex, rfl, hag, hle, i1, i2, by rw [ht]; exact hP, hD⟩, hS.F ht⟩
theorem ev_body {n sz : Nat} {av : List Value} {μ : ev_H} {s₁ : State} (hst : l.stackTraces = false) (hP : ev_P l n) (hM : M < ev_nm) (hl : M ≠ ev_lawM) (hr : ev_run n (ev_k1 M) (ev_k2 M) M 0 (ev_en M av) [] μ = some (o, μ1)) (hs : ev_sl μ.1 av) (hal : (ev_ar av).length ≤ ev_ml M)
    (B : BodyLoose p l (ev_y M) (headSpec (ev_wd M :: ev_gw) (ev_rm M)) (ev_cd M) (ev_ml M) (ev_rt M) e s m args below meth c s₁) (hml : c.maxLocals = ev_ml M) (htb : c.exceptionTable.toList = tableOf (ev_hh M)) (hPc : ev_Pc L xs D cA ad μ av sz args s) :
    W p l e (headSpec (ev_wd M :: ev_gw) (ev_rm M)).room s m args below meth c s.heap [] 0 0 (vx_MQ below (ev_Qc L xs D cA (va_A (ev_ws ad cA μ) sz) ad μ.1 o μ1) (ev_XC L xs D cA (va_A (ev_ws ad cA μ) sz) ad μ.1 o μ1) args s (ev_k1 M) (ev_k2 M) (va_A (ev_ws ad cA μ) sz)) (entryFrame m args (ev_ml M)) := by
  obtain ⟨ha, -, hI⟩ := hPc
  subst ha
  have hts : ∀ w ∈ ev_gw, w.before (av.map (ev_v ad)).toArray s = true := fun w hw => atoms_spec (ws := ev_wd M :: ev_gw) B.pre w (List.mem_cons_of_mem _ hw)
  have hN := ev_okN_all hM hl
  unfold ev_okN at hN
  simp only [Bool.and_eq_true, decide_eq_true_eq] at hN
  obtain ⟨⟨⟨⟨⟨hN1, -⟩, -⟩, -⟩, hN5⟩, -⟩ := hN
  have hown : s.vm.findClass (ev_own (ev_ci M)) = some m.cls := by
    rw [← hN1]; exact findClass_of_methodNamed B.named
  have hin : ev_kd M = 2 → meth.name = "<init>" := fun h2 => ((name_of_methodNamed B.named B.method).1).trans (hN5 h2)
  have hlen := ev_ar_len ad av
  rw [lg_entry_eq]
  have hlr : ev_lr ad ((lg_sl (av.map (ev_v ad)) ++ List.replicate (ev_ml M - (lg_sl (av.map (ev_v ad))).length) Slot.unset).toArray) (ev_en M av) := by
    unfold ev_lr
    rw [ev_en_len hal]
    unfold ev_en
    rw [ev_ar_al]
    exact lv_entry _ (by rw [hlen]; exact hal)
  exact hP p e (ev_rm M) s m _ below meth c M (ev_k1 M) (ev_k2 M) 0 (ev_en M av) [] μ o μ1 s.heap [] 0 0 _ ad L xs D cA _ _ hr hM B.exec B.bytes hml hown hts hin (Nat.le_refl _) (Nat.le_refl _) (fun _ => htb) B.notSynchronized hI (fun v hv => nomatch hv) (ev_ll_ar hs _) (ev_en_len hal) hlr
    (Nat.le_of_eq (Nat.zero_add _)) (Nat.le_of_eq (Nat.zero_add _)) (ev_return B.exec B.bytes B.returns B.notSynchronized) (fun ex ad' H' locs' cells' slots' pc' ls' _ hth => by
      exact absurd hth (by unfold ev_th2; exact fun z => nomatch z)) (ev_pass hM hl htb B.notSynchronized (Nat.le_refl _) (Nat.le_refl _))
end EVB
theorem ev_Ct_of {l : Launch} {n : Nat} (hst : l.stackTraces = false) (hP : ev_P l n) : ev_Ct l n := by
  intro M av μ o μ1 ad L xs D cA sz hM hl hr hs hal
  have hN := ev_okN_all hM hl
  unfold ev_okN at hN
  simp only [Bool.and_eq_true, decide_eq_true_eq] at hN
  obtain ⟨⟨⟨-, hpl⟩, -⟩, -⟩ := hN
  by_cases hh : ev_hh M = []
  · have hwe : ev_wd M = .code (ev_y M) (ev_cd M) (ev_ml M) (ev_rt M) := by unfold ev_wd; rw [if_pos hh]
    refine vx_ofW (cc := ev_cd M) (maxL := ev_ml M) (ret := ev_rt M) (ws' := ev_gw) hpl (by rw [hwe]) ?_
    intro p e s m args below meth c s₁ B hml ht hPc
    refine ev_body hst hP hM hl hr hs hal B hml ?_ hPc
    have h0 : c.exceptionTable.toList = [] := List.eq_nil_iff_forall_not_mem.mpr fun x hx => ht x hx
    rw [h0, hh]
    rfl
  · have hwe : ev_wd M = .codeWith (ev_y M) (ev_cd M) (ev_ml M) (ev_rt M) (ev_hh M) := by unfold ev_wd; rw [if_neg hh]
    refine vx_ofWH (cc := ev_cd M) (maxL := ev_ml M) (ret := ev_rt M) (hh := ev_hh M) (ws' := ev_gw) hpl (by rw [hwe]) ?_
    intro p e s m args below meth c s₁ B hml hPc
    refine ev_body hst hP hM hl hr hs hal B hml ?_ hPc
    exact vx_table (x := ev_y M) B (by
      have h1 := atoms_spec (ws := ev_wd M :: ev_gw) B.pre (ev_wd M) List.mem_cons_self
      rw [hwe] at h1
      exact h1)
theorem ev_all {l : Launch} (hst : l.stackTraces = false) : ∀ n, ev_P l n := by
  intro n
  induction n with
  | zero =>
    intro p e R s m args below meth c M b z pc lo st μ o μ1 H locs cells slots ls ad L xs D cA A Q hr
    cases hr
  | succ n ih => exact ev_P_succ ih (ev_Ct_of hst ih)
