/-! Soundness: the step of the induction. -/
section EVZ
theorem ev_v_ag {ad ad' : Nat → Nat} {n : Nat} {v : Value} (h : ev_vl n v) (hag : ∀ a, a < n → ad' a = ad a) : ev_v ad' v = ev_v ad v := by
  cases v with
  | ref a => show Value.ref (ad' a) = .ref (ad a); rw [hag a (h a rfl)]
  | _ => rfl
theorem ev_joinI {L : Nat} {xs : Nat → Int32} {D : va_G} {cA : Nat → ClassId} {A : Nat → Prop} {s : State} {ad ad' : Nat → Nat} {μ μ1 : ev_H} {H H1 : Heap} {locs L1 : List Loc} {st₀ t : State} (hI : ev_I L xs D cA A s ad μ H locs) (h0 : st₀.heap = H) (e1 : H1 = t.heap) (hL : ∀ q ∈ L1, va_A (ev_ws ad cA μ) H.size q.base) (hJ : ev_Jn L xs D cA (va_A (ev_ws ad cA μ) H.size) ad ad' μ.1 μ1 t) (hF : va_F (va_A (ev_ws ad cA μ) H.size) st₀ t) : ev_I L xs D cA A s ad' μ1 H1 (locs ++ L1) := by
  have hn := ev_narrow hI
  obtain ⟨i1, i2, hK, hP, hD, hS, hA, i8, i9⟩ := hI
  obtain ⟨j1, j2, j3, j4, j5, j6⟩ := hJ
  obtain ⟨f1, f2⟩ := hF
  rw [h0] at f1 f2
  subst e1
  have hagS : ∀ a, a < ev_S → ad' a = ad a := fun a ha => j1 a (Nat.lt_of_lt_of_le ha i1.1)
  refine ⟨j3, j4, hK, j5, j6.weaken (fun k q _ h => hn q.1 h), ⟨Nat.le_trans hS.1 f1, fun q h1 h2 => ?_, fun q hq => ?_⟩, hA, i8.ad hagS, i9.ad hagS⟩
  · rw [f2 q (Nat.lt_of_lt_of_le h1 hS.1) (fun z => h2 (hn q z))]
    exact hS.2.1 q h1 h2
  · rcases List.mem_append.mp hq with h | h
    · exact hS.2.2 q h
    · exact hn _ (hL q h)
theorem ev_xl_ok {ct ex : Nat} (h : ev_xl ct = some ex) : Cond.classLink (ev_own 12) ct (ev_X.getD ex "") ∈ ev_gw := by
  unfold ev_xl at h
  cases hf : ev_xt.find? (fun e => e.1 == 12 && e.2.1 == ct) with
  | none => rw [hf] at h; cases h
  | some e =>
    rw [hf] at h
    have h1 := List.find?_some hf
    have h2 := ev_xt_ok _ (List.mem_of_find?_eq_some hf)
    obtain ⟨e1, e2, e3, e4⟩ := e
    simp only [Option.map_some, Option.some.injEq] at h
    simp only [Bool.and_eq_true, beq_iff_eq] at h1
    dsimp only at h2
    rw [h1.1, h1.2, h] at h2
    exact ev_gm h2 rfl
theorem ev_castx : ∀ ex, ex < 4 → Cond.castable (ev_X.getD ex "") (ev_X.getD ex "") ∈ ev_xw := by decide +kernel
theorem ev_eh_law : ev_eh ev_lawM = [] := by decide +kernel
section EVCATCH
variable {p : Program} {l : Launch} {e : Env} {R : Room} {s : State} {m : MethodId} {args : Array Value} {below : List Frame} {meth : Method} {c : Code} {H : Heap} {locs : List Loc} {cells slots : Nat} {Q : State → Prop}
set_option maxHeartbeats 4000000 in
theorem ev_catch {M L pc ex pc' i' : Nat} {xs : Nat → Int32} {D : va_G} {cA : Nat → ClassId} {A : Nat → Prop} {ad : Nat → Nat} {μ : ev_H} {ls : Array Slot} {lo : ev_L} {rest : List Value} {q : Addr} {ce : Cell} (hMn : M < ev_nm) (hML : M ≠ ev_lawM) (hx : p.tables.exec = Jvm.exec) (hb : c.code = ev_cd M) (hown : s.vm.findClass (ev_own (ev_ci M)) = some m.cls) (hts : ∀ w ∈ ev_gw, w.before args s = true)
    (hT : c.exceptionTable.toList = tableOf (ev_hh M)) (hI : ev_I L xs D cA A s ad μ H locs) (hlr : ev_lr ad ls lo) (hlo : lo.length = ev_ml M) (hhd : ev_hd M pc ex = some (pc', i')) (hx4 : ex < 4) (hcell : H[q]? = some ce) (hcv : ce.vm = .none) (hcl : s.vm.findClass (ev_X.getD ex "") = some ce.cls)
    (kk : ∀ ls', ev_lr ad ls' (ev_un lo i') → W p l e R s m args below meth c H locs cells slots Q (F0 m pc' ls' [])) : vx_W p l e R s m args below meth c H locs cells slots Q (F0 m pc ls rest) q := by
  unfold ev_hd at hhd
  cases hf : (ev_eh M).find? (fun x => decide (x.1 ≤ pc ∧ pc < x.2.1) && x.2.2.1 == ex) with
  | none => rw [hf] at hhd; cases hhd
  | some x =>
    rw [hf] at hhd
    simp only [Option.map_some, Option.some.injEq, Prod.mk.injEq] at hhd
    obtain ⟨hp, as, bs, hsp, has⟩ := List.find?_eq_some_iff_append.mp hf
    have hck := ev_hck_all hMn hML
    unfold ev_hck at hck
    rw [Bool.and_eq_true] at hck
    have hlen := of_decide_eq_true hck.1
    have hall := List.all_eq_true.mp hck.2
    have hej : (ev_eh M)[as.length]? = some x := by rw [hsp, List.getElem?_append_right (Nat.le_refl _), Nat.sub_self]; rfl
    have hjl : as.length < (ev_hh M).length := by rw [hlen]; exact (List.getElem?_eq_some_iff.mp hej).1
    have hrel : ∀ (k : Nat) (y : Nat × Nat × Nat × Nat) (u : Nat × Nat × Nat × Nat × Nat), (ev_hh M)[k]? = some y → (ev_eh M)[k]? = some u → (decide (y.1 = u.1 ∧ y.2.1 = u.2.1 ∧ y.2.2.2 ≠ 0 ∧ ev_xl y.2.2.2 = some u.2.2.1 ∧ u.2.2.1 < 4 ∧ ev_ci M = 12 ∧ u.2.2.2.2 < ev_ml M) && (decide (decode (ev_cd M) y.2.2.1 = .ok (.astore u.2.2.2.2, 2) ∧ u.2.2.2.1 = y.2.2.1 + 2) || (decide (u.2.2.2.1 = y.2.2.1 + 1) && (List.range 4).any (fun j => decide (j = u.2.2.2.2) && decide (decode (ev_cd M) y.2.2.1 = .ok (.astore_n (Fin.ofNat 4 j), 1)))))) = true := by
      intro k y u h1 h2
      have hz : ((ev_hh M).zip (ev_eh M))[k]? = some (y, u) := List.getElem?_zip_eq_some.mpr ⟨h1, h2⟩
      exact hall (y, u) (List.mem_of_getElem? hz)
    generalize hy0 : (ev_hh M)[as.length]'hjl = y
    have hyj : (ev_hh M)[as.length]? = some y := by rw [← hy0]; exact List.getElem?_eq_getElem hjl
    have hr := hrel _ _ _ hyj hej
    rw [Bool.and_eq_true] at hr
    obtain ⟨r1, r2, r3, r4, r5, r6, r7⟩ := of_decide_eq_true hr.1
    have hown12 : s.vm.findClass (ev_own 12) = some m.cls := by rw [← r6]; exact hown
    rw [Bool.and_eq_true, beq_iff_eq] at hp
    have hcov := of_decide_eq_true hp.1
    have hsplit : c.exceptionTable.toList = tableOf ((ev_hh M).take as.length) ++ (⟨y.1, y.2.1, y.2.2.1, y.2.2.2⟩ : ExceptionTableEntry) :: tableOf ((ev_hh M).drop (as.length + 1)) := by
      rw [hT]
      conv => lhs; rw [← List.take_append_drop as.length (ev_hh M), List.drop_eq_getElem_cons hjl, hy0]
      unfold tableOf
      rw [List.map_append, List.map_cons]
    refine vx_catch (own := ev_own 12) (name := ev_X.getD ex "") (E := ev_X.getD ex "") hown12 _ _ _ hsplit (fun z hz => ?_) ?_ r3 (hts _ (by rw [← hp.2]; exact ev_xl_ok r4)) (va_Nw.use rfl (hI.2.2.2.2.2.2.2.2.2.2.2.2 _ (ev_castx ex hx4))) hcell hcv hcl ?_
    · obtain ⟨w, hw, rfl⟩ := List.mem_map.mp hz
      obtain ⟨k, hk⟩ := List.getElem?_of_mem hw
      have hkl : k < as.length := by
        have h1 := (List.getElem?_eq_some_iff.mp hk).1
        rw [List.length_take] at h1
        omega
      rw [List.getElem?_take_of_lt hkl] at hk
      have hu : (ev_eh M)[k]? = some as[k] := by rw [hsp, List.getElem?_append_left hkl]; exact List.getElem?_eq_getElem hkl
      have hr2 := hrel _ _ _ hk hu
      rw [Bool.and_eq_true] at hr2
      obtain ⟨s1, s2, s3, s4, s5, s6, s7⟩ := of_decide_eq_true hr2.1
      have hna := has _ (List.getElem_mem hkl)
      generalize as[k] = u at *
      by_cases hc : u.1 ≤ pc ∧ pc < u.2.1
      · right
        refine ⟨s3, ev_X.getD u.2.2.1 "", hts _ (ev_xl_ok s4), hI.2.2.2.2.2.2.2.2.2.2.1 ex u.2.2.1 hx4 s5 (fun z => ?_)⟩
        rw [decide_eq_true hc, Bool.true_and, ← z] at hna
        simp at hna
      · left
        show (decide (w.1 ≤ pc) && decide (pc < w.2.1)) = false
        rw [s1, s2]
        by_cases h1 : u.1 ≤ pc
        · have h2 : ¬ pc < u.2.1 := fun z => hc ⟨h1, z⟩
          simp [h2]
        · simp [h1]
    · show (decide (y.1 ≤ pc) && decide (pc < y.2.1)) = true
      rw [r1, r2]
      simp [hcov.1, hcov.2]
    · have hi' : x.2.2.2.2 < lo.length := by rw [hlo]; exact r7
      rw [← hhd.1, ← hhd.2] at kk
      have hr2 := hr.2
      rw [Bool.or_eq_true] at hr2
      rcases hr2 with hr2 | hr2
      · obtain ⟨d1, d2⟩ := of_decide_eq_true hr2
        rw [d2] at kk
        exact lv_astore hx hb d1 hlr hi' rfl (fun ls' hl' => kk ls' (ev_lr_un hl'))
      · rw [Bool.and_eq_true] at hr2
        have d2 := of_decide_eq_true hr2.1
        rw [d2] at kk
        obtain ⟨j, hj, hd⟩ := List.any_eq_true.mp hr2.2
        rw [Bool.and_eq_true] at hd
        have hj2 := of_decide_eq_true hd.1
        have d1 := of_decide_eq_true hd.2
        have hj4 := List.mem_range.mp hj
        exact lv_astore_n hx hb d1 (i := x.2.2.2.2) (by rw [← hj2]; exact Nat.mod_eq_of_lt hj4) hlr hi' rfl (fun ls' hl' => kk ls' (ev_lr_un hl'))
end EVCATCH
variable {l : Launch} {n : Nat}
set_option maxHeartbeats 4000000 in
theorem ev_P_succ (hP : ev_P l n) (hC : ev_Ct l n) : ev_P l (n + 1) := by
  intro p e R s m args below meth c M b z pc lo st μ o μ1 H locs cells slots ls ad L xs D cA A Q hrun hMn hx hb hml hown hts hin hdp hlc hT hlk hI hs hll hlo hlr hb1 hz1 hHr hHt hHp
  have hsz : ls.size = ev_ml M := hlr.1.trans hlo
  rw [ev_run] at hrun
  split at hrun
  · cases hrun
  · rename_i c0 s0 pc' lo' st' μ' hxx
    split at hrun
    · rename_i hbz
      obtain ⟨i, ln, hdg, hcases⟩ := ev_x_inl hxx
      rcases hcases with ⟨h1, rfl, rfl, rfl, rfl, rfl⟩ | ⟨h1, rfl, rfl, rfl, rfl⟩ | ⟨v, h1, rfl, rfl, rfl, rfl, rfl, rfl⟩ | ⟨h1, rfl, rfl, rfl, rfl⟩ | ⟨h1, rfl, rfl⟩ | ⟨t, k, h1, h2, h3, h4, h5, h6, h7, rfl, rfl, rfl, rfl⟩
      · exact ev_pu_ok hx hb h1 hdg (hP p e R s m args below meth c M _ _ _ _ _ _ o μ1 H locs cells slots ls ad L xs D cA A Q hrun hMn hx hb hml hown hts hin hdp hlc hT hlk hI (ev_pu_lt h1 hs) hll hlo hlr hb1 hz1 hHr hHt hHp)
      · exact ev_br_ok hx hb h1 hdg (hP p e R s m args below meth c M _ _ _ _ _ _ o μ1 H locs cells slots ls ad L xs D cA A Q hrun hMn hx hb hml hown hts hin hdp hlc hT hlk hI (ev_br_lt h1 hs) hll hlo hlr hb1 hz1 hHr hHt hHp)
      · exact ev_ld_ok hx hb h1 hlr hdg (hP p e R s m args below meth c M _ _ _ _ _ _ o μ1 H locs cells slots ls ad L xs D cA A Q hrun hMn hx hb hml hown hts hin hdp hlc hT hlk hI (ev_sl_cons (ev_ld_lt h1 hll) hs) hll hlo hlr hb1 hz1 hHr hHt hHp)
      · obtain ⟨q1, q2, q3⟩ := ev_so_lt h1 hll hs
        exact ev_so_ok hx hb h1 hlr hdg (fun ls' hlr' => hP p e R s m args below meth c M _ _ _ _ _ _ o μ1 H locs cells slots ls' ad L xs D cA A Q hrun hMn hx hb hml hown hts hin hdp hlc hT hlk hI q2 q1 (q3.trans hlo) hlr' hb1 hz1 hHr hHt hHp)
      · refine ev_me_ok hx hb hown hts hin h1 hI hs ⟨by omega, by omega⟩ hdg (fun ad' H' locs' hag hle hI' hs' => ?_)
        exact hP p e R s m args below meth c M _ _ _ _ _ _ o μ1 H' locs' (cells + c0) (slots + s0) ls ad' L xs D cA A Q hrun hMn hx hb hml hown hts hin hdp hlc hT hlk hI' hs' (ev_ll_mono hll hle) hlo (ev_lr_ag hlr hll hag) (by omega) (by omega) (hHr.on hag hle) (hHt.on hag hle) (hHp.on hag hle)
      · refine ev_jd_ok hx hb (hml.trans hsz.symm) hown hts h1 h2 h3 h4 (Nat.le_trans h5 hdp) (Nat.le_trans h6 hlc) h7 hI hs ⟨by omega, by omega⟩ hdg (fun ad' H' locs' hag hle hI' hs' => ?_)
        exact hP p e R s m args below meth c M _ _ _ _ _ _ o μ1 H' locs' cells slots ls ad' L xs D cA A Q hrun hMn hx hb hml hown hts hin hdp hlc hT hlk hI' hs' (ev_ll_mono hll hle) hlo (ev_lr_ag hlr hll hag) hb1 hz1 (hHr.on hag hle) (hHt.on hag hle) (hHp.on hag hle)
    · cases hrun
  · rename_i v hxx
    cases hrun
    obtain ⟨i, ln, hdg, hrv⟩ := ev_x_ret hxx
    exact W.widen (by omega) (by omega) (hHr v ad H locs pc ls i ln st rfl (fun _ _ => rfl) (Nat.le_refl _) hI hrv hdg hs)
  · rename_i t av st' hxx
    split at hrun
    · rename_i hbz
      obtain ⟨i, k, hdg, hiv, ht, rfl, rfl, hc⟩ := ev_x_call hxx
      have hsd : ev_sl μ.1 (st.drop (ev_na t)) := fun v hv => hs v (List.mem_of_mem_drop hv)
      split at hrun
      · rename_i v μ' hr
        obtain ⟨a0, run⟩ := ev_call (below := below) (meth := meth) (locs := locs) (cells := cells) (slots := slots) (o := .inl v) (μ1 := μ') hC hx hb hml hown hts hdp hlc hI hs hsz hiv ht hdg hc (fun _ => ⟨v, rfl⟩) hr ⟨by omega, by omega⟩
        intro T hTh X
        rcases run T hTh X with ⟨v1, st₀, t1, T', L1, h0, X', hL, e1, e2, ⟨⟨v2, ad', hv2, hoc, hvl, hJ⟩, hF⟩, hgo⟩ | ⟨q, st₀, t1, T', L1, E, ce, h0, X', hL, e1, e2, ⟨⟨ex, ad', hex, -⟩, -⟩, -⟩
        · cases hv2
          have hv1 : v1 = v.map (ev_v ad') := Outcome.returned.inj hoc
          subst hv1
          have hI' := ev_joinI hI h0 e1 hL hJ hF
          have hag := hJ.1
          have hle := hJ.2.1
          have hsN : ev_sl μ'.1 (v.toList ++ st.drop (ev_na t)) := fun w hw => by
            rcases List.mem_append.mp hw with q | q
            · cases v with
              | none => cases q
              | some x => rw [List.mem_singleton.mp q]; exact hvl x rfl
            · exact ev_vl_mono (hsd w q) hle
          have h9 := hP p e R s m args below meth c M _ _ _ _ _ _ o μ1 T'.heap (locs ++ L1) (cells + ev_k1 t) (slots + ev_k2 t) ls ad' L xs D cA A Q hrun hMn hx hb hml hown hts hin hdp hlc hT hlk hI' hsN (ev_ll_mono hll hle) hlo (ev_lr_ag hlr hll hag) (by omega) (by omega) (hHr.on hag hle) (hHt.on hag hle) (hHp.on hag hle)
          obtain ⟨t2, g1, g2⟩ := h9 T' rfl X'
          refine ⟨t2, hgo t2 ?_, g2⟩
          have hst : ((v.toList ++ st.drop (ev_na t)).map (ev_v ad')) = (v.map (ev_v ad')).toList ++ (st.drop (ev_na t)).map (ev_v ad) := by
            rw [List.map_append, ev_st_ag hsd hag]
            cases v <;> rfl
          rw [hst] at g1
          exact g1
        · cases hex
      · rename_i ex μ' hr
        by_cases hk2 : ev_kd t = 2
        · rw [if_pos hk2] at hrun; cases hrun
        rw [if_neg hk2] at hrun
        obtain ⟨a0, run⟩ := ev_call (below := below) (meth := meth) (locs := locs) (cells := cells) (slots := slots) (o := .inr ex) (μ1 := μ') hC hx hb hml hown hts hdp hlc hI hs hsz hiv ht hdg hc (fun z => absurd z hk2) hr ⟨by omega, by omega⟩
        intro T hTh X
        rcases run T hTh X with ⟨v1, st₀, t1, T', L1, h0, X', hL, e1, e2, ⟨⟨v2, ad', hv2, -⟩, -⟩, -⟩ | ⟨q, st₀, t1, T', L1, E, ce, h0, X', hL, e1, e2, ⟨⟨ex2, ad', hex, hx4, hE, hJ⟩, hF⟩, hce, hcv, hcl, hgo⟩
        · cases hv2
        · cases hex
          subst hE
          have hI' := ev_joinI hI h0 e1 hL hJ hF
          have hag := hJ.1
          have hle := hJ.2.1
          rw [← e1] at hce
          have key : vx_W p l e R s m args below meth c T'.heap (locs ++ L1) (cells + ev_k1 t) (slots + ev_k2 t) Q (F0 m pc ls ((st.drop (ev_na t)).map (ev_v ad))) q := by
            split at hrun
            · rename_i pc' i' hhd
              have hML : M ≠ ev_lawM := fun z => by
                subst z
                unfold ev_hd at hhd
                rw [ev_eh_law] at hhd
                cases hhd
              refine ev_catch hMn hML hx hb hown hts (hT hML) hI' (ev_lr_ag hlr hll hag) hlo hhd hx4 hce hcv hcl (fun ls' hlr' => ?_)
              exact hP p e R s m args below meth c M _ _ _ _ _ _ o μ1 T'.heap (locs ++ L1) (cells + ev_k1 t) (slots + ev_k2 t) ls' ad' L xs D cA A Q hrun hMn hx hb hml hown hts hin hdp hlc hT hlk hI' (fun w hw => nomatch hw) (ev_ll_un (ev_ll_mono hll hle)) ((ev_un_len _ _).trans hlo) hlr' (by omega) (by omega) (hHr.on hag hle) (hHt.on hag hle) (hHp.on hag hle)
            · split at hrun
              · rename_i hem
                cases hrun
                exact hHp ex ad' T'.heap (locs ++ L1) _ _ pc ls _ q ce rfl (List.isEmpty_iff.mp hem) hag hle hI' (by omega) (by omega) hx4 hce hcv hcl
              · cases hrun
          obtain ⟨t2, g1, g2⟩ := key T' rfl X'
          exact ⟨t2, hgo.trans g1, g2⟩
      · cases hrun
    · cases hrun
  · rename_i ex hxx
    split at hrun
    · rename_i hbz
      cases hrun
      obtain ⟨h1, rfl, h2, h3⟩ := ev_x_thr hxx
      exact hHt ex ad H locs cells slots pc ls rfl h1 (fun _ _ => rfl) (Nat.le_refl _) hI (by omega) (by omega) (hsz.trans hml.symm) h2 h3
    · cases hrun
end EVZ
