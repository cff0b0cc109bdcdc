/-! Soundness: the step of the induction. -/
section EVZ
theorem ev_v_ag {ad ad' : Nat → Nat} {n : Nat} {v : Value} (h : ev_vl n v) (hag : ∀ a, a < n → ad' a = ad a) : ev_v ad' v = ev_v ad v := by
  cases v with
  | ref a => show Value.ref (ad' a) = .ref (ad a); rw [hag a (h a rfl)]
  | _ => rfl
theorem ev_joinI {L : Nat} {xs : Nat → Int32} {D : va_G} {cA : Nat → ClassId} {A : Nat → Prop} {s : State} {ad ad' : Nat → Nat} {μ μ1 : ev_H} {H H1 : Heap} {locs L1 : List Loc} {st₀ t : State} (hI : ev_I L xs D cA A s ad μ H locs) (h0 : st₀.heap = H) (e1 : H1 = t.heap) (hL : ∀ q ∈ L1, va_A (ev_ws ad cA μ) H.size q.base) (hJ : ev_Jn L xs D cA (va_A (ev_ws ad cA μ) H.size) ad ad' μ.1 μ1 t) (hF : va_F (va_A (ev_ws ad cA μ) H.size) st₀ t) : ev_I L xs D cA A s ad' μ1 H1 (locs ++ L1) := by
  have hn := ev_narrow hI
  obtain ⟨i1, i2, hK, hP, hD, hS, hA, i8, i9⟩ := hI
  obtain ⟨j1, j2, j3, j4, j5, j6⟩ := hJ
  obtain ⟨f1, f2⟩ := hF
  rw [h0] at f1 f2
  subst e1
  have hagS : ∀ a, a < ev_S → ad' a = ad a := fun a ha => j1 a (Nat.lt_of_lt_of_le ha i1.1)
  refine ⟨j3, j4, hK, j5, j6.weaken (fun k q _ h => hn q.1 h), ⟨Nat.le_trans hS.1 f1, fun q h1 h2 => ?_, fun q hq => ?_⟩, hA, i8.ad hagS, i9.ad hagS⟩
  · rw [f2 q (Nat.lt_of_lt_of_le h1 hS.1) (fun z => h2 (hn q z))]
    exact hS.2.1 q h1 h2
  · rcases List.mem_append.mp hq with h | h
    · exact hS.2.2 q h
    · exact hn _ (hL q h)
theorem ev_eh_all : ∀ k, ev_eh k = [] := by
  intro k
  have h : ∀ l ∈ ev_mts, ∀ r ∈ l, r.2.2.2.2.2.2.2.2 = [] := by decide +kernel
  unfold ev_eh ev_m
  rw [List.getD_eq_getElem?_getD, List.getD_eq_getElem?_getD]
  cases h1 : ev_mts[k / 40]? with
  | none => simp only [Option.getD_none]; rfl
  | some l =>
    simp only [Option.getD_some]
    cases h2 : l[k % 40]? with
    | none => rfl
    | some r => exact h l (List.mem_of_getElem? h1) r (List.mem_of_getElem? h2)
variable {l : Launch} {n : Nat}
set_option maxHeartbeats 4000000 in
theorem ev_P_succ (hP : ev_P l n) (hC : ev_Ct l n) : ev_P l (n + 1) := by
  intro p e R s m args below meth c M b z pc lo st μ o μ1 H locs cells slots ls ad L xs D cA A Q hrun hMn hx hb hml hown hts hin hdp hlc hT hlk hI hs hll hlo hlr hb1 hz1 hHr hHt hHp
  have hsz : ls.size = ev_ml M := hlr.1.trans hlo
  rw [ev_run] at hrun
  split at hrun
  · cases hrun
  · rename_i c0 s0 pc' lo' st' μ' hxx
    split at hrun
    · rename_i hbz
      obtain ⟨i, ln, hdg, hcases⟩ := ev_x_inl hxx
      rcases hcases with ⟨h1, rfl, rfl, rfl, rfl, rfl⟩ | ⟨h1, rfl, rfl, rfl, rfl⟩ | ⟨v, h1, rfl, rfl, rfl, rfl, rfl, rfl⟩ | ⟨h1, rfl, rfl, rfl, rfl⟩ | ⟨h1, rfl, rfl⟩ | ⟨t, k, h1, h2, h3, h4, h5, h6, h7, rfl, rfl, rfl, rfl⟩
      · exact ev_pu_ok hx hb h1 hdg (hP p e R s m args below meth c M _ _ _ _ _ _ o μ1 H locs cells slots ls ad L xs D cA A Q hrun hMn hx hb hml hown hts hin hdp hlc hT hlk hI (ev_pu_lt h1 hs) hll hlo hlr hb1 hz1 hHr hHt hHp)
      · exact ev_br_ok hx hb h1 hdg (hP p e R s m args below meth c M _ _ _ _ _ _ o μ1 H locs cells slots ls ad L xs D cA A Q hrun hMn hx hb hml hown hts hin hdp hlc hT hlk hI (ev_br_lt h1 hs) hll hlo hlr hb1 hz1 hHr hHt hHp)
      · exact ev_ld_ok hx hb h1 hlr hdg (hP p e R s m args below meth c M _ _ _ _ _ _ o μ1 H locs cells slots ls ad L xs D cA A Q hrun hMn hx hb hml hown hts hin hdp hlc hT hlk hI (ev_sl_cons (ev_ld_lt h1 hll) hs) hll hlo hlr hb1 hz1 hHr hHt hHp)
      · obtain ⟨q1, q2, q3⟩ := ev_so_lt h1 hll hs
        exact ev_so_ok hx hb h1 hlr hdg (fun ls' hlr' => hP p e R s m args below meth c M _ _ _ _ _ _ o μ1 H locs cells slots ls' ad L xs D cA A Q hrun hMn hx hb hml hown hts hin hdp hlc hT hlk hI q2 q1 (q3.trans hlo) hlr' hb1 hz1 hHr hHt hHp)
      · refine ev_me_ok hx hb hown hts hin h1 hI hs ⟨by omega, by omega⟩ hdg (fun ad' H' locs' hag hle hI' hs' => ?_)
        exact hP p e R s m args below meth c M _ _ _ _ _ _ o μ1 H' locs' (cells + c0) (slots + s0) ls ad' L xs D cA A Q hrun hMn hx hb hml hown hts hin hdp hlc hT hlk hI' hs' (ev_ll_mono hll hle) hlo (ev_lr_ag hlr hll hag) (by omega) (by omega) (hHr.on hag hle) (hHt.on hag hle) (hHp.on hag hle)
      · refine ev_jd_ok hx hb (hml.trans hsz.symm) hown hts h1 h2 h3 h4 (Nat.le_trans h5 hdp) (Nat.le_trans h6 hlc) h7 hI hs ⟨by omega, by omega⟩ hdg (fun ad' H' locs' hag hle hI' hs' => ?_)
        exact hP p e R s m args below meth c M _ _ _ _ _ _ o μ1 H' locs' cells slots ls ad' L xs D cA A Q hrun hMn hx hb hml hown hts hin hdp hlc hT hlk hI' hs' (ev_ll_mono hll hle) hlo (ev_lr_ag hlr hll hag) hb1 hz1 (hHr.on hag hle) (hHt.on hag hle) (hHp.on hag hle)
    · cases hrun
  · rename_i v hxx
    cases hrun
    obtain ⟨i, ln, hdg, hrv⟩ := ev_x_ret hxx
    exact W.widen (by omega) (by omega) (hHr v ad H locs pc ls i ln st rfl (fun _ _ => rfl) (Nat.le_refl _) hI hrv hdg hs)
  · rename_i t av st' hxx
    split at hrun
    · rename_i hbz
      obtain ⟨i, k, hdg, hiv, ht, rfl, rfl, hc⟩ := ev_x_call hxx
      have hsd : ev_sl μ.1 (st.drop (ev_na t)) := fun v hv => hs v (List.mem_of_mem_drop hv)
      split at hrun
      · rename_i v μ' hr
        obtain ⟨a0, run⟩ := ev_call (below := below) (meth := meth) (locs := locs) (cells := cells) (slots := slots) (o := .inl v) (μ1 := μ') hC hx hb hml hown hts hdp hlc hI hs hsz hiv ht hdg hc (fun _ => ⟨v, rfl⟩) hr ⟨by omega, by omega⟩
        intro T hTh X
        rcases run T hTh X with ⟨v1, st₀, t1, T', L1, h0, X', hL, e1, e2, ⟨⟨v2, ad', hv2, hoc, hvl, hJ⟩, hF⟩, hgo⟩ | ⟨q, st₀, t1, T', L1, E, ce, h0, X', hL, e1, e2, ⟨⟨ex, ad', hex, -⟩, -⟩, -⟩
        · cases hv2
          have hv1 : v1 = v.map (ev_v ad') := Outcome.returned.inj hoc
          subst hv1
          have hI' := ev_joinI hI h0 e1 hL hJ hF
          have hag := hJ.1
          have hle := hJ.2.1
          have hsN : ev_sl μ'.1 (v.toList ++ st.drop (ev_na t)) := fun w hw => by
            rcases List.mem_append.mp hw with q | q
            · cases v with
              | none => cases q
              | some x => rw [List.mem_singleton.mp q]; exact hvl x rfl
            · exact ev_vl_mono (hsd w q) hle
          have h9 := hP p e R s m args below meth c M _ _ _ _ _ _ o μ1 T'.heap (locs ++ L1) (cells + ev_k1 t) (slots + ev_k2 t) ls ad' L xs D cA A Q hrun hMn hx hb hml hown hts hin hdp hlc hT hlk hI' hsN (ev_ll_mono hll hle) hlo (ev_lr_ag hlr hll hag) (by omega) (by omega) (hHr.on hag hle) (hHt.on hag hle) (hHp.on hag hle)
          obtain ⟨t2, g1, g2⟩ := h9 T' rfl X'
          refine ⟨t2, hgo t2 ?_, g2⟩
          have hst : ((v.toList ++ st.drop (ev_na t)).map (ev_v ad')) = (v.map (ev_v ad')).toList ++ (st.drop (ev_na t)).map (ev_v ad) := by
            rw [List.map_append, ev_st_ag hsd hag]
            cases v <;> rfl
          rw [hst] at g1
          exact g1
        · cases hex
      · rename_i ex μ' hr
        by_cases hk2 : ev_kd t = 2
        · rw [if_pos hk2] at hrun; cases hrun
        rw [if_neg hk2] at hrun
        obtain ⟨a0, run⟩ := ev_call (below := below) (meth := meth) (locs := locs) (cells := cells) (slots := slots) (o := .inr ex) (μ1 := μ') hC hx hb hml hown hts hdp hlc hI hs hsz hiv ht hdg hc (fun z => absurd z hk2) hr ⟨by omega, by omega⟩
        intro T hTh X
        rcases run T hTh X with ⟨v1, st₀, t1, T', L1, h0, X', hL, e1, e2, ⟨⟨v2, ad', hv2, -⟩, -⟩, -⟩ | ⟨q, st₀, t1, T', L1, E, ce, h0, X', hL, e1, e2, ⟨⟨ex2, ad', hex, hx4, hE, hJ⟩, hF⟩, hce, hcv, hcl, hgo⟩
        · cases hv2
        · cases hex
          subst hE
          have hI' := ev_joinI hI h0 e1 hL hJ hF
          have hag := hJ.1
          have hle := hJ.2.1
          rw [← e1] at hce
          have key : vx_W p l e R s m args below meth c T'.heap (locs ++ L1) (cells + ev_k1 t) (slots + ev_k2 t) Q (F0 m pc ls ((st.drop (ev_na t)).map (ev_v ad))) q := by
            split at hrun
            · rename_i pc' i' hhd
              unfold ev_hd at hhd
              rw [ev_eh_all] at hhd
              cases hhd
            · split at hrun
              · rename_i hem
                cases hrun
                exact hHp ex ad' T'.heap (locs ++ L1) _ _ pc ls _ q ce rfl (List.isEmpty_iff.mp hem) hag hle hI' (by omega) (by omega) hx4 hce hcv hcl
              · cases hrun
          obtain ⟨t2, g1, g2⟩ := key T' rfl X'
          exact ⟨t2, hgo.trans g1, g2⟩
      · cases hrun
    · cases hrun
  · rename_i ex hxx
    split at hrun
    · rename_i hbz
      cases hrun
      obtain ⟨h1, rfl, h2, h3⟩ := ev_x_thr hxx
      exact hHt ex ad H locs cells slots pc ls rfl h1 (fun _ _ => rfl) (Nat.le_refl _) hI (by omega) (by omega) (hsz.trans hml.symm) h2 h3
    · cases hrun
end EVZ
