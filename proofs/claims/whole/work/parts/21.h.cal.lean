/-! Calls, one by one: ranked. -/
section CI
variable {m : Mm} {r : Nat → Int} {W H n : Nat}
theorem wl_rg (b : Nat → Int) (s : Int) (l : List (Nat × Nat)) (i : Nat) : -1000 ≤ wl W H b s l i ∧ wl W H b s l i ≤ 1000 := by
  unfold wl pt
  rw [if_neg (by decide), if_neg (by decide), if_neg (by decide)]
  exact wo_r _ _ _ _ _ _ _ _
theorem m221e (hv : VL m) (h : MW m r W H) {t : Nat} (ht : t + 64 ≤ 584) (ht2 : 24 ≤ t) (hb : BD W H (fun c => r (t + c))) {s : Int} (h1 : 0 ≤ s) (h2 : s ≤ 1) (hB : (ml W H (fun c => r (t + c)) s).length ≤ 837) (hl : LM m (ml W H (fun c => r (t + c)) s)) (hw : ∀ i, i < (ml W H (fun c => r (t + c)) s).length → m 259 i = zI (wl W H (fun c => r (t + c)) s (ml W H (fun c => r (t + c)) s) i)) {v what : Int} (v0 : 0 ≤ v) (v1 : v < (ml W H (fun c => r (t + c)) s).length) (w0 : 0 ≤ what) (w1 : what ≤ 3) :
    d_221_106 249 (zI v) (zI what) (zI s) (zI t) (zI ((ml W H (fun c => r (t + c)) s).length : Nat)) m 0 = some (zI (pt W H (fun c => r (t + c)) s ((ml W H (fun c => r (t + c)) s).getD (pl (ml W H (fun c => r (t + c)) s).length (wl W H (fun c => r (t + c)) s (ml W H (fun c => r (t + c)) s)) v) (0, 0)) what), m) := by
  have pl' := pl_lt (w := wl W H (fun c => r (t + c)) s (ml W H (fun c => r (t + c)) s)) v0 v1
  unfold d_221_106
  rw [zl_0]
  refine it_row (f := fun u => s_221_106 249 (zI v) (zI what) (zI s) (zI t) (zI ((ml W H (fun c => r (t + c)) s).length : Nat)) m u) (fun k => zI (k : Nat)) _ (pl (ml W H (fun c => r (t + c)) s).length (wl W H (fun c => r (t + c)) s (ml W H (fun c => r (t + c)) s)) v) (fun k hk => ?_) ?_
  · have e := m222 hB (wl_rg _ _ _) hw (k := k) (by omega)
    have a := ah_lt (w := wl W H (fun c => r (t + c)) s (ml W H (fun c => r (t + c)) s)) (show k < (ml W H (fun c => r (t + c)) s).length by omega)
    unfold pl at hk
    have p := of_decide_eq_false (ff_lt hk)
    unfold s_221_106
    rw [e]
    simp only [obs]
    rw [if_neg (by rw [zI_inj (by omega) (by omega) (by omega) (by omega)]; exact p)]
    simp only [wbs, zl_0, zl_1, zl_2, zl_3, zl_4, zl_5, zl_6, zl_7, zl_8, zl_9, zl_10, zl_11, zl_12, zl_13, zl_14, zl_15, zl_16, zl_17, zl_18, zl_19, zl_20, zl_21, zl_22, zl_23, zl_24, zl_25, zl_26, zl_27, zl_28, zl_29, zl_30, zl_31, zl_32, zl_33, zl_34, zl_35, zl_36, zl_37, zl_38, zl_39, zl_40, zl_41, zl_42, zl_43, zl_44, zl_45, zl_46, zl_47, zl_48, zl_49, zl_50, zl_51, zl_52, zl_53, zl_54, zl_55, zl_56, zl_57, zl_58, zl_59, zl_60, zl_61, zl_62, zl_63, zl_64, zl_88, zl_97, zl_99, zl_120, zl_122, zl_150, zl_152, zl_200, zl_255, zl_264, zl_280, zl_304, zl_464, zl_584, zl_600, zl_837, zl_999, zl_1000, zl_4088, zl_9999, zl_99999, zI_add]
    rfl
  · have e := m222 hB (wl_rg _ _ _) hw (k := pl (ml W H (fun c => r (t + c)) s).length (wl W H (fun c => r (t + c)) s (ml W H (fun c => r (t + c)) s)) v) pl'
    have p : (ah (ml W H (fun c => r (t + c)) s).length (wl W H (fun c => r (t + c)) s (ml W H (fun c => r (t + c)) s)) (pl (ml W H (fun c => r (t + c)) s).length (wl W H (fun c => r (t + c)) s (ml W H (fun c => r (t + c)) s)) v) : Int) = v := by
      have q := pl'
      unfold pl at q ⊢
      exact of_decide_eq_true (ff_at (p := fun i => decide ((ah (ml W H (fun c => r (t + c)) s).length (wl W H (fun c => r (t + c)) s (ml W H (fun c => r (t + c)) s)) i : Int) = v)) q)
    unfold s_221_106 d_221_127
    rw [e]
    simp only [obs]
    rw [if_pos (by rw [p]), m211 hv h ht ht2 hb h1 h2 hB hl pl' w0 w1]
    simp only [obs, oms]
theorem m221w (hv : VL m) (h : MW m r W H) {t : Nat} (ht : t + 64 ≤ 584) (ht2 : 24 ≤ t) (hb : BD W H (fun c => r (t + c))) {s : Int} (h1 : 0 ≤ s) (h2 : s ≤ 1) (hB : (ml W H (fun c => r (t + c)) s).length ≤ 837) (hl : LM m (ml W H (fun c => r (t + c)) s)) {v what : Int} (v0 : 0 ≤ v) (v1 : v < (ml W H (fun c => r (t + c)) s).length) (w0 : 0 ≤ what) (w1 : what ≤ 3) :
    An (d_221_62 249 (zI v) (zI what) (zI s) (zI t) (zI ((ml W H (fun c => r (t + c)) s).length : Nat)) 0 m) (fun q => q.1 = zI (pt W H (fun c => r (t + c)) s ((ml W H (fun c => r (t + c)) s).getD (pl (ml W H (fun c => r (t + c)) s).length (wl W H (fun c => r (t + c)) s (ml W H (fun c => r (t + c)) s)) v) (0, 0)) what) ∧ ∀ a, a ≠ 259 → q.2 a = m a) := by
  unfold d_221_62
  rw [zl_0]
  refine it_inv (fun k st => st.1 = zI (k : Nat) ∧ (∀ i, i < k → st.2 259 i = zI (wl W H (fun c => r (t + c)) s (ml W H (fun c => r (t + c)) s) i)) ∧ ∀ a, a ≠ 259 → st.2 a = m a) _ (ml W H (fun c => r (t + c)) s).length ⟨rfl, fun i hi => absurd hi (Nat.not_lt_zero _), fun _ _ => rfl⟩ (fun k hk st hst => ?_) (fun st hst => ?_)
  all_goals
    obtain ⟨x6, m'⟩ := st
    obtain ⟨e1, e2, e3⟩ := hst
    dsimp only at e1 e2 e3
    subst e1
    have hv' : VL m' := by
      unfold VL
      rw [e3 0 (by decide), e3 1 (by decide)]; exact hv
    have hM' : MW m' r W H := ⟨h.1.mm (e3 250 (by decide)), h.2⟩
    have hl' : LM m' (ml W H (fun c => r (t + c)) s) := fun i hi => by rw [e3 257 (by decide), e3 258 (by decide)]; exact hl i hi
  · obtain ⟨g1, g2, g3⟩ := ml_get (W := W) (H := H) (b := fun c => r (t + c)) (s := s) hk
    have l2 := hl' k hk
    obtain ⟨x, y, hx, hy, d1, d2, d3, d4⟩ := gio_c h.2.2.2 g1
    obtain ⟨X, Y, hX, hY, f1, f2, f3, f4⟩ := gio_c h.2.2.2 g2
    have hwl : wl W H (fun c => r (t + c)) s (ml W H (fun c => r (t + c)) s) k = wo W H (fun c => r (t + c)) s x y X Y := by
      unfold wl pt
      rw [if_neg (by decide), if_neg (by decide), if_neg (by decide), d2, d3, f2, f3]
    rw [d2, d3, f2, f3] at g3
    rw [d1, f1] at l2
    dsimp only
    unfold s_221_62
    rw [if_neg (by rw [zI_le (by omega) (by omega) (by omega) (by omega)]; omega), m_r10, m_r11, m_r12, n_257, n_258, n_259, if_pos (in_k (by omega) (by decide)), if_pos (in_k (by omega) (by decide)), z_ix (by omega), l2.1, l2.2, m208 hv' hM' ht ht2 hb h1 h2 hx hy hX hY (mv_f g3).1]
    simp only [obs, wbs]
    rw [if_pos (in_k (by omega) (by decide))]
    refine An.so ⟨?_, fun i hi => ?_, fun a ha => ?_⟩
    · dsimp only
      rw [zl_1, zI_add]; rfl
    · dsimp only
      rw [wr_at]
      by_cases e : i = k
      · rw [if_pos e, e, hwl]
      · rw [if_neg e]; exact e2 i (by omega)
    · dsimp only
      rw [wr_ne ha]; exact e3 a ha
  · dsimp only
    unfold s_221_62
    rw [if_pos (by rw [zI_le (by omega) (by omega) (by omega) (by omega)]; omega), m221e hv' hM' ht ht2 hb h1 h2 hB hl' e2 v0 v1 w0 w1]
    simp only [oms]
    exact An.so ⟨rfl, e3⟩
theorem P_11 (hn : n ≤ 512) (hI : Inv n m) : ∀ (a1 a2 : Int32), PR n m (d_317 20 a1 a2 266 m) (fun m1 => d_221 249 a1 a2 m1) := by
  intro v w
  obtain ⟨v, rfl, hv⟩ := zI_ex v
  obtain ⟨w, rfl, hw⟩ := zI_ex w
  obtain ⟨r, W, H, hG⟩ := hI.2.2.1
  have hW := iG_w hG
  have hV := hI.1
  obtain ⟨s1, s2, s3⟩ := tS_f hG
  have q2 : ((tS r : Nat) : Int) = 0 ∨ ((tS r : Nat) : Int) = 1 := by omega
  have hB := ml_837 hW (iG_b hG s1) q2
  have e6 : m 23 6 = zI (tS r : Nat) := by rw [hG.2.2.2.2.2.2.2.2.1, s2]
  generalize hl : ml W H (fun d => r (24 + 64 * tS r + d)) (tS r : Nat) = l at hB
  have e75 : d_75 237 (23 + 1 + 5 * tS r + 1) (zI (tS r : Nat)) m = some (layc W m l) := by
    rw [← hl]; exact c75 (iG_a s1).2 (by omega) (iG_f hG s1) hW (iG_b hG s1).1 (by omega) (by omega) (by rw [hl]; exact hB)
  have em : ∀ m1, Qe m m1 → d_221 249 (zI v) (zI w) m1 = ((d_185 (zI v) (zI 0) (zI ((l.length : Nat) - 1))).bind fun v4 => (d_183 249 v4 (lay 257 258 gid m1 l)).bind fun r5 => if r5.1 = true then ((d_185 (zI w) (zI 0) (zI 3)).bind fun v6 => (d_184 249 v6 (zI 2) r5.2).bind fun r7 => if r7.1 = true then (d_221_62 249 (zI v) (zI w) (zI (tS r : Nat)) (zI ((24 + 64 * tS r : Nat) : Int)) (zI (l.length : Nat)) (zI 0) r7.2) else (some (zI 0, r7.2))) else (some (zI 0, r5.2))) := by
    intro m1 qe
    have hG1 := hG.q qe
    unfold d_221
    rw [m_r1, n_250, if_pos (by decide), show ix (3 : Int32) = 3 from by decide, hG1.1 3 (by decide), s2]
    simp only [wbs]
    rw [m194]
    simp only [obs]
    rw [t24, m210 hG1.mw (by omega) (iG_b hG s1).1 (by omega) (by omega) (by rw [hl]; exact hB), hl]
    simp only [obs, zl_0, zl_1, zl_2, zl_3, zl_4, zl_5, zl_6, zl_7, zl_8, zl_9, zl_10, zl_11, zl_12, zl_13, zl_14, zl_15, zl_16, zl_17, zl_18, zl_19, zl_20, zl_21, zl_22, zl_23, zl_24, zl_25, zl_26, zl_27, zl_28, zl_29, zl_30, zl_31, zl_32, zl_33, zl_34, zl_35, zl_36, zl_37, zl_38, zl_39, zl_40, zl_41, zl_42, zl_43, zl_44, zl_45, zl_46, zl_47, zl_48, zl_49, zl_50, zl_51, zl_52, zl_53, zl_54, zl_55, zl_56, zl_57, zl_58, zl_59, zl_60, zl_61, zl_62, zl_63, zl_64, zl_88, zl_97, zl_99, zl_120, zl_122, zl_150, zl_152, zl_200, zl_255, zl_264, zl_280, zl_304, zl_464, zl_584, zl_600, zl_837, zl_999, zl_1000, zl_4088, zl_9999, zl_99999, zI_sub]
  by_cases qv : 0 ≤ v ∧ v < (l.length : Nat)
  · by_cases qw : 0 ≤ w ∧ w ≤ 3
    · refine PR_of hI (code := 0) (v := zI (pt W H (fun d => r (24 + 64 * tS r + d)) (tS r : Nat) (l.getD (pl l.length (wl W H (fun d => r (24 + 64 * tS r + d)) (tS r : Nat) l) v) (0, 0)) w)) (Or.inl rfl) ?_ (fun m1 qe => ?_)
      · unfold d_317 d_131
        rw [k_r1, k_r7, e6, c51 gA_23 s1]
        simp only [obs]
        rw [(iG_a s1).1, e75]
        simp only [obs]
        rw [layc_sz, k176y hv.1 hv.2 (by omega) (by omega) qv, bE_l, zl_0, zl_3, k177y hw.1 hw.2 (by decide) (by decide) (by decide) (by decide) qw, bE_l]
        have hG2 := hG.q (Qe.layc (W := W) (l := l))
        have e62 : layc W m l 23 6 = zI (tS r : Nat) := by rw [layc_ne (by decide)]; exact e6
        rw [e62]
        obtain ⟨m8, e8, h81, h82⟩ := c80 (hV.q (Qe.layc (W := W) (l := l))) (iG_a s1).2 (by omega) (by omega) (iG_f hG2 s1) hW (iG_b hG s1).1 (s := (tS r : Nat)) (by omega) (by omega) (by rw [hl]; exact hB) (by rw [hl]; exact LC_lay)
        rw [hl] at h81
        have q8 : Qe m m8 := Qe.layc.tr (Qe.of (fun a ha => h82 a (by unfold core at ha; omega) (by unfold core at ha; omega) (by unfold core at ha; omega)))
        have hG8 := hG.q q8
        rw [e8]
        simp only [obs]
        have l8 : m8 237 4 = zI (l.length : Nat) := by rw [h82 237 (by decide) (by decide) (by decide)]; exact layc_sz
        rw [c81 hB (wl_rg _ _ _) l8 h81 qv.1 qv.2]
        simp only [obs]
        rw [show m8 23 6 = zI (tS r : Nat) by rw [q8.1 23 (by unfold core; omega)]; exact e6]
        have lc8 : LC W m8 l := LC_lay.mm (h82 237 (by decide) (by decide) (by decide)) (h82 238 (by decide) (by decide) (by decide)) (h82 239 (by decide) (by decide) (by decide))
        have k := c132 (hV.q q8) (iG_a s1).2 (by omega) (by omega) (iG_f hG8 s1) hW (iG_b hG s1).1 (s := (tS r : Nat)) (by omega) (by omega) (by rw [hl]; exact hB) (by rw [hl]; exact lc8) (k := pl l.length (wl W H (fun d => r (24 + 64 * tS r + d)) (tS r : Nat) l) v) (by rw [hl]; exact pl_lt qv.1 qv.2) qw.1 qw.2
        rw [hl] at k
        obtain ⟨q', e', g1, g2⟩ := k
        rw [e']
        simp only [obs]
        rw [bE_l, g1]
        exact lq_ok (q8.tr (Qe.of (fun a ha => g2 a (by unfold core at ha; omega) (by unfold core at ha; omega))))
      · have hG1 := hG.q qe
        rw [em m1 qe, m185 hv.1 hv.2 (by decide) (by decide) (by omega) (by omega), decide_eq_true (by omega)]
        simp only [obs, m183, ift]
        rw [m185 hw.1 hw.2 (by decide) (by decide) (by decide) (by decide), decide_eq_true qw]
        simp only [obs, m184, ift, wr_wr]
        have k := m221w ((hV.q qe).q Qe.lay).told (hG1.q Qe.lay).mw.told (t := 24 + 64 * tS r) (by omega) (by omega) (iG_b hG s1).1 (s := (tS r : Nat)) (by omega) (by omega) (by rw [hl]; exact hB) (fun j hj => by rw [wr_ne (by decide), wr_ne (by decide)]; rw [hl] at hj ⊢; exact LM_lay j hj) (v := v) (what := w) qv.1 (by rw [hl]; exact qv.2) qw.1 qw.2 (m := wr (lay 257 258 gid m1 l) 249 0 (zI 0))
        rw [hl] at k
        refine An.mp k (fun q' hq' => ?_)
        obtain ⟨g1, g2⟩ := hq'
        refine ⟨?_, fun _ => g1, (Qe.lay.tr Qe.told).tr (Qe.of (fun a ha => g2 a (by unfold core at ha; omega))), ?_⟩
        · rw [g2 249 (by decide), wr_eq]
        · rw [g2 266 (by decide), wr_ne (by decide), lay_ne (by decide) (by decide)]
    · refine PR_of hI (code := 2) (v := 0) (Or.inr (Or.inr (Or.inl rfl))) ?_ (fun m1 qe => ?_)
      · unfold d_317 d_131
        rw [k_r1, k_r7, e6, c51 gA_23 s1]
        simp only [obs]
        rw [(iG_a s1).1, e75]
        simp only [obs]
        rw [layc_sz, k176y hv.1 hv.2 (by omega) (by omega) qv, bE_l, zl_0, zl_3, k177n hw.1 hw.2 (by decide) (by decide) (by decide) (by decide) qw, bE_r, bE_r, if_neg (by decide), if_pos rfl]
        exact lq_ex (c := 2) (by decide) Qe.layc
      · rw [em m1 qe, m185 hv.1 hv.2 (by decide) (by decide) (by omega) (by omega), decide_eq_true (by omega)]
        simp only [obs, m183, ift]
        rw [m185 hw.1 hw.2 (by decide) (by decide) (by decide) (by decide), decide_eq_false qw]
        simp only [obs, m184, ifn, wr_wr, Bool.false_eq_true]
        exact rq_ok (code := 2) wr_eq (fun e => by cases e) (Qe.lay.tr Qe.told) (by rw [wr_ne (by decide), lay_ne (by decide) (by decide)])
  · refine PR_of hI (code := 1) (v := 0) (Or.inr (Or.inl rfl)) ?_ (fun m1 qe => ?_)
    · unfold d_317 d_131
      rw [k_r1, k_r7, e6, c51 gA_23 s1]
      simp only [obs]
      rw [(iG_a s1).1, e75]
      simp only [obs]
      rw [layc_sz, k176n hv.1 hv.2 (by omega) (by omega) qv, bE_r, bE_r, if_pos rfl]
      exact lq_ex (c := 1) (by decide) Qe.layc
    · rw [em m1 qe, m185 hv.1 hv.2 (by decide) (by decide) (by omega) (by omega), decide_eq_false (by omega)]
      simp only [obs, m183, ifn, Bool.false_eq_true]
      exact rq_ok (code := 1) wr_eq (fun e => by cases e) (Qe.lay.tr Qe.told) (by rw [wr_ne (by decide), lay_ne (by decide) (by decide)])
end CI
