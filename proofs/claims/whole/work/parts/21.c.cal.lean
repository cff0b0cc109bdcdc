/-! Calls, one by one: lists of moves. -/
section CC
variable {m : Mm} {r : Nat → Int} {W H n : Nat}
theorem ml_837 {b : Nat → Int} (hw : WH W H) (hb : BG W H b) {s : Int} (h : s = 0 ∨ s = 1) : (ml W H b s).length ≤ 837 := by
  have k := ml_27 hw (b := b) (s := s)
  obtain ⟨-, -, h0, h1⟩ := hb
  rcases h with rfl | rfl <;> omega
theorem Qe.layc {l : List (Nat × Nat)} : Qe m (layc W m l) := ⟨fun a ha => layc_ne (by unfold core at ha; omega), fun k _ => by rw [layc_ne (by decide)]⟩
theorem Qe.lay {l : List (Nat × Nat)} : Qe m (lay 257 258 gid m l) := ⟨fun a ha => lay_ne (by unfold core at ha; omega) (by unfold core at ha; omega), fun k _ => by rw [lay_ne (by decide) (by decide)]⟩
theorem Qe.of {m' : Mm} (h : ∀ a, core a ∨ a = 249 → m' a = m a) : Qe m m' := ⟨fun a ha => h a (Or.inl ha), fun k _ => by rw [h 249 (Or.inr rfl)]⟩
theorem k176y {a b : Int} (a1 : -2147483648 ≤ a) (a2 : a ≤ 2147483647) (b1 : -2147483648 ≤ b) (b2 : b ≤ 2147483647) (h : 0 ≤ a ∧ a < b) : d_176 (zI a) (zI b) m = some (.inl (), m) := by
  unfold d_176
  rw [if_neg (by rw [zl_0, zI_lt a1 a2 (by decide) (by decide)]; omega), if_pos (by rw [zI_lt a1 a2 b1 b2]; omega)]
theorem k176n {a b : Int} (a1 : -2147483648 ≤ a) (a2 : a ≤ 2147483647) (b1 : -2147483648 ≤ b) (b2 : b ≤ 2147483647) (h : ¬ (0 ≤ a ∧ a < b)) : d_176 (zI a) (zI b) m = some (.inr 1, m) := by
  unfold d_176 d_176_9
  by_cases q : a < 0
  · rw [if_pos (by rw [zl_0, zI_lt a1 a2 (by decide) (by decide)]; omega)]
  · rw [if_neg (by rw [zl_0, zI_lt a1 a2 (by decide) (by decide)]; omega), if_neg (by rw [zI_lt a1 a2 b1 b2]; omega)]
theorem k177y {a l u : Int} (a1 : -2147483648 ≤ a) (a2 : a ≤ 2147483647) (l1 : -2147483648 ≤ l) (l2 : l ≤ 2147483647) (u1 : -2147483648 ≤ u) (u2 : u ≤ 2147483647) (h : l ≤ a ∧ a ≤ u) : d_177 (zI a) (zI l) (zI u) m = some (.inl (), m) := by
  unfold d_177
  rw [if_neg (by rw [zI_lt a1 a2 l1 l2]; omega), if_pos (by rw [zI_le a1 a2 u1 u2]; omega)]
theorem k177n {a l u : Int} (a1 : -2147483648 ≤ a) (a2 : a ≤ 2147483647) (l1 : -2147483648 ≤ l) (l2 : l ≤ 2147483647) (u1 : -2147483648 ≤ u) (u2 : u ≤ 2147483647) (h : ¬ (l ≤ a ∧ a ≤ u)) : d_177 (zI a) (zI l) (zI u) m = some (.inr 0, m) := by
  unfold d_177 d_177_10
  by_cases q : a < l
  · rw [if_pos (by rw [zI_lt a1 a2 l1 l2]; omega)]
  · rw [if_neg (by rw [zI_lt a1 a2 l1 l2]; omega), if_neg (by rw [zI_le a1 a2 u1 u2]; omega)]
theorem P_9 (hn : n ≤ 512) (hI : Inv n m) : ∀ (a1 a2 : Int32), PR n m (d_315 20 a1 a2 266 m) (fun m1 => d_219 249 a1 a2 m1) := by
  intro a c
  obtain ⟨a, rfl, ha⟩ := zI_ex a
  obtain ⟨c, rfl, hc⟩ := zI_ex c
  obtain ⟨r, W, H, hG⟩ := hI.2.2.1
  have hW := iG_w hG
  by_cases q : (a = 0 ∨ a = 1) ∧ (c = 0 ∨ c = 1)
  · obtain ⟨q1, q2⟩ := q
    obtain ⟨s, hs, rfl⟩ := sd01 q1
    have hB := ml_837 hW (iG_b hG hs) q2
    refine PR_of hI (code := 0) (v := zI ((ml W H (fun d => r (24 + 64 * s + d)) c).length : Nat)) (Or.inl rfl) ?_ (fun m1 qe => ?_)
    · unfold d_315 d_129
      rw [k175y q1, bE_l, k175y q2, bE_l, k_r1, k_r7, c51 gA_23 hs]
      simp only [obs]
      rw [(iG_a hs).1, c75 (iG_a hs).2 (by omega) (iG_f hG hs) hW (iG_b hG hs).1 (by omega) (by omega) hB]
      simp only [obs]
      rw [bE_l, layc_sz]
      exact lq_ok Qe.layc
    · have hG1 := hG.q qe
      unfold d_219 d_219_20
      rw [m212 ha.1 ha.2, m212 hc.1 hc.2]
      simp only [obs]
      rw [decide_eq_true (by omega), decide_eq_true (by omega)]
      simp only [ift, m183, obs]
      rw [m194]
      simp only [obs]
      rw [t24, m210 hG1.mw.told (by omega) (iG_b hG hs).1 (by omega) (by omega) hB]
      simp only [obs]
      refine rq_ok ?_ (fun _ => rfl) (Qe.told.tr Qe.lay) ?_
      · rw [lay_ne (by decide) (by decide), wr_eq]
      · rw [lay_ne (by decide) (by decide), wr_ne (by decide)]
  · refine PR_of hI (code := 1) (v := 0) (Or.inr (Or.inl rfl)) ?_ (fun m1 qe => ?_)
    · unfold d_315 d_129
      by_cases q1 : a = 0 ∨ a = 1
      · rw [k175y q1, bE_l, k175n hc.1 hc.2 (fun e => q ⟨q1, e⟩), bE_r, bE_r, if_pos rfl]
        exact lq_ex (c := 1) (by decide) (Qe.rf m)
      · rw [k175n ha.1 ha.2 q1, bE_r, bE_r, if_pos rfl]
        exact lq_ex (c := 1) (by decide) (Qe.rf m)
    · unfold d_219 d_219_20
      rw [m212 ha.1 ha.2, m212 hc.1 hc.2]
      simp only [obs]
      by_cases q1 : a = 0 ∨ a = 1
      · rw [decide_eq_true (show 0 ≤ a ∧ a ≤ 1 by omega), decide_eq_false (show ¬ (0 ≤ c ∧ c ≤ 1) by omega)]
        simp only [ift, ifn, m183, obs, Bool.false_eq_true]
        exact rq_t (code := 1) (fun e => by cases e)
      · rw [decide_eq_false (show ¬ (0 ≤ a ∧ a ≤ 1) by omega)]
        simp only [ift, ifn, m183, obs, Bool.false_eq_true]
        exact rq_t (code := 1) (fun e => by cases e)
/-- a part of a move of a list that lies, as the class tells it -/
theorem q10c (hV : VL m) {k : Int} (hG : iGam k m r W H) {s : Nat} (hs : s ≤ 1) {c : Int} (hc : c = 0 ∨ c = 1) {i what : Int} (hi : 0 ≤ i ∧ i < (ml W H (fun d => r (24 + 64 * s + d)) c).length) (hw : 0 ≤ what ∧ what ≤ 3) {m0 : Mm} (hl : LC W m0 (ml W H (fun d => r (24 + 64 * s + d)) c)) (hq : Qe m m0) :
    An (d_132 20 (23 + 1 + 5 * s + 1) (zI c) (zI i) (zI what) m0) (fun q => q.1 = zI (pt W H (fun d => r (24 + 64 * s + d)) c ((ml W H (fun d => r (24 + 64 * s + d)) c).getD i.toNat (0, 0)) what) ∧ Qe m q.2) := by
  have hW := iG_w hG
  have hG0 := hG.q hq
  have e := c132 (hV.q hq) (iG_a hs).2 (by omega) (by omega) (iG_f hG0 hs) hW (iG_b hG hs).1 (s := c) (by omega) (by omega) (ml_837 hW (iG_b hG hs) hc) hl (k := i.toNat) (by omega) hw.1 hw.2
  rw [show ((i.toNat : Nat) : Int) = i by omega] at e
  refine An.mp e (fun q ⟨a1, a2⟩ => ⟨a1, hq.tr (Qe.of (fun a ha => a2 a (by unfold core at ha; omega) (by unfold core at ha; omega)))⟩)
theorem P_10 (hn : n ≤ 512) (hI : Inv n m) : ∀ (a1 a2 a3 a4 : Int32), PR n m (d_316 20 a1 a2 a3 a4 266 m) (fun m1 => d_220 249 a1 a2 a3 a4 m1) := by
  intro a c i w
  obtain ⟨a, rfl, ha⟩ := zI_ex a
  obtain ⟨c, rfl, hc⟩ := zI_ex c
  obtain ⟨i, rfl, hi⟩ := zI_ex i
  obtain ⟨w, rfl, hw⟩ := zI_ex w
  obtain ⟨r, W, H, hG⟩ := hI.2.2.1
  have hW := iG_w hG
  have hV := hI.1
  by_cases q : (a = 0 ∨ a = 1) ∧ (c = 0 ∨ c = 1)
  · obtain ⟨q1, q2⟩ := q
    obtain ⟨s, hs, rfl⟩ := sd01 q1
    have hB := ml_837 hW (iG_b hG hs) q2
    have ec : ∀ Q, An (d_316 20 (zI (s : Nat)) (zI c) (zI i) (zI w) 266 m) Q ↔ An (bE (bE (d_176 (zI i) (zI ((ml W H (fun d => r (24 + 64 * s + d)) c).length : Nat)) (layc W m (ml W H (fun d => r (24 + 64 * s + d)) c))) (fun _ m8 => bE (d_177 (zI w) 0 3 m8) (fun _ m10 => (d_132 20 (23 + 1 + 5 * s + 1) (zI c) (zI i) (zI w) m10).bind fun r12 => some (.inl r12.1, r12.2)) (fun e13 m10 => some (.inr e13, m10))) (fun e14 m8 => some (.inr e14, m8))) (fun v2 m1 => if ev_in 0 (sh_n 266) = true then (wb (wr m1 266 (ix 0) v2) fun m3 => some (0, m3)) else none) (fun e4 m1 => if e4 = 1 then (some (1, m1)) else if e4 = 0 then (some (2, m1)) else none)) Q := by
      intro Q
      unfold d_316 d_130
      rw [k175y q1, bE_l, k175y q2, bE_l, k_r1, k_r7, c51 gA_23 hs]
      simp only [obs]
      rw [(iG_a hs).1, c75 (iG_a hs).2 (by omega) (iG_f hG hs) hW (iG_b hG hs).1 (by omega) (by omega) hB]
      simp only [obs]
      rw [layc_sz]
    have em : ∀ m1, Qe m m1 → d_220 249 (zI (s : Nat)) (zI c) (zI i) (zI w) m1 = (if 0 ≤ i ∧ i < ((ml W H (fun d => r (24 + 64 * s + d)) c).length : Nat) then d_220_66 249 (zI (s : Nat)) (zI c) (zI i) (zI w) 249 true (lay 257 258 gid m1 (ml W H (fun d => r (24 + 64 * s + d)) c)) else d_220_66 249 (zI (s : Nat)) (zI c) (zI i) (zI w) 249 false (lay 257 258 gid m1 (ml W H (fun d => r (24 + 64 * s + d)) c))) := by
      intro m1 qe
      have hG1 := hG.q qe
      unfold d_220 d_220_19 d_220_39
      rw [m212 (by omega) (by omega), m212 hc.1 hc.2]
      simp only [obs]
      rw [decide_eq_true (by omega), decide_eq_true (by omega)]
      simp only [ift, m194, obs]
      rw [t24, m210 hG1.mw (by omega) (iG_b hG hs).1 (by omega) (by omega) hB]
      simp only [obs, zl_0, zl_1, zl_2, zl_3, zl_4, zl_5, zl_6, zl_7, zl_8, zl_9, zl_10, zl_11, zl_12, zl_13, zl_14, zl_15, zl_16, zl_17, zl_18, zl_19, zl_20, zl_21, zl_22, zl_23, zl_24, zl_25, zl_26, zl_27, zl_28, zl_29, zl_30, zl_31, zl_32, zl_33, zl_34, zl_35, zl_36, zl_37, zl_38, zl_39, zl_40, zl_41, zl_42, zl_43, zl_44, zl_45, zl_46, zl_47, zl_48, zl_49, zl_50, zl_51, zl_52, zl_53, zl_54, zl_55, zl_56, zl_57, zl_58, zl_59, zl_60, zl_61, zl_62, zl_63, zl_64, zl_88, zl_97, zl_99, zl_120, zl_122, zl_150, zl_152, zl_200, zl_255, zl_264, zl_280, zl_304, zl_464, zl_584, zl_600, zl_837, zl_999, zl_1000, zl_4088, zl_9999, zl_99999, zI_sub]
      rw [m185 hi.1 hi.2 (by omega) (by omega) (by omega) (by omega)]
      simp only [obs]
      by_cases qi : 0 ≤ i ∧ i < ((ml W H (fun d => r (24 + 64 * s + d)) c).length : Nat)
      · rw [decide_eq_true (by omega), if_pos rfl, if_pos qi]
      · rw [decide_eq_false (by omega), if_neg (by decide), if_neg qi]
    by_cases qi : 0 ≤ i ∧ i < ((ml W H (fun d => r (24 + 64 * s + d)) c).length : Nat)
    · by_cases qw : 0 ≤ w ∧ w ≤ 3
      · refine PR_of hI (code := 0) (v := zI (pt W H (fun d => r (24 + 64 * s + d)) c ((ml W H (fun d => r (24 + 64 * s + d)) c).getD i.toNat (0, 0)) w)) (Or.inl rfl) ?_ (fun m1 qe => ?_)
        · unfold LQ
          rw [ec, k176y hi.1 hi.2 (by omega) (by omega) qi, bE_l, zl_0, zl_3, k177y hw.1 hw.2 (by decide) (by decide) (by decide) (by decide) qw, bE_l]
          obtain ⟨q', e', h1, h2⟩ := q10c hV hG hs q2 qi qw LC_lay Qe.layc
          rw [e']
          simp only [obs]
          rw [bE_l, h1]
          exact An.mp (lq_ok h2) (fun r h => ⟨h.1, fun _ => h.2.1 rfl, h.2.2⟩)
        · have hG1 := hG.q qe
          rw [em m1 qe, if_pos qi]
          unfold d_220_66
          simp only [m183, obs, ift]
          rw [zl_0, zl_3, m185 hw.1 hw.2 (by decide) (by decide) (by decide) (by decide), decide_eq_true qw]
          simp only [obs, m184, ift, wr_wr]
          rw [m194]
          simp only [obs]
          have k2 := m211 ((hV.q qe).q Qe.lay).told (hG1.q Qe.lay).mw.told (t := 24 + 64 * s) (by omega) (by omega) (iG_b hG hs).1 (s := c) (by omega) (by omega) hB (fun j hj => by rw [wr_ne (by decide), wr_ne (by decide)]; exact LM_lay j hj) (k := i.toNat) (by omega) qw.1 qw.2 (m := wr (lay 257 258 gid m1 (ml W H (fun d => r (24 + 64 * s + d)) c)) 249 0 (zI 0))
          rw [show ((i.toNat : Nat) : Int) = i by omega] at k2
          rw [t24, k2]
          simp only [obs]
          refine rq_ok wr_eq (fun _ => rfl) (Qe.lay.tr Qe.told) ?_
          rw [wr_ne (by decide), lay_ne (by decide) (by decide)]
      · refine PR_of hI (code := 2) (v := 0) (Or.inr (Or.inr (Or.inl rfl))) ?_ (fun m1 qe => ?_)
        · unfold LQ
          rw [ec, k176y hi.1 hi.2 (by omega) (by omega) qi, bE_l, zl_0, zl_3, k177n hw.1 hw.2 (by decide) (by decide) (by decide) (by decide) qw, bE_r, bE_r, if_neg (by decide), if_pos rfl]
          exact lq_ex (c := 2) (by decide) Qe.layc
        · rw [em m1 qe, if_pos qi]
          unfold d_220_66
          simp only [m183, obs, ift]
          rw [zl_0, zl_3, m185 hw.1 hw.2 (by decide) (by decide) (by decide) (by decide), decide_eq_false qw]
          simp only [obs, m184, ifn, Bool.false_eq_true, wr_wr]
          refine rq_ok (code := 2) wr_eq (fun e => by cases e) (Qe.lay.tr Qe.told) ?_
          rw [wr_ne (by decide), lay_ne (by decide) (by decide)]
    · refine PR_of hI (code := 1) (v := 0) (Or.inr (Or.inl rfl)) ?_ (fun m1 qe => ?_)
      · unfold LQ
        rw [ec, k176n hi.1 hi.2 (by omega) (by omega) qi, bE_r, bE_r, if_pos rfl]
        exact lq_ex (c := 1) (by decide) Qe.layc
      · rw [em m1 qe, if_neg qi]
        unfold d_220_66
        simp only [m183, obs, ifn, Bool.false_eq_true]
        refine rq_ok (code := 1) wr_eq (fun e => by cases e) (Qe.lay.tr Qe.told) ?_
        rw [wr_ne (by decide), lay_ne (by decide) (by decide)]
  · refine PR_of hI (code := 1) (v := 0) (Or.inr (Or.inl rfl)) ?_ (fun m1 qe => ?_)
    · unfold d_316 d_130
      by_cases q1 : a = 0 ∨ a = 1
      · rw [k175y q1, bE_l, k175n hc.1 hc.2 (fun e => q ⟨q1, e⟩), bE_r, bE_r, if_pos rfl]
        exact lq_ex (c := 1) (by decide) (Qe.rf m)
      · rw [k175n ha.1 ha.2 q1, bE_r, bE_r, if_pos rfl]
        exact lq_ex (c := 1) (by decide) (Qe.rf m)
    · unfold d_220 d_220_19 d_220_39 d_220_66
      rw [m212 ha.1 ha.2, m212 hc.1 hc.2]
      simp only [obs]
      by_cases q1 : a = 0 ∨ a = 1
      · rw [decide_eq_true (show 0 ≤ a ∧ a ≤ 1 by omega), decide_eq_false (show ¬ (0 ≤ c ∧ c ≤ 1) by omega)]
        simp only [ift, ifn, m183, obs, Bool.false_eq_true]
        exact rq_t (code := 1) (fun e => by cases e)
      · rw [decide_eq_false (show ¬ (0 ≤ a ∧ a ≤ 1) by omega)]
        simp only [ift, ifn, m183, obs, Bool.false_eq_true]
        exact rq_t (code := 1) (fun e => by cases e)
end CC
