/-! Calls, one by one: fogs and messages. -/
section CD
variable {m : Mm} {r : Nat → Int} {W H n : Nat}
theorem iG_o : oA 34 := (gA_F gA_23).2.2.2.2.2.2.2.1
theorem iG_F {k : Int} (h : iGam k m r W H) : FV m 34 ((r 8).toNat : Nat) (rF r) (rL r) (rE r) ∧ FB (r 8).toNat (rF r) (rL r) (rE r) ∧ r 8 = ((r 8).toNat : Nat) := by
  obtain ⟨-, hR, hg⟩ := h
  obtain ⟨-, -, -, -, -, -, -, -, -, -, hF, -⟩ := hR
  exact ⟨hg.fg hF.1, hF.2, by omega⟩
theorem iG_t {k : Int} (h : iGam k m r W H) : m 23 5 = zI (r 2) ∧ 0 ≤ r 2 ∧ r 2 ≤ 10000 * k := ⟨h.2.2.2.2.2.2.2.1, h.2.1.2.1⟩
theorem fogs_r : sh_r (sh_r 20 1) 2 = 34 := by decide +kernel
theorem P_18 (hn : n ≤ 512) (hI : Inv n m) : ∀ (a1 : Int32), PB n m (d_324 20 a1 266 m) (fun m1 => d_235 249 a1 m1) := by
  intro a
  obtain ⟨a, rfl, a1, a2⟩ := zI_ex a
  obtain ⟨r, W, H, hG⟩ := hI.2.2.1
  obtain ⟨f1, f2, f3⟩ := iG_F hG
  by_cases q : 0 ≤ a ∧ a ≤ 99999
  · refine PB_of hI (code := 0) (v := bi (hid (r 8).toNat (rF r) (rL r) (rE r) a)) (Or.inl rfl) ?_ (fun m1 qe => ?_)
    · unfold d_324 d_139
      rw [zl_0, zl_99999, k177y a1 a2 (by decide) (by decide) (by decide) (by decide) q, bE_l, fogs_r, c44 iG_o f1 f2 (by omega) (by omega)]
      simp only [obs]
      rw [bE_l]
      cases hid (r 8).toNat (rF r) (rL r) (rE r) a
      · rw [if_neg (by decide)]; exact lqb_ok (B := false) (Qe.rf m)
      · rw [if_pos rfl]; exact lqb_ok (B := true) (Qe.rf m)
    · have hG1 := hG.q qe
      unfold d_235
      rw [zl_0, zl_99999, m185 a1 a2 (by decide) (by decide) (by decide) (by decide), decide_eq_true q]
      simp only [obs, m183, ift]
      have e := m233 (hG1.1.mm (show wr m1 249 0 (zI 0) 250 = m1 250 from wr_ne (by decide))) f3 f2 (t := a) (by omega) (by omega)
      rw [e]
      simp only [obs]
      show RB (if hid (r 8).toNat (rF r) (rL r) (rE r) a = true then _ else _) _ _ _
      cases hid (r 8).toNat (rF r) (rL r) (rE r) a
      · rw [if_neg (by decide)]; exact rb_t (code := 0) (fun _ => rfl)
      · rw [if_pos rfl]; exact rb_t (code := 0) (fun _ => rfl)
  · refine PB_of hI (code := 1) (v := 0) (Or.inr (Or.inl rfl)) ?_ (fun m1 qe => ?_)
    · unfold d_324 d_139
      rw [zl_0, zl_99999, k177n a1 a2 (by decide) (by decide) (by decide) (by decide) q, bE_r, bE_r, if_pos rfl]
      exact lq_ex (c := 1) (by decide) (Qe.rf m)
    · unfold d_235
      rw [zl_0, zl_99999, m185 a1 a2 (by decide) (by decide) (by decide) (by decide), decide_eq_false q]
      simp only [obs, m183, ifn, Bool.false_eq_true]
      exact rb_t (code := 1) (fun e => by cases e)
theorem P_19 (hn : n ≤ 512) (hI : Inv n m) : ∀ (a1 a2 : Int32), PR n m (d_325 20 a1 a2 266 m) (fun m1 => d_236 249 a1 a2 m1) := by
  intro a c
  obtain ⟨a, rfl, a1, a2⟩ := zI_ex a
  obtain ⟨c, rfl, c1, c2⟩ := zI_ex c
  obtain ⟨r, W, H, hG⟩ := hI.2.2.1
  obtain ⟨f1, f2, f3⟩ := iG_F hG
  by_cases q : (0 ≤ a ∧ a ≤ 99999) ∧ (0 ≤ c ∧ c ≤ 999)
  · have ec : zI c = zI ((c.toNat : Nat) : Int) := congrArg zI (by omega)
    refine PR_of hI (code := 0) (v := zI (c - (see (r 8).toNat (rF r) (rL r) (rE r) a c.toNat : Nat))) (Or.inl rfl) ?_ (fun m1 qe => ?_)
    · unfold d_325 d_140
      rw [zl_0, zl_99999, zl_999, k177y a1 a2 (by decide) (by decide) (by decide) (by decide) q.1, bE_l, k177y c1 c2 (by decide) (by decide) (by decide) (by decide) q.2, bE_l, fogs_r]
      have e := c45 iG_o f1 f2 (t := a) (by omega) (by omega) (c := c.toNat) (by omega)
      rw [← ec] at e
      rw [e]
      simp only [obs]
      rw [bE_l, zI_sub, ← zl_0]
      exact lq_ok (Qe.rf m)
    · have hG1 := hG.q qe
      unfold d_236 d_236_30
      rw [zl_0, zl_99999, zl_999, m185 a1 a2 (by decide) (by decide) (by decide) (by decide), m185 c1 c2 (by decide) (by decide) (by decide) (by decide), decide_eq_true q.1, decide_eq_true q.2]
      simp only [obs, m183, ift]
      have e := m234 (hG1.1.mm (show wr m1 249 0 (zI 0) 250 = m1 250 from wr_ne (by decide))) f3 f2 (t := a) (by omega) (by omega) (c := c.toNat) (by omega)
      rw [← ec] at e
      rw [e]
      simp only [obs, zI_sub]
      exact rq_t (code := 0) (fun _ => rfl)
  · refine PR_of hI (code := 1) (v := 0) (Or.inr (Or.inl rfl)) ?_ (fun m1 qe => ?_)
    · unfold d_325 d_140
      rw [zl_0, zl_99999, zl_999]
      by_cases q1 : 0 ≤ a ∧ a ≤ 99999
      · rw [k177y a1 a2 (by decide) (by decide) (by decide) (by decide) q1, bE_l, k177n c1 c2 (by decide) (by decide) (by decide) (by decide) (fun e => q ⟨q1, e⟩), bE_r, bE_r, if_pos rfl]
        exact lq_ex (c := 1) (by decide) (Qe.rf m)
      · rw [k177n a1 a2 (by decide) (by decide) (by decide) (by decide) q1, bE_r, bE_r, if_pos rfl]
        exact lq_ex (c := 1) (by decide) (Qe.rf m)
    · unfold d_236 d_236_30
      rw [zl_0, zl_99999, zl_999, m185 a1 a2 (by decide) (by decide) (by decide) (by decide), m185 c1 c2 (by decide) (by decide) (by decide) (by decide)]
      by_cases q1 : 0 ≤ a ∧ a ≤ 99999
      · rw [decide_eq_true q1, decide_eq_false (show ¬ (0 ≤ c ∧ c ≤ 999) from fun e => q ⟨q1, e⟩)]
        simp only [obs, m183, ift, ifn, Bool.false_eq_true]
        exact rq_t (code := 1) (fun e => by cases e)
      · rw [decide_eq_false q1]
        simp only [obs, m183, ifn, Bool.false_eq_true]
        exact rq_t (code := 1) (fun e => by cases e)
theorem P_20 (hn : n ≤ 512) (hI : Inv n m) : ∀ (a1 : Int32), PR n m (d_326 20 a1 266 m) (fun m1 => d_237 249 a1 m1) := by
  intro c
  obtain ⟨c, rfl, c1, c2⟩ := zI_ex c
  obtain ⟨r, W, H, hG⟩ := hI.2.2.1
  obtain ⟨f1, f2, f3⟩ := iG_F hG
  obtain ⟨t1, t2, t3⟩ := iG_t hG
  by_cases q : 1 ≤ c ∧ c ≤ 99
  · have ec : zI c = zI ((c.toNat : Nat) : Int) := congrArg zI (by omega)
    refine PR_of hI (code := 0) (v := zI (r 2 + (clf (r 8).toNat (rF r) (rL r) (rE r) (r 2) c.toNat : Nat))) (Or.inl rfl) ?_ (fun m1 qe => ?_)
    · unfold d_326 d_141
      rw [zl_1, zl_99, k177y c1 c2 (by decide) (by decide) (by decide) (by decide) q, bE_l, fogs_r, k_r1, t1]
      have e := c46 iG_o f1 f2 (t := r 2) (by omega) (by omega) (c := c.toNat) (by omega) (by omega)
      rw [← ec] at e
      rw [e]
      simp only [obs]
      rw [bE_l]
      exact lq_ok (Qe.rf m)
    · have hG1 := hG.q qe
      unfold d_237
      rw [zl_1, zl_99, m185 c1 c2 (by decide) (by decide) (by decide) (by decide), decide_eq_true q]
      simp only [obs, m183, ift]
      have hM := hG1.1.mm (show wr m1 249 0 (zI 0) 250 = m1 250 from wr_ne (by decide))
      have e := m237l hM f3 f2 (t := r 2) (by omega) (by omega) (c := c.toNat) (by omega)
      rw [← ec] at e
      rw [m_r1, n_250, if_pos (by decide), show ix (2 : Int32) = 2 from by decide, hM 2 (by decide), e]
      exact rq_t (code := 0) (fun _ => rfl)
  · refine PR_of hI (code := 1) (v := 0) (Or.inr (Or.inl rfl)) ?_ (fun m1 qe => ?_)
    · unfold d_326 d_141
      rw [zl_1, zl_99, k177n c1 c2 (by decide) (by decide) (by decide) (by decide) q, bE_r, bE_r, if_pos rfl, ← zl_1]
      exact lq_ex (c := 1) (by decide) (Qe.rf m)
    · unfold d_237
      rw [zl_1, zl_99, m185 c1 c2 (by decide) (by decide) (by decide) (by decide), decide_eq_false q]
      simp only [obs, m183, ifn, Bool.false_eq_true]
      exact rq_t (code := 1) (fun e => by cases e)
end CD
