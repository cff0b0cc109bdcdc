/-! Calls, one by one: boards, on. -/
section CB
variable {m : Mm} {r : Nat → Int} {W H n : Nat}
abbrev inC (W H : Nat) (x y : Int) : Prop := 0 ≤ x ∧ x < W ∧ 0 ≤ y ∧ y < H
theorem k178i (h : GR m 23 r W H) (hw : WH W H) {x y : Int} (h1 : -2147483648 ≤ x) (h2 : x ≤ 2147483647) (h3 : -2147483648 ≤ y) (h4 : y ≤ 2147483647) (hi : inC W H x y) : d_178 20 (zI x) (zI y) m = some (.inl (), m) := by
  rw [k178 h hw h1 h2 h3 h4, if_pos hi]
theorem k178o (h : GR m 23 r W H) (hw : WH W H) {x y : Int} (h1 : -2147483648 ≤ x) (h2 : x ≤ 2147483647) (h3 : -2147483648 ≤ y) (h4 : y ≤ 2147483647) (hi : ¬ inC W H x y) : d_178 20 (zI x) (zI y) m = some (.inr 0, m) := by
  rw [k178 h hw h1 h2 h3 h4, if_neg hi]
theorem k179i (h : GR m 23 r W H) (hw : WH W H) {x y X Y : Int} (h1 : -2147483648 ≤ x ∧ x ≤ 2147483647) (h2 : -2147483648 ≤ y ∧ y ≤ 2147483647) (h3 : -2147483648 ≤ X ∧ X ≤ 2147483647) (h4 : -2147483648 ≤ Y ∧ Y ≤ 2147483647) (hi : inC W H x y ∧ inC W H X Y) : d_179 20 (zI x) (zI y) (zI X) (zI Y) m = some (.inl (), m) := by
  unfold d_179
  rw [k178i h hw h1.1 h1.2 h2.1 h2.2 hi.1, bE_l, k178i h hw h3.1 h3.2 h4.1 h4.2 hi.2, bE_l]
theorem k179o (h : GR m 23 r W H) (hw : WH W H) {x y X Y : Int} (h1 : -2147483648 ≤ x ∧ x ≤ 2147483647) (h2 : -2147483648 ≤ y ∧ y ≤ 2147483647) (h3 : -2147483648 ≤ X ∧ X ≤ 2147483647) (h4 : -2147483648 ≤ Y ∧ Y ≤ 2147483647) (hi : ¬ (inC W H x y ∧ inC W H X Y)) : d_179 20 (zI x) (zI y) (zI X) (zI Y) m = some (.inr 0, m) := by
  unfold d_179
  by_cases q : inC W H x y
  · rw [k178i h hw h1.1 h1.2 h2.1 h2.2 q, bE_l, k178o h hw h3.1 h3.2 h4.1 h4.2 (fun e => hi ⟨q, e⟩), bE_r]
  · rw [k178o h hw h1.1 h1.2 h2.1 h2.2 q, bE_r]
theorem m253i (h : MW m r W H) {x y X Y : Int} (h1 : -2147483648 ≤ x ∧ x ≤ 2147483647) (h2 : -2147483648 ≤ y ∧ y ≤ 2147483647) (h3 : -2147483648 ≤ X ∧ X ≤ 2147483647) (h4 : -2147483648 ≤ Y ∧ Y ≤ 2147483647) (hi : inC W H x y ∧ inC W H X Y) : d_253 249 (zI x) (zI y) (zI X) (zI Y) m = some true := by
  unfold d_253
  rw [m213 h h1.1 h1.2 h2.1 h2.2, m213 h h3.1 h3.2 h4.1 h4.2, decide_eq_true hi.1, decide_eq_true hi.2]
  rfl
theorem m253o (h : MW m r W H) {x y X Y : Int} (h1 : -2147483648 ≤ x ∧ x ≤ 2147483647) (h2 : -2147483648 ≤ y ∧ y ≤ 2147483647) (h3 : -2147483648 ≤ X ∧ X ≤ 2147483647) (h4 : -2147483648 ≤ Y ∧ Y ≤ 2147483647) (hi : ¬ (inC W H x y ∧ inC W H X Y)) : d_253 249 (zI x) (zI y) (zI X) (zI Y) m = some false := by
  unfold d_253
  rw [m213 h h1.1 h1.2 h2.1 h2.2, m213 h h3.1 h3.2 h4.1 h4.2]
  by_cases q : inC W H x y
  · rw [decide_eq_true q, decide_eq_false (show ¬ inC W H X Y from fun e => hi ⟨q, e⟩)]
    rfl
  · rw [decide_eq_false q]
    rfl
theorem c12 {x y : Int} (hx : 0 ≤ x) (hy : 0 ≤ y) : d_12 (zI x) (zI y) = some (zI ((x.toNat + 8 * y.toNat : Nat) : Int)) := by
  unfold d_12
  rw [zl_8, zI_mul, zI_add]
  exact congrArg some (congrArg zI (by omega))
theorem m214n (h : MW m r W H) {x y : Int} (hx : 0 ≤ x) (hy : 0 ≤ y) : d_214 249 (zI x) (zI y) m = some (zI ((x.toNat + W * y.toNat : Nat) : Int)) := by
  rw [m214 h, ← cc, show ((x.toNat : Nat) : Int) = x by omega, show ((y.toNat : Nat) : Int) = y by omega]
theorem rb_ok {m' : Mm} {w : Bool} {v : Int32} {code : Int} (h1 : m' 249 0 = zI code) (h2 : code = 0 → bi w = v) (h3 : Qe m m') (h4 : m' 266 = m 266) : RB (some (w, m')) m code v := An.so ⟨h1, h2, h3, h4⟩
theorem rb_t {w : Bool} {v : Int32} {code : Int} (h2 : code = 0 → bi w = v) : RB (some (w, wr m 249 0 (zI code))) m code v := rb_ok wr_eq h2 Qe.told (wr_ne (by decide))
theorem lqb_ok {m1 : Mm} {B : Bool} (q : Qe m m1) : LQ (d_314_24 266 false (bi B) m1) m 0 (bi B) := by
  unfold d_314_24
  rw [if_pos (by decide)]
  refine An.so ⟨rfl, fun _ => ?_, q.tr Qe.out⟩
  show wr m1 266 (ix (bi false)) (bi B) 266 0 = bi B
  rw [show ix (bi false) = 0 from by decide, wr_eq]
theorem P_8 (hn : n ≤ 512) (hI : Inv n m) : ∀ (a1 a2 a3 a4 a5 a6 : Int32), PB n m (d_314 20 a1 a2 a3 a4 a5 a6 266 m) (fun m1 => d_218 249 a1 a2 a3 a4 a5 a6 m1) := by
  intro a c x y X Y
  obtain ⟨a, rfl, ha⟩ := zI_ex a
  obtain ⟨c, rfl, hc⟩ := zI_ex c
  obtain ⟨x, rfl, hx⟩ := zI_ex x
  obtain ⟨y, rfl, hy⟩ := zI_ex y
  obtain ⟨X, rfl, hX⟩ := zI_ex X
  obtain ⟨Y, rfl, hY⟩ := zI_ex Y
  obtain ⟨r, W, H, hG⟩ := hI.2.2.1
  have hW := iG_w hG
  have hW' := hW
  obtain ⟨w1, w2, w3, w4⟩ := hW'
  have hcode : ∀ (p q : Prop) [Decidable p] [Decidable q], (if p then (if q then (0 : Int) else 2) else 1) = 0 ∨ (if p then (if q then (0 : Int) else 2) else 1) = 1 ∨ (if p then (if q then (0 : Int) else 2) else 1) = 2 ∨ (if p then (if q then (0 : Int) else 2) else 1) = 3 := by
    intro p q _ _
    by_cases h1 : p <;> by_cases h2 : q <;> simp [h1, h2]
  by_cases q : (a = 0 ∨ a = 1) ∧ (c = 0 ∨ c = 1)
  · obtain ⟨q1, q2⟩ := q
    by_cases qi : inC W H x y ∧ inC W H X Y
    · obtain ⟨s, hs, rfl⟩ := sd01 q1
      have i1 := qi.1
      have i2 := qi.2
      unfold inC at i1 i2
      have al : alw W H (fun d => r (24 + 64 * s + d)) c x.toNat y.toNat X.toNat Y.toNat = mv W (fun d => r (24 + 64 * s + d)) c x.toNat y.toNat X.toNat Y.toNat := by
        unfold alw; rw [decide_eq_true (by omega), Bool.true_and]
      refine PB_of hI (code := 0) (v := bi (mv W (fun d => r (24 + 64 * s + d)) c x.toNat y.toNat X.toNat Y.toNat)) (Or.inl rfl) ?_ (fun m1 qe => ?_)
      · unfold d_314 d_128
        rw [k175y q1, bE_l, k175y q2, bE_l, k179i hG.2.2 hW hx hy hX hY qi, bE_l, k_r1, c51 gA_23 hs, c12 (by omega) (by omega), c12 (by omega) (by omega)]
        simp only [obs]
        rw [(iG_a hs).1, c21 (iG_a hs).2 (iG_f hG hs) hW (iG_b hG hs).1 (by omega) (by omega) (by omega) (by omega) (by omega) (by omega), al]
        simp only [obs]
        rw [bE_l]
        cases mv W (fun d => r (24 + 64 * s + d)) c x.toNat y.toNat X.toNat Y.toNat
        · rw [if_neg (by decide)]; exact lqb_ok (B := false) (Qe.rf m)
        · rw [if_pos rfl]; exact lqb_ok (B := true) (Qe.rf m)
      · have hG1 := hG.q qe
        unfold d_218 d_218_20 d_218_53
        rw [m212 (by omega) (by omega), m212 hc.1 hc.2]
        simp only [obs]
        rw [decide_eq_true (by omega), decide_eq_true (by omega)]
        simp only [ift, m183, obs]
        rw [m213 hG1.mw.told hx.1 hx.2 hy.1 hy.2, m213 hG1.mw.told hX.1 hX.2 hY.1 hY.2, decide_eq_true i1, decide_eq_true i2]
        simp only [ift, obs, m184, wr_wr]
        rw [m194, m214n hG1.mw.told (by omega) (by omega), m214n hG1.mw.told (by omega) (by omega), t24]
        simp only [obs]
        rw [m203 hG1.mw.told (by omega) (iG_b hG hs).1 (by omega) (by omega) (by omega) (by omega) (by omega) (by omega)]
        simp only [obs]
        exact rb_t (code := 0) (fun _ => rfl)
    · refine PB_of hI (code := 2) (v := 0) (Or.inr (Or.inr (Or.inl rfl))) ?_ (fun m1 qe => ?_)
      · unfold d_314 d_128
        rw [k175y q1, bE_l, k175y q2, bE_l, k179o hG.2.2 hW hx hy hX hY qi, bE_r, bE_r, if_neg (by decide), if_pos rfl]
        exact lq_ex (c := 2) (by decide) (Qe.rf m)
      · have hG1 := hG.q qe
        unfold d_218 d_218_20 d_218_53
        rw [m212 ha.1 ha.2, m212 hc.1 hc.2]
        simp only [obs]
        rw [decide_eq_true (show 0 ≤ a ∧ a ≤ 1 by omega), decide_eq_true (show 0 ≤ c ∧ c ≤ 1 by omega)]
        simp only [ift, m183, obs]
        rw [m213 hG1.mw.told hx.1 hx.2 hy.1 hy.2, m213 hG1.mw.told hX.1 hX.2 hY.1 hY.2]
        by_cases i1 : inC W H x y
        · rw [decide_eq_true i1, decide_eq_false (show ¬ inC W H X Y from fun e => qi ⟨i1, e⟩)]
          simp only [ift, ifn, obs, m184, wr_wr, Bool.false_eq_true]
          exact rb_t (code := 2) (fun e => by cases e)
        · rw [decide_eq_false i1]
          simp only [ift, ifn, obs, m184, wr_wr, Bool.false_eq_true]
          exact rb_t (code := 2) (fun e => by cases e)
  · refine PB_of hI (code := 1) (v := 0) (Or.inr (Or.inl rfl)) ?_ (fun m1 qe => ?_)
    · unfold d_314 d_128
      by_cases q1 : a = 0 ∨ a = 1
      · rw [k175y q1, bE_l, k175n hc.1 hc.2 (fun e => q ⟨q1, e⟩), bE_r, bE_r, if_pos rfl]
        exact lq_ex (c := 1) (by decide) (Qe.rf m)
      · rw [k175n ha.1 ha.2 q1, bE_r, bE_r, if_pos rfl]
        exact lq_ex (c := 1) (by decide) (Qe.rf m)
    · unfold d_218 d_218_20
      rw [m212 ha.1 ha.2, m212 hc.1 hc.2]
      simp only [obs]
      by_cases q1 : a = 0 ∨ a = 1
      · rw [decide_eq_true (show 0 ≤ a ∧ a ≤ 1 by omega), decide_eq_false (show ¬ (0 ≤ c ∧ c ≤ 1) by omega)]
        simp only [ift, ifn, m183, obs, Bool.false_eq_true]
        exact rb_t (code := 1) (fun e => by cases e)
      · rw [decide_eq_false (show ¬ (0 ≤ a ∧ a ≤ 1) by omega)]
        simp only [ift, ifn, m183, obs, Bool.false_eq_true]
        exact rb_t (code := 1) (fun e => by cases e)
end CB
