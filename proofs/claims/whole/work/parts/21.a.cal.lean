/-! Calls, one by one: boards. -/
section CA
variable {m : Mm} {r : Nat → Int} {W H n : Nat}
theorem MW.told (h : MW m r W H) {v : Int32} : MW (wr m 249 0 v) r W H := ⟨h.1.mm (wr_ne (by decide)), h.2⟩
theorem VL.told (h : VL m) {v : Int32} : VL (wr m 249 0 v) := by
  unfold VL; rw [wr_ne (by decide), wr_ne (by decide)]; exact h
theorem iG_w {k : Int} (h : iGam k m r W H) : WH W H := h.2.1.1.2.2
theorem iG_b {k : Int} (h : iGam k m r W H) {s : Nat} (hs : s ≤ 1) : BG W H (fun c => r (24 + 64 * s + c)) := by
  obtain ⟨-, hR, -⟩ := h
  obtain ⟨-, -, -, -, -, -, -, -, -, hS, -⟩ := hR
  exact (hS s hs).2.2.2.2.1
theorem sd01 {a : Int} (h : a = 0 ∨ a = 1) : ∃ s : Nat, s ≤ 1 ∧ a = (s : Int) := ⟨a.toNat, by omega, by omega⟩
/-- a board's cells now, by the class's address -/
theorem iG_f {k : Int} (h : iGam k m r W H) {s : Nat} (hs : s ≤ 1) : FR m (23 + 1 + 5 * s + 1) W H (fun c => r (24 + 64 * s + c)) := (h.2.2.bd hs).1
theorem iG_a {s : Nat} (hs : s ≤ 1) : sh_r (23 + 1 + 5 * s) 0 = 23 + 1 + 5 * s + 1 ∧ fA (23 + 1 + 5 * s + 1) := ⟨(gA_b gA_23 hs).1, (gA_b gA_23 hs).2.2.1⟩
theorem t24 {s : Nat} : (24 : Int) + 64 * (s : Nat) = ((24 + 64 * s : Nat) : Int) := by omega
theorem m228l (h : MW m r W H) (hb : BD W H (fun c => r (24 + c))) (hb' : BD W H (fun c => r (88 + c))) : d_228_27 249 m 0 = some (zI (fdi (W * H) (fun c => r (24 + c)) (fun c => r (88 + c))), m) := by
  have hN := WH_n h.2.2.2
  have key := it_ff (F := fun s => s_228_27 249 m s) (fun k => zI (k : Nat)) (fun c => decide (¬ r (24 + c) = r (88 + c))) (fun k => (zI (k : Nat), m)) (zI (-1), m) (W * H) (fun k hk hp => ?_) (fun k hk hp => ?_) ?_
  · unfold d_228_27
    rw [zl_0]
    refine Eq.trans key ?_
    unfold fdi
    split <;> rfl
  · have hp : r (24 + k) = r (88 + k) := Classical.not_not.mp (of_decide_eq_false hp)
    unfold s_228_27
    rw [m193 h, zl_0, zl_1, m194, m194]
    simp only [obs]
    rw [if_neg (by rw [zI_le (by omega) (by omega) (by omega) (by omega)]; omega)]
    rw [show (24 + 64 * 0 : Int) = ((24 : Nat) : Int) from rfl, show (24 + 64 * 1 : Int) = ((88 : Nat) : Int) from rfl, z_ad, z_ad, if_pos (m_in (by omega)), if_pos (m_in (by omega)), m_rd h (by omega), m_rd h (by omega), if_pos (by rw [hp])]
    simp only [wbs, zI_add]
    rfl
  · have hp : ¬ r (24 + k) = r (88 + k) := of_decide_eq_true hp
    obtain ⟨x, y, hx, hy, rfl⟩ := mxy h.2.2.2 hk
    have b1 : 0 ≤ r (24 + (x + W * y)) ∧ r (24 + (x + W * y)) ≤ 12 := hb x y hx hy
    have b2 : 0 ≤ r (88 + (x + W * y)) ∧ r (88 + (x + W * y)) ≤ 12 := hb' x y hx hy
    unfold s_228_27
    rw [m193 h, zl_0, zl_1, m194, m194]
    simp only [obs]
    rw [if_neg (by rw [zI_le (by omega) (by omega) (by omega) (by omega)]; omega)]
    rw [show (24 + 64 * 0 : Int) = ((24 : Nat) : Int) from rfl, show (24 + 64 * 1 : Int) = ((88 : Nat) : Int) from rfl, z_ad, z_ad, if_pos (m_in (by omega)), if_pos (m_in (by omega)), m_rd h (by omega), m_rd h (by omega), if_neg (by rw [zI_inj (by omega) (by omega) (by omega) (by omega)]; exact hp)]
  · unfold s_228_27
    rw [m193 h]
    simp only [obs]
    rw [if_pos (by rw [zI_le (by omega) (by omega) (by omega) (by omega)]; omega)]
    rfl
theorem m225l (hv : VL m) (h : MW m r W H) {s : Nat} (hs : s ≤ 1) (hb : BD W H (fun c => r (24 + 64 * s + c))) {b : Int} (hb0 : 0 ≤ b) (hb1 : b ≤ 1) : d_225_33 249 (zI (s : Nat)) (zI b) m 0 0 = some (zI (mat (W * H) (fun c => r (24 + 64 * s + c)) b), m) := by
  have hN := WH_n h.2.2.2
  unfold d_225_33 mat
  refine it_ft (F := fun u => s_225_33 249 (zI (s : Nat)) (zI b) m u.1 u.2) (mk := fun (v : Int) k => (zI v, zI (k : Int))) (out := fun v => (zI v, m)) (n := W * H) (s := 0) (fun k hk v => ?_) (fun v => ?_)
  · obtain ⟨x, y, hx, hy, rfl⟩ := mxy h.2.2.2 hk
    have c1 := cell_64 h.2.2.2 hx hy
    have b1 : 0 ≤ r (24 + 64 * s + (x + W * y)) ∧ r (24 + 64 * s + (x + W * y)) ≤ 12 := hb x y hx hy
    have k := kd_r b1.1 b1.2
    have e := hv.2 _ b1.1 b1.2
    have sr := sd_r (r (24 + 64 * s + (x + W * y)))
    have e2 : m 1 (ix (zI (kd (r (24 + 64 * s + (x + W * y)))))) = zI (vl (r (24 + 64 * s + (x + W * y)))) := by
      show m 1 (zI (kd (r (24 + 64 * s + (x + W * y))))).toNatClampNeg = _
      rw [zI_ix (by omega) (by omega)]; exact e
    dsimp only
    unfold s_225_33
    rw [m193 h, m194]
    simp only [obs, wbs]
    rw [if_neg (by rw [zI_le (by omega) (by omega) (by omega) (by omega)]; omega), t24, z_ad, if_pos (m_in (by omega)), m_rd h (by omega), m196 b1.1 b1.2, m197 b1.1 b1.2]
    simp only [obs]
    by_cases q : sd (r (24 + 64 * s + (x + W * y))) = b
    · rw [if_neg (by rw [q]; exact fun q => q rfl), if_pos (zI_in_t (by omega) (by omega) (by omega)), if_pos q, e2, zl_1, zI_add, zI_add]
      rfl
    · rw [if_pos (by rw [zI_inj (by omega) (by omega) (by omega) (by omega)]; exact q), if_neg q, zl_1, zI_add]
      rfl
  · dsimp only
    unfold s_225_33
    rw [m193 h]
    simp only [obs]
    rw [if_pos (by rw [zI_le (by omega) (by omega) (by omega) (by omega)]; omega)]
theorem P_3 (hn : n ≤ 512) (hI : Inv n m) : An (d_123 20 m) (fun v => An (d_303 249 m) (fun r => v = r.1 ∧ Inv (n + 1) r.2)) := by
  have hE := hI.2.2.2.2.2.2.1
  unfold d_123 d_303
  rw [k_r0]
  simp only [wbs]
  refine An.so (An.so ⟨?_, hI.q Qe.told⟩)
  show m 21 2 = wr m 249 0 0 249 25
  rw [wr_nk (by decide)]; exact hE.1
theorem P_4 (hn : n ≤ 512) (hI : Inv n m) : An (d_124 20 m) (fun v => An (d_304 249 m) (fun r => v = r.1 ∧ Inv (n + 1) r.2)) := by
  have hE := hI.2.2.2.2.2.2.1
  unfold d_124 d_304
  rw [k_r0]
  simp only [wbs]
  refine An.so (An.so ⟨?_, hI.q Qe.told⟩)
  show m 21 3 = wr m 249 0 0 249 26
  rw [wr_nk (by decide)]; exact hE.2
theorem P_44 (hn : n ≤ 512) (hI : Inv n m) : ∀ a : Int32, An (d_172 20 a m) (fun v => An (d_310 249 a m) (fun r => v = r.1 ∧ Inv (n + 1) r.2)) := by
  intro a
  obtain ⟨a, rfl, a1, a2⟩ := zI_ex a
  obtain ⟨l, l1, l2, l3, l4⟩ := hI.2.2.2.2.2.2.2
  have n9 : sh_n 248 = 279 := by decide +kernel
  unfold d_172 d_310
  rw [k_r9, n9, m_r29, n_265]
  simp only [wbs]
  have e30 : wr m 249 0 0 249 30 = zI (l : Nat) := by rw [wr_nk (by decide)]; exact l3
  rw [l2, e30, zl_0, zl_1, zI_sub, m185 a1 a2 (by omega) (by omega) (by omega) (by omega)]
  simp only [obs]
  by_cases q : 0 ≤ a ∧ a < l
  · rw [if_neg (by rw [zI_lt a1 a2 (by omega) (by omega)]; omega), if_neg (by rw [zI_le (by omega) (by omega) a1 a2]; omega), zI_on, if_pos (by rw [zI_lt a1 a2 (by omega) (by omega)]; omega), if_pos (zI_in_t q.1 (by omega) (by omega)), decide_eq_true (by omega)]
    rw [if_pos rfl, if_pos (zI_in_t q.1 (by omega) (by omega))]
    have e : ix (zI a) = a.toNat := zI_ix a1 a2
    refine An.so (An.so ⟨?_, hI.q Qe.told⟩)
    show m 248 (ix (zI a)) = wr m 249 0 (zI 0) 265 (ix (zI a))
    rw [wr_ne (by decide), e]
    exact l4 _ (by omega)
  · rw [decide_eq_false (by omega), if_neg (show ¬ false = true by decide)]
    have e : (if zI a < zI 0 then some (-zI 1) else if zI (l : Nat) ≤ zI a then some (-zI 1) else if zI a < Int32.ofNat 279 then (if ev_in (zI a) 279 = true then some (m 248 (ix (zI a))) else none) else some (-zI 1)) = some (-zI 1) := by
      by_cases q1 : a < 0
      · rw [if_pos (by rw [zI_lt a1 a2 (by omega) (by omega)]; omega)]
      · rw [if_neg (by rw [zI_lt a1 a2 (by omega) (by omega)]; omega), if_pos (by rw [zI_le (by omega) (by omega) a1 a2]; omega)]
    rw [e]
    exact An.so (An.so ⟨rfl, hI.q Qe.told⟩)
theorem P_6 (hn : n ≤ 512) (hI : Inv n m) : ∀ (a1 : Int32), PR n m (d_312 20 a1 266 m) (fun m1 => d_216 249 a1 m1) := by
  intro a
  obtain ⟨a, rfl, a1, a2⟩ := zI_ex a
  obtain ⟨r, W, H, hG⟩ := hI.2.2.1
  exact PR_of hI (by split <;> omega) (q6c hG a1 a2) (fun m1 q => q6m (hG.q q) a1 a2)
theorem P_15 (hn : n ≤ 512) (hI : Inv n m) : ∀ (a1 : Int32), PR n m (d_321 20 a1 266 m) (fun m1 => d_226 249 a1 m1) := by
  intro a
  obtain ⟨a, rfl, a1, a2⟩ := zI_ex a
  obtain ⟨r, W, H, hG⟩ := hI.2.2.1
  refine PR_of hI (code := if a = 0 ∨ a = 1 then 0 else 1) (v := zI (tot (W * H) (fun c => r (24 + 64 * a.toNat + c)))) (by split <;> omega) ?_ (fun m1 qe => ?_)
  · unfold d_321 d_136
    by_cases q : a = 0 ∨ a = 1
    · rw [if_pos q, k175y q, bE_l, k_r1]
      obtain ⟨s, hs, rfl⟩ := sd01 q
      rw [c51 gA_23 hs]
      simp only [obs]
      rw [(iG_a hs).1, c33 (iG_a hs).2 (iG_f hG hs) (iG_w hG) (iG_b hG hs).1]
      simp only [obs]
      rw [bE_l]
      exact lq_ok (Qe.rf m)
    · rw [k175n a1 a2 q, bE_r, bE_r, if_neg q, if_pos rfl]
      exact lq_ex (c := 1) (by decide) (Qe.rf m)
  · have hG1 := hG.q qe
    unfold d_226
    rw [m212 a1 a2]
    simp only [obs]
    rw [m183]
    simp only [obs]
    by_cases q : a = 0 ∨ a = 1
    · rw [decide_eq_true (by omega), if_pos rfl, if_pos rfl, if_pos q, m194]
      obtain ⟨s, hs, rfl⟩ := sd01 q
      simp only [obs]
      rw [t24, m209 hG1.mw.told (by omega)]
      simp only [obs]
      exact rq_t (code := 0) (fun _ => rfl)
    · rw [decide_eq_false (by omega), if_neg (by decide), if_neg (by decide), if_neg q]
      exact rq_t (code := 1) (fun e => by cases e)
theorem P_16 (hn : n ≤ 512) (hI : Inv n m) : ∀ (a1 : Int32), PR n m (d_322 20 a1 266 m) (fun m1 => d_228 249 a1 m1) := by
  intro a
  obtain ⟨a, rfl, a1, a2⟩ := zI_ex a
  obtain ⟨r, W, H, hG⟩ := hI.2.2.1
  refine PR_of hI (code := if a = 0 ∨ a = 1 then 0 else 1) (v := zI (if a = 0 then dif (W * H) (fun c => r (24 + c)) (fun c => r (88 + c)) else fdi (W * H) (fun c => r (24 + c)) (fun c => r (88 + c)))) (by split <;> omega) ?_ (fun m1 qe => ?_)
  · have F := gA_F gA_23
    unfold d_322 d_137 d_177 d_177_10
    rw [zl_0, zl_1, k_r1]
    by_cases q : a = 0 ∨ a = 1
    · rw [if_neg (by rw [zI_lt a1 a2 (by decide) (by decide)]; omega), if_pos (by rw [zI_le a1 a2 (by decide) (by decide)]; omega), if_pos q, bE_l]
      unfold d_55 d_54
      rw [F.1, F.2.1, F.2.2.2.2.2.1.1, F.2.2.2.2.2.2.1.1]
      rw [c35 F.2.2.2.2.2.1.2.2.1 hG.2.2.1.1 F.2.2.2.2.2.2.1.2.2.1 hG.2.2.2.1.1 (iG_w hG) (iG_b hG (s := 0) (by decide)).1 (iG_b hG (s := 1) (by decide)).1]
      rw [c36 F.2.2.2.2.2.1.2.2.1 hG.2.2.1.1 F.2.2.2.2.2.2.1.2.2.1 hG.2.2.2.1.1 (iG_w hG) (iG_b hG (s := 0) (by decide)).1 (iG_b hG (s := 1) (by decide)).1]
      simp only [obs]
      by_cases q0 : a = 0
      · rw [if_neg (by rw [q0]; exact fun q => q rfl), bE_l, if_pos q0]
        exact lq_ok (Qe.rf m)
      · rw [if_pos (by rw [zI_inj a1 a2 (by decide) (by decide)]; exact q0), bE_l, if_neg q0]
        exact lq_ok (Qe.rf m)
    · rw [if_neg q]
      by_cases q1 : a < 0
      · rw [if_pos (by rw [zI_lt a1 a2 (by decide) (by decide)]; exact q1), bE_r, bE_r, if_pos rfl]
        exact lq_ex (c := 1) (by decide) (Qe.rf m)
      · rw [if_neg (by rw [zI_lt a1 a2 (by decide) (by decide)]; omega), if_neg (by rw [zI_le a1 a2 (by decide) (by decide)]; omega), bE_r, bE_r, if_pos rfl]
        exact lq_ex (c := 1) (by decide) (Qe.rf m)
  · have hG1 := hG.q qe
    unfold d_228
    rw [zl_0, zl_1, m185 a1 a2 (by decide) (by decide) (by decide) (by decide)]
    simp only [obs]
    rw [m183]
    simp only [obs]
    by_cases q : a = 0 ∨ a = 1
    · rw [decide_eq_true (by omega), if_pos rfl, if_pos rfl, if_pos q]
      have g1 : BD W H (fun c => r (24 + c)) := (iG_b hG (s := 0) (by decide)).1
      have g2 : BD W H (fun c => r (88 + c)) := (iG_b hG (s := 1) (by decide)).1
      rw [m227 hG1.mw.told g1 g2, ← zl_0, m228l hG1.mw.told g1 g2]
      simp only [obs]
      by_cases q0 : a = 0
      · rw [if_neg (by rw [q0]; exact fun q => q rfl), if_pos q0, zl_0]
        exact rq_t (code := 0) (fun _ => rfl)
      · rw [if_pos (by rw [zl_0, zI_inj a1 a2 (by decide) (by decide)]; exact q0), if_neg q0, zl_0]
        exact rq_t (code := 0) (fun _ => rfl)
    · rw [decide_eq_false (by omega), if_neg (by decide), if_neg (by decide), if_neg q]
      exact rq_t (code := 1) (fun e => by cases e)
theorem P_14 (hn : n ≤ 512) (hI : Inv n m) : ∀ (a1 a2 : Int32), PR n m (d_320 20 a1 a2 266 m) (fun m1 => d_225 249 a1 a2 m1) := by
  intro a c
  obtain ⟨a, rfl, a1, a2⟩ := zI_ex a
  obtain ⟨c, rfl, c1, c2⟩ := zI_ex c
  obtain ⟨r, W, H, hG⟩ := hI.2.2.1
  have hV := hI.1
  refine PR_of hI (code := if (a = 0 ∨ a = 1) ∧ (c = 0 ∨ c = 1) then 0 else 1) (v := zI (mat (W * H) (fun c => r (24 + 64 * a.toNat + c)) c)) (by split <;> omega) ?_ (fun m1 qe => ?_)
  · unfold d_320 d_135
    by_cases q : a = 0 ∨ a = 1
    · rw [k175y q, bE_l, k_r1]
      by_cases q2 : c = 0 ∨ c = 1
      · rw [k175y q2, bE_l, if_pos ⟨q, q2⟩]
        obtain ⟨s, hs, rfl⟩ := sd01 q
        rw [c51 gA_23 hs]
        simp only [obs]
        rw [(iG_a hs).1, c31 hV (iG_a hs).2 (iG_f hG hs) (iG_w hG) (iG_b hG hs).1 (by omega) (by omega)]
        simp only [obs]
        rw [bE_l]
        exact lq_ok (Qe.rf m)
      · rw [k175n c1 c2 q2, bE_r, bE_r, if_pos rfl, if_neg (fun e => q2 e.2)]
        exact lq_ex (c := 1) (by decide) (Qe.rf m)
    · rw [k175n a1 a2 q, bE_r, bE_r, if_pos rfl, if_neg (fun e => q e.1)]
      exact lq_ex (c := 1) (by decide) (Qe.rf m)
  · have hG1 := hG.q qe
    unfold d_225
    rw [m212 a1 a2, m212 c1 c2]
    simp only [obs]
    have no : RQ (d_225_20 249 (zI a) (zI c) 249 false m1) m1 1 (zI (mat (W * H) (fun c => r (24 + 64 * a.toNat + c)) c)) := by
      unfold d_225_20
      rw [m183]
      simp only [obs]
      rw [if_neg (by decide), if_neg (by decide)]
      exact rq_t (code := 1) (fun e => by cases e)
    by_cases q : a = 0 ∨ a = 1
    · rw [decide_eq_true (by omega), if_pos rfl]
      by_cases q2 : c = 0 ∨ c = 1
      · rw [decide_eq_true (by omega), if_pos rfl, if_pos ⟨q, q2⟩]
        unfold d_225_20
        rw [m183]
        simp only [obs]
        simp only [ift]
        obtain ⟨s, hs, rfl⟩ := sd01 q
        rw [m225l (hV.q qe).told hG1.mw.told hs (iG_b hG hs).1 (by omega) (by omega)]
        exact rq_t (code := 0) (fun _ => rfl)
      · rw [decide_eq_false (show ¬ (0 ≤ c ∧ c ≤ 1) by omega), if_neg (by decide), if_neg (fun e => q2 e.2)]
        exact no
    · rw [decide_eq_false (show ¬ (0 ≤ a ∧ a ≤ 1) by omega), if_neg (by decide), if_neg (fun e => q e.1)]
      exact no
theorem P_7 (hn : n ≤ 512) (hI : Inv n m) : ∀ (a1 a2 a3 : Int32), PR n m (d_313 20 a1 a2 a3 266 m) (fun m1 => d_217 249 a1 a2 a3 m1) := by
  intro a x y
  obtain ⟨a, rfl, a1, a2⟩ := zI_ex a
  obtain ⟨x, rfl, x1, x2⟩ := zI_ex x
  obtain ⟨y, rfl, y1, y2⟩ := zI_ex y
  obtain ⟨r, W, H, hG⟩ := hI.2.2.1
  have hW := iG_w hG
  refine PR_of hI (code := if a = 0 ∨ a = 1 then (if 0 ≤ x ∧ x < W ∧ 0 ≤ y ∧ y < H then 0 else 2) else 1) (v := zI (r (24 + 64 * a.toNat + (x.toNat + W * y.toNat)) - 1)) (by (repeat' split) <;> omega) ?_ (fun m1 qe => ?_)
  · unfold d_313 d_127
    by_cases q : a = 0 ∨ a = 1
    · rw [k175y q, bE_l, k178 hG.2.2 hW x1 x2 y1 y2, k_r1, if_pos q]
      obtain ⟨s, hs, rfl⟩ := sd01 q
      by_cases q2 : 0 ≤ x ∧ x < W ∧ 0 ≤ y ∧ y < H
      · rw [if_pos q2, if_pos q2, bE_l, c51 gA_23 hs]
        simp only [obs]
        obtain ⟨w1, w2, w3, w4⟩ := hW
        have e : d_12 (zI x) (zI y) = some (zI ((x.toNat + 8 * y.toNat : Nat) : Int)) := by
          unfold d_12
          rw [zl_8, zI_mul, zI_add]
          exact congrArg some (congrArg zI (by omega))
        rw [e]
        simp only [obs]
        rw [(iG_a hs).1, c17 (iG_a hs).2 (by omega), (iG_f hG hs).on ⟨w1, w2, w3, w4⟩ (by omega) (by omega)]
        simp only [obs]
        rw [bE_l]
        exact lq_ok (Qe.rf m)
      · rw [if_neg q2, if_neg q2, bE_r, bE_r, if_neg (by decide), if_pos rfl]
        exact lq_ex (c := 2) (by decide) (Qe.rf m)
    · rw [k175n a1 a2 q, bE_r, bE_r, if_neg q, if_pos rfl]
      exact lq_ex (c := 1) (by decide) (Qe.rf m)
  · have hG1 := hG.q qe
    unfold d_217
    rw [m212 a1 a2]
    simp only [obs]
    rw [m183]
    simp only [obs]
    by_cases q : a = 0 ∨ a = 1
    · rw [decide_eq_true (by omega), if_pos rfl, if_pos rfl, if_pos q, m213 hG1.mw.told x1 x2 y1 y2]
      obtain ⟨s, hs, rfl⟩ := sd01 q
      simp only [obs]
      rw [m184]
      simp only [obs]
      by_cases q2 : 0 ≤ x ∧ x < W ∧ 0 ≤ y ∧ y < H
      · rw [decide_eq_true q2, if_pos rfl, if_pos rfl, if_pos q2, m194, wr_wr, m214 hG1.mw.told]
        simp only [obs]
        have c1 := cell_64 hW (x := x.toNat) (y := y.toNat) (by omega) (by omega)
        rw [t24, show x + (W : Int) * y = ((x.toNat + W * y.toNat : Nat) : Int) by rw [← cc]; rw [show ((x.toNat : Nat) : Int) = x by omega, show ((y.toNat : Nat) : Int) = y by omega], z_ad, if_pos (m_in (by omega)), m_rd hG1.mw.told (by omega), zl_1, zI_sub]
        exact rq_t (code := 0) (fun _ => rfl)
      · rw [decide_eq_false q2, if_neg (by decide), if_neg (by decide), if_neg q2, wr_wr, zl_2]
        exact rq_t (code := 2) (fun e => by cases e)
    · rw [decide_eq_false (by omega), if_neg (by decide), if_neg (by decide), if_neg q]
      exact rq_t (code := 1) (fun e => by cases e)
end CA
