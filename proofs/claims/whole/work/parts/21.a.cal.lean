/-! Calls, one by one: boards. -/
section CA
variable {m : Mm} {r : Nat → Int} {W H n : Nat}
theorem MW.told (h : MW m r W H) {v : Int32} : MW (wr m 249 0 v) r W H := ⟨h.1.mm (wr_ne (by decide)), h.2⟩
theorem VL.told (h : VL m) {v : Int32} : VL (wr m 249 0 v) := by
  unfold VL; rw [wr_ne (by decide), wr_ne (by decide)]; exact h
theorem iG_w {k : Int} (h : iGam k m r W H) : WH W H := h.2.1.1.2.2
theorem iG_b {k : Int} (h : iGam k m r W H) {s : Nat} (hs : s ≤ 1) : BG W H (fun c => r (24 + 64 * s + c)) := by
  obtain ⟨-, hR, -⟩ := h
  obtain ⟨-, -, -, -, -, -, -, -, -, hS, -⟩ := hR
  exact (hS s hs).2.2.2.2.1
theorem sd01 {a : Int} (h : a = 0 ∨ a = 1) : ∃ s : Nat, s ≤ 1 ∧ a = (s : Int) := ⟨a.toNat, by omega, by omega⟩
/-- a board's cells now, by the class's address -/
theorem iG_f {k : Int} (h : iGam k m r W H) {s : Nat} (hs : s ≤ 1) : FR m (23 + 1 + 5 * s + 1) W H (fun c => r (24 + 64 * s + c)) := (h.2.2.bd hs).1
theorem iG_a {s : Nat} (hs : s ≤ 1) : sh_r (23 + 1 + 5 * s) 0 = 23 + 1 + 5 * s + 1 ∧ fA (23 + 1 + 5 * s + 1) := ⟨(gA_b gA_23 hs).1, (gA_b gA_23 hs).2.2.1⟩
theorem t24 {s : Nat} : (24 : Int) + 64 * (s : Nat) = ((24 + 64 * s : Nat) : Int) := by omega
theorem P_3 (hn : n ≤ 512) (hI : Inv n m) : An (d_123 20 m) (fun v => An (d_303 249 m) (fun r => v = r.1 ∧ Inv (n + 1) r.2)) := by
  have hE := hI.2.2.2.2.2.2.1
  unfold d_123 d_303
  rw [k_r0]
  simp only [wbs]
  refine An.so (An.so ⟨?_, hI.q Qe.told⟩)
  show m 21 2 = wr m 249 0 0 249 25
  rw [wr_nk (by decide)]; exact hE.1
theorem P_4 (hn : n ≤ 512) (hI : Inv n m) : An (d_124 20 m) (fun v => An (d_304 249 m) (fun r => v = r.1 ∧ Inv (n + 1) r.2)) := by
  have hE := hI.2.2.2.2.2.2.1
  unfold d_124 d_304
  rw [k_r0]
  simp only [wbs]
  refine An.so (An.so ⟨?_, hI.q Qe.told⟩)
  show m 21 3 = wr m 249 0 0 249 26
  rw [wr_nk (by decide)]; exact hE.2
theorem P_44 (hn : n ≤ 512) (hI : Inv n m) : ∀ a : Int32, An (d_172 20 a m) (fun v => An (d_310 249 a m) (fun r => v = r.1 ∧ Inv (n + 1) r.2)) := by
  intro a
  obtain ⟨a, rfl, a1, a2⟩ := zI_ex a
  obtain ⟨l, l1, l2, l3, l4⟩ := hI.2.2.2.2.2.2.2
  have n9 : sh_n 248 = 279 := by decide +kernel
  unfold d_172 d_310
  rw [k_r9, n9, m_r29, n_265]
  simp only [wbs]
  have e30 : wr m 249 0 0 249 30 = zI (l : Nat) := by rw [wr_nk (by decide)]; exact l3
  rw [l2, e30, zl_0, zl_1, zI_sub, m185 a1 a2 (by omega) (by omega) (by omega) (by omega)]
  simp only [obs]
  by_cases q : 0 ≤ a ∧ a < l
  · rw [if_neg (by rw [zI_lt a1 a2 (by omega) (by omega)]; omega), if_neg (by rw [zI_le (by omega) (by omega) a1 a2]; omega), zI_on, if_pos (by rw [zI_lt a1 a2 (by omega) (by omega)]; omega), if_pos (zI_in_t q.1 (by omega) (by omega)), decide_eq_true (by omega)]
    rw [if_pos rfl, if_pos (zI_in_t q.1 (by omega) (by omega))]
    have e : ix (zI a) = a.toNat := zI_ix a1 a2
    refine An.so (An.so ⟨?_, hI.q Qe.told⟩)
    show m 248 (ix (zI a)) = wr m 249 0 (zI 0) 265 (ix (zI a))
    rw [wr_ne (by decide), e]
    exact l4 _ (by omega)
  · rw [decide_eq_false (by omega), if_neg (show ¬ false = true by decide)]
    have e : (if zI a < zI 0 then some (-zI 1) else if zI (l : Nat) ≤ zI a then some (-zI 1) else if zI a < Int32.ofNat 279 then (if ev_in (zI a) 279 = true then some (m 248 (ix (zI a))) else none) else some (-zI 1)) = some (-zI 1) := by
      by_cases q1 : a < 0
      · rw [if_pos (by rw [zI_lt a1 a2 (by omega) (by omega)]; omega)]
      · rw [if_neg (by rw [zI_lt a1 a2 (by omega) (by omega)]; omega), if_pos (by rw [zI_le (by omega) (by omega) a1 a2]; omega)]
    rw [e]
    exact An.so (An.so ⟨rfl, hI.q Qe.told⟩)
theorem P_6 (hn : n ≤ 512) (hI : Inv n m) : ∀ (a1 : Int32), PR n m (d_312 20 a1 266 m) (fun m1 => d_216 249 a1 m1) := by
  intro a
  obtain ⟨a, rfl, a1, a2⟩ := zI_ex a
  obtain ⟨r, W, H, hG⟩ := hI.2.2.1
  exact PR_of hI (by split <;> omega) (q6c hG a1 a2) (fun m1 q => q6m (hG.q q) a1 a2)
theorem P_15 (hn : n ≤ 512) (hI : Inv n m) : ∀ (a1 : Int32), PR n m (d_321 20 a1 266 m) (fun m1 => d_226 249 a1 m1) := by
  intro a
  obtain ⟨a, rfl, a1, a2⟩ := zI_ex a
  obtain ⟨r, W, H, hG⟩ := hI.2.2.1
  refine PR_of hI (code := if a = 0 ∨ a = 1 then 0 else 1) (v := zI (tot (W * H) (fun c => r (24 + 64 * a.toNat + c)))) (by split <;> omega) ?_ (fun m1 qe => ?_)
  · unfold d_321 d_136
    by_cases q : a = 0 ∨ a = 1
    · rw [if_pos q, k175y q, bE_l, k_r1]
      obtain ⟨s, hs, rfl⟩ := sd01 q
      rw [c51 gA_23 hs]
      simp only [obs]
      rw [(iG_a hs).1, c33 (iG_a hs).2 (iG_f hG hs) (iG_w hG) (iG_b hG hs).1]
      simp only [obs]
      rw [bE_l]
      exact lq_ok (Qe.rf m)
    · rw [k175n a1 a2 q, bE_r, bE_r, if_neg q, if_pos rfl]
      exact lq_ex (c := 1) (by decide) (Qe.rf m)
  · have hG1 := hG.q qe
    unfold d_226
    rw [m212 a1 a2]
    simp only [obs]
    rw [m183]
    simp only [obs]
    by_cases q : a = 0 ∨ a = 1
    · rw [decide_eq_true (by omega), if_pos rfl, if_pos rfl, if_pos q, m194]
      obtain ⟨s, hs, rfl⟩ := sd01 q
      simp only [obs]
      rw [t24, m209 hG1.mw.told (by omega)]
      simp only [obs]
      exact rq_t (code := 0) (fun _ => rfl)
    · rw [decide_eq_false (by omega), if_neg (by decide), if_neg (by decide), if_neg q]
      exact rq_t (code := 1) (fun e => by cases e)
theorem P_16 (hn : n ≤ 512) (hI : Inv n m) : ∀ (a1 : Int32), PR n m (d_322 20 a1 266 m) (fun m1 => d_228 249 a1 m1) := by
  intro a
  obtain ⟨a, rfl, a1, a2⟩ := zI_ex a
  obtain ⟨r, W, H, hG⟩ := hI.2.2.1
  refine PR_of hI (code := if a = 0 ∨ a = 1 then 0 else 1) (v := zI (if a = 0 then dif (W * H) (fun c => r (24 + c)) (fun c => r (88 + c)) else fdi (W * H) (fun c => r (24 + c)) (fun c => r (88 + c)))) (by split <;> omega) ?_ (fun m1 qe => ?_)
  · have F := gA_F gA_23
    unfold d_322 d_137 d_177 d_177_10
    rw [zl_0, zl_1, k_r1]
    by_cases q : a = 0 ∨ a = 1
    · rw [if_neg (by rw [zI_lt a1 a2 (by decide) (by decide)]; omega), if_pos (by rw [zI_le a1 a2 (by decide) (by decide)]; omega), if_pos q, bE_l]
      unfold d_55 d_54
      rw [F.1, F.2.1, F.2.2.2.2.2.1.1, F.2.2.2.2.2.2.1.1]
      rw [c35 F.2.2.2.2.2.1.2.2.1 hG.2.2.1.1 F.2.2.2.2.2.2.1.2.2.1 hG.2.2.2.1.1 (iG_w hG) (iG_b hG (s := 0) (by decide)).1 (iG_b hG (s := 1) (by decide)).1]
      rw [c36 F.2.2.2.2.2.1.2.2.1 hG.2.2.1.1 F.2.2.2.2.2.2.1.2.2.1 hG.2.2.2.1.1 (iG_w hG) (iG_b hG (s := 0) (by decide)).1 (iG_b hG (s := 1) (by decide)).1]
      simp only [obs]
      by_cases q0 : a = 0
      · rw [if_neg (by rw [q0]; exact fun q => q rfl), bE_l, if_pos q0]
        exact lq_ok (Qe.rf m)
      · rw [if_pos (by rw [zI_inj a1 a2 (by decide) (by decide)]; exact q0), bE_l, if_neg q0]
        exact lq_ok (Qe.rf m)
    · rw [if_neg q]
      by_cases q1 : a < 0
      · rw [if_pos (by rw [zI_lt a1 a2 (by decide) (by decide)]; exact q1), bE_r, bE_r, if_pos rfl]
        exact lq_ex (c := 1) (by decide) (Qe.rf m)
      · rw [if_neg (by rw [zI_lt a1 a2 (by decide) (by decide)]; omega), if_neg (by rw [zI_le a1 a2 (by decide) (by decide)]; omega), bE_r, bE_r, if_pos rfl]
        exact lq_ex (c := 1) (by decide) (Qe.rf m)
  · sorry
end CA
