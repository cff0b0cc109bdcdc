/-! Calls that change the game: resign, wind, set. -/
section HD
variable {m : Mm} {W H n : Nat} {r : Nat → Int}
theorem rs_n {r : Nat → Int} {k : Nat} {v : Int} (hk : pS k) : ∀ j, j < 584 → ¬ pS j → rs r k v j = r j := fun j _ hj => rs_ne (fun e => hj (by rw [e]; exact hk))
theorem P_34 (hn : n ≤ 512) (hI : Inv n m) : PR n m (d_338 20 266 m) (fun m1 => d_275 249 m1) := by
  obtain ⟨r, W, H, hG⟩ := hI.2.2.1
  have hW := iG_w hG
  obtain ⟨-, hrS, hrB, -⟩ := RG.iff.mp hG.2.1
  have h4 := hrS.2.2.1
  obtain ⟨s1, s2, s3⟩ := tS_f hG
  have hk := hG.2.1.rok
  by_cases q4 : r 4 = 0
  · have hRn : RG (n + 1 : Nat) r W H := hG.2.1.mono (by omega)
    have hR' : RG (n + 1 : Nat) (rs r 4 (2 - (tS r : Nat))) W H := by
      have h' := (RG.iff.mp hRn).2.1
      refine hRn.cS (rs_n (by unfold pS; omega)) ?_
      unfold rS rs at *
      exact ⟨h'.1, h'.2.1, by rw [if_pos rfl]; omega, h'.2.2.2.1, h'.2.2.2.2.1, h'.2.2.2.2.2.1, fun s hs => by rw [if_neg (by omega)]; exact h'.2.2.2.2.2.2 s hs⟩
    refine PR_ch hI hG hR' (v := zI (1 - (tS r : Nat))) ?_ (fun M hM _ hc => ?_)
    · unfold d_338 d_156
      rw [k180 hG.2.2 h4, if_pos q4, bE_l, k_r1, k_r5]
      refine ch_bE (r' := rs r 4 (2 - (tS r : Nat))) ?_
      refine (c65i hI hG).bd (fun M0 h0 => ?_)
      obtain ⟨g0, k0, f0⟩ := h0
      have e6 : M0 23 6 = zI (tS r : Nat) := by rw [g0.2.2.2.2.2.2.1, s2]
      rw [e6, wbs, zl_1, zI_sub, c57]
      simp only [obs]
      refine An.so ⟨M0, _, rfl, k0, f0, fun a ha => wr_ne (by omega), g0.cS hW hk.1 hk.2.1 hk.2.2 (fun a a1 a2 => wr_ne (by omega)) (rs_n (by unfold pS; omega)) ?_⟩
      obtain ⟨u1, u2, u3, u4, u5, u6, u7, u8⟩ := g0.2.2.2.2.2
      unfold SV
      rw [rs_ne (by decide), rs_ne (by decide), rs_eq, rs_ne (by decide), rs_ne (by decide), rs_ne (by decide), rs_ne (by decide), rs_ne (by decide)]
      refine ⟨by rw [wr_nk (by decide)]; exact u1, by rw [wr_nk (by decide)]; exact u2, ?_, by rw [wr_nk (by decide)]; exact u4, by rw [wr_nk (by decide)]; exact u5, by rw [wr_nk (by decide)]; exact u6, by rw [wr_nk (by decide)]; exact u7, by rw [wr_nk (by decide)]; exact u8⟩
      rw [wr_eq, zl_1, zI_add]
      exact congrArg zI (by omega)
    · show An (d_275 249 M) _
      unfold d_275
      rw [m264 hM h4, decide_eq_true q4]
      simp only [obs, m183, ift]
      refine m188.bd (fun M0 h0 => ?_)
      have g0 : MR M0 r := hM.told.mm (h0.2 250 (by decide))
      rw [z3n, z4n]
      refine i_r (by decide) (i_r (by decide) ?_)
      rw [mr_k (by decide) g0, s2, zl_2, zI_sub, wbs]
      have h1 := g0.pt (k := 4) (by decide) (v := 2 - (tS r : Nat))
      refine i_r (by decide) ?_
      rw [mr_k (by decide) h1, rs_ne (by decide), s2, zl_1, zI_sub]
      exact (chM.of hM hc h0 (fun b _ hb => wr_r hb) h1).bd (fun r2 h2 => An.so h2)
  · refine PR_of hI (code := 1) (v := 0) (Or.inr (Or.inl rfl)) ?_ (fun m1 qe => ?_)
    · unfold d_338 d_156
      rw [k180 hG.2.2 h4, if_neg q4, bE_r, bE_r, if_pos rfl]
      exact lq_ex (c := 1) (by decide) (Qe.rf m)
    · have hG1 := hG.q qe
      unfold d_275
      rw [m264 hG1.1 h4, decide_eq_false q4]
      simp only [obs, m183, ifn, Bool.false_eq_true]
      exact rq_t (code := 1) (fun e => by cases e)
theorem P_36 (hn : n ≤ 512) (hI : Inv n m) : ∀ (a1 a2 : Int32), PR n m (d_340 20 a1 a2 266 m) (fun m1 => d_277 249 a1 a2 m1) := by
  intro c a
  obtain ⟨c, rfl, hc⟩ := zI_ex c
  obtain ⟨a, rfl, ha⟩ := zI_ex a
  obtain ⟨r, W, H, hG⟩ := hI.2.2.1
  have hW := iG_w hG
  obtain ⟨-, hrS, hrB, -⟩ := RG.iff.mp hG.2.1
  have hk := hG.2.1.rok
  by_cases qc : c = 0 ∨ c = 1
  · obtain ⟨s, hs, rfl⟩ := sd01 qc
    have hcl := hrS.2.2.2.2.2.2 s hs
    have z15 : (15 : Int32) + zI (s : Nat) = zI ((15 + s : Nat) : Int) := z_ad 15 s
    by_cases qa : 1 ≤ a ∧ a ≤ 999
    · have ref : ∀ M, MR M r → d_277 249 (zI (s : Nat)) (zI a) M = if 9999 < r (15 + s) + a then d_277_51 249 (zI (s : Nat)) (zI a) 249 false (wr M 249 0 (zI 0)) else d_277_51 249 (zI (s : Nat)) (zI a) 249 true (wr M 249 0 (zI 0)) := fun M hM => by
        unfold d_277
        rw [m212 hc.1 hc.2, decide_eq_true (by omega)]
        simp only [obs, m183, ift]
        rw [zl_1, show (999 : Int32) = zI 999 from rfl, m185 ha.1 ha.2 (by decide) (by decide) (by decide) (by decide), decide_eq_true qa]
        simp only [obs, m184, ift, wr_wr]
        rw [z15, if_pos (in_r (by omega)), mr_k (by omega) hM.told, zI_add, zl_9999]
        by_cases q : 9999 < r (15 + s) + a
        · rw [if_pos q, if_pos (by rw [zI_lt (by omega) (by omega) (by omega) (by omega)]; exact q)]
        · rw [if_neg q, if_neg (by rw [zI_lt (by omega) (by omega) (by omega) (by omega)]; exact q)]
      by_cases q9 : r (15 + s) + a ≤ 9999
      · have hRn : RG (n + 1 : Nat) r W H := hG.2.1.mono (by omega)
        have pS15 : pS (15 + s) := by unfold pS; omega
        have hR' : RG (n + 1 : Nat) (rs r (15 + s) (r (15 + s) + a)) W H := by
          have h' := (RG.iff.mp hRn).2.1
          refine hRn.cS (rs_n pS15) ?_
          unfold rS rs at *
          refine ⟨by rw [if_neg (by omega)]; exact h'.1, by rw [if_neg (by omega)]; exact h'.2.1, by rw [if_neg (by omega)]; exact h'.2.2.1, by rw [if_neg (by omega)]; exact h'.2.2.2.1, by rw [if_neg (by omega)]; exact h'.2.2.2.2.1, by rw [if_neg (by omega)]; exact h'.2.2.2.2.2.1, fun t ht => ?_⟩
          have := h'.2.2.2.2.2.2 t ht
          split <;> omega
        refine PR_ch hI hG hR' (v := zI (r (15 + s) + a)) ?_ (fun M hM _ hc8 => ?_)
        · unfold d_340 d_158
          rw [k175y qc, bE_l, zl_1, show (999 : Int32) = zI 999 from rfl, k177y ha.1 ha.2 (by decide) (by decide) (by decide) (by decide) qa, bE_l, k_r1, k_r5, c52 hG.2.2 hs]
          simp only [obs]
          rw [wbs, zI_add, zl_9999, if_pos (by rw [zI_le (by omega) (by omega) (by omega) (by omega)]; exact q9)]
          refine ch_bE (r' := rs r (15 + s) (r (15 + s) + a)) ?_
          refine (c65i hI hG).bd (fun M0 h0 => ?_)
          obtain ⟨g0, k0, f0⟩ := h0
          rw [c53 hs]
          simp only [obs]
          refine An.so ⟨M0, _, rfl, k0, f0, fun a ha => wr_ne (by omega), g0.cS hW hk.1 hk.2.1 hk.2.2 (fun a a1 a2 => wr_ne (by omega)) (rs_n pS15) ?_⟩
          obtain ⟨u1, u2, u3, u4, u5, u6, u7, u8⟩ := g0.2.2.2.2.2
          unfold SV
          have : s = 0 ∨ s = 1 := by omega
          rcases this with rfl | rfl
          · refine ⟨by rw [wr_nk (by decide), rs_ne (by decide)]; exact u1, by rw [wr_nk (by decide), rs_ne (by decide)]; exact u2, by rw [wr_nk (by decide), rs_ne (by decide)]; exact u3, by rw [wr_nk (by decide), rs_ne (by decide)]; exact u4, by rw [wr_nk (by decide), rs_ne (by decide)]; exact u5, by rw [wr_nk (by decide), rs_ne (by decide)]; exact u6, ?_, by rw [wr_nk (by decide), rs_ne (by decide)]; exact u8⟩
            exact wr_eq.trans (congrArg zI rs_eq.symm)
          · refine ⟨by rw [wr_nk (by decide), rs_ne (by decide)]; exact u1, by rw [wr_nk (by decide), rs_ne (by decide)]; exact u2, by rw [wr_nk (by decide), rs_ne (by decide)]; exact u3, by rw [wr_nk (by decide), rs_ne (by decide)]; exact u4, by rw [wr_nk (by decide), rs_ne (by decide)]; exact u5, by rw [wr_nk (by decide), rs_ne (by decide)]; exact u6, by rw [wr_nk (by decide), rs_ne (by decide)]; exact u7, ?_⟩
            exact wr_eq.trans (congrArg zI rs_eq.symm)
        · show An (d_277 249 (zI (s : Nat)) (zI a) M) _
          rw [ref M hM, if_neg (by omega)]
          unfold d_277_51
          simp only [obs, m184, ift, wr_wr]
          refine m188.bd (fun M0 h0 => ?_)
          have g0 : MR M0 r := hM.told.mm (h0.2 250 (by decide))
          rw [z15]
          refine i_r (by omega) (i_r (by omega) ?_)
          rw [mr_k (by omega) g0, zI_add, wbs]
          have h1 := g0.pt (k := 15 + s) (by omega) (v := r (15 + s) + a)
          refine i_r (by omega) ?_
          rw [mr_k (by omega) h1, rs_eq]
          exact (chM.of hM hc8 h0 (fun b _ hb => wr_r hb) h1).bd (fun r2 h2 => An.so h2)
      · refine PR_of hI (code := 3) (v := 0) (Or.inr (Or.inr (Or.inr rfl))) ?_ (fun m1 qe => ?_)
        · unfold d_340 d_158
          rw [k175y qc, bE_l, zl_1, show (999 : Int32) = zI 999 from rfl, k177y ha.1 ha.2 (by decide) (by decide) (by decide) (by decide) qa, bE_l, k_r1, c52 hG.2.2 hs]
          simp only [obs]
          rw [wbs, zI_add, zl_9999, if_neg (by rw [zI_le (by omega) (by omega) (by omega) (by omega)]; exact q9), bE_r, if_neg (by decide), if_neg (by decide), if_pos rfl]
          exact lq_ex (c := 3) (by decide) (Qe.rf m)
        · have hG1 := hG.q qe
          rw [ref m1 hG1.1, if_pos (by omega)]
          unfold d_277_51
          simp only [obs, m184, ifn, wr_wr, Bool.false_eq_true]
          exact rq_t (code := 3) (fun e => by cases e)
    · refine PR_of hI (code := 2) (v := 0) (Or.inr (Or.inr (Or.inl rfl))) ?_ (fun m1 qe => ?_)
      · unfold d_340 d_158
        rw [k175y qc, bE_l, zl_1, show (999 : Int32) = zI 999 from rfl, k177n ha.1 ha.2 (by decide) (by decide) (by decide) (by decide) qa, bE_r, bE_r, if_neg (by decide), if_pos rfl]
        exact lq_ex (c := 2) (by decide) (Qe.rf m)
      · unfold d_277
        rw [m212 hc.1 hc.2, decide_eq_true (by omega)]
        simp only [obs, m183, ift]
        rw [zl_1, show (999 : Int32) = zI 999 from rfl, m185 ha.1 ha.2 (by decide) (by decide) (by decide) (by decide), decide_eq_false qa]
        simp only [obs, m184, ifn, wr_wr, Bool.false_eq_true]
        exact rq_t (code := 2) (fun e => by cases e)
  · refine PR_of hI (code := 1) (v := 0) (Or.inr (Or.inl rfl)) ?_ (fun m1 qe => ?_)
    · unfold d_340 d_158
      rw [k175n hc.1 hc.2 qc, bE_r, bE_r, if_pos rfl]
      exact lq_ex (c := 1) (by decide) (Qe.rf m)
    · unfold d_277
      rw [m212 hc.1 hc.2, decide_eq_false (by omega)]
      simp only [obs, m183, ifn, Bool.false_eq_true]
      exact rq_t (code := 1) (fun e => by cases e)
/-- what may be set: its bounds -/
def sLo (w : Int) : Int := if w = 6 then 0 else 1
def sHi (w : Int) : Int := if w = 5 then 5 else 9
theorem m280 {w v : Int} (hw : -2147483648 ≤ w ∧ w ≤ 2147483647) (hv : -2147483648 ≤ v ∧ v ≤ 2147483647) : d_280 (zI w) (zI v) = some (decide ((5 ≤ w ∧ w ≤ 7) ∧ sLo w ≤ v ∧ v ≤ sHi w)) := by
  have e41 : ∀ l u : Int, -2147483648 ≤ l → l ≤ 2147483647 → -2147483648 ≤ u → u ≤ 2147483647 → d_280_41 (zI v) (zI l) (zI u) = some (decide (l ≤ v ∧ v ≤ u)) := fun l u l1 l2 u1 u2 => by
    unfold d_280_41
    rw [m185 hv.1 hv.2 l1 l2 u1 u2]
    simp only [obs]
    by_cases q : l ≤ v ∧ v ≤ u
    · rw [decide_eq_true q, if_pos rfl]
    · rw [decide_eq_false q, if_neg (by decide)]
  unfold d_280 d_280_27
  rw [zl_5, zl_7, zl_6, zl_9, zl_0, zl_1, m185 hw.1 hw.2 (by decide) (by decide) (by decide) (by decide)]
  simp only [obs]
  by_cases q : 5 ≤ w ∧ w ≤ 7
  · have : w = 5 ∨ w = 6 ∨ w = 7 := by omega
    rcases this with rfl | rfl | rfl
    · rw [decide_eq_true q, if_pos rfl, if_pos (by decide), if_neg (by decide), e41 1 5 (by decide) (by decide) (by decide) (by decide)]
      congr 1
      rw [decide_eq_decide]
      unfold sLo sHi
      omega
    · rw [decide_eq_true q, if_pos rfl, if_neg (by decide), if_pos (by decide), e41 0 9 (by decide) (by decide) (by decide) (by decide)]
      congr 1
      rw [decide_eq_decide]
      unfold sLo sHi
      omega
    · rw [decide_eq_true q, if_pos rfl, if_pos (by decide), if_pos (by decide), e41 1 9 (by decide) (by decide) (by decide) (by decide)]
      congr 1
      rw [decide_eq_decide]
      unfold sLo sHi
      omega
  · rw [decide_eq_false q, if_neg (by decide), decide_eq_false (fun e => q e.1)]
theorem P_39 (hn : n ≤ 512) (hI : Inv n m) : ∀ (a1 a2 : Int32), PR n m (d_343 20 a1 a2 266 m) (fun m1 => d_281 249 a1 a2 m1) := by
  intro w v
  obtain ⟨w, rfl, hw⟩ := zI_ex w
  obtain ⟨v, rfl, hv⟩ := zI_ex v
  obtain ⟨r, W, H, hG⟩ := hI.2.2.1
  have hW := iG_w hG
  obtain ⟨-, hrS, hrB, -⟩ := RG.iff.mp hG.2.1
  have hk := hG.2.1.rok
  by_cases qi : (5 ≤ w ∧ w ≤ 7) ∧ sLo w ≤ v ∧ v ≤ sHi w
  · have hRn : RG (n + 1 : Nat) r W H := hG.2.1.mono (by omega)
    have h' := (RG.iff.mp hRn).2.1
    have ref : ∀ k : Nat, w = (k : Nat) → 5 ≤ k → k ≤ 7 → ∀ M, MR M r → (∃ c : Nat, c ≤ 8 ∧ M 249 8 = zI (c : Nat)) → An (d_281 249 (zI w) (zI v) M) (fun r2 => r2.2 249 0 = 0 ∧ r2.1 = zI (r k) ∧ r2.2 266 = M 266 ∧ chM M r2.2 r (rs r k v)) := by
      intro k hwk k1 k2 M hM hc
      unfold d_281
      rw [m280 hw hv, decide_eq_true qi]
      simp only [obs, m183, ift]
      refine m188.bd (fun M0 h0 => ?_)
      have g0 : MR M0 r := hM.told.mm (h0.2 250 (by decide))
      rw [hwk]
      refine i_r (by omega) ?_
      rw [mr_k (by omega) g0, wbs]
      refine i_r (by omega) ?_
      rw [wbs]
      exact (chM.of hM hc h0 (fun b _ hb => wr_r hb) (g0.pt (k := k) (by omega) (v := v))).bd (fun r2 h2 => An.so h2)
    have : w = 5 ∨ w = 6 ∨ w = 7 := by omega
    rcases this with rfl | rfl | rfl
    · have qv : 1 ≤ v ∧ v ≤ 5 := by have := qi.2; unfold sLo sHi at this; omega
      refine PR_ch hI hG (r' := rs r 5 v) ?_ (v := zI (r 5)) ?_ (fun M hM _ hc => ref 5 rfl (by decide) (by decide) M hM hc)
      · refine hRn.cS (rs_n (by unfold pS; omega)) ?_
        unfold rS rs at *
        exact ⟨h'.1, h'.2.1, h'.2.2.1, by rw [if_pos rfl]; exact qv, h'.2.2.2.2.1, h'.2.2.2.2.2.1, fun s hs => by rw [if_neg (by omega)]; exact h'.2.2.2.2.2.2 s hs⟩
      · unfold d_343 d_161
        rw [zl_5, zl_7, k177y hw.1 hw.2 (by decide) (by decide) (by decide) (by decide) (by omega), bE_l, if_pos rfl]
        unfold d_162
        rw [zl_1, zl_5, k177y hv.1 hv.2 (by decide) (by decide) (by decide) (by decide) qv, bE_l, k_r1, k_r5]
        refine ch_bE (r' := rs r 5 v) ?_
        obtain ⟨M0, eM, g0, k0, f0⟩ := c65i hI hG
        rw [eM]
        simp only [obs, wbs]
        rw [bE_l, g0.2.2.2.2.2.2.2.2.1]
        refine An.so ⟨M0, _, rfl, k0, f0, fun a ha => wr_ne (by omega), g0.cS hW hk.1 hk.2.1 hk.2.2 (fun a a1 a2 => wr_ne (by omega)) (rs_n (by unfold pS; omega)) ?_⟩
        obtain ⟨u1, u2, u3, u4, u5, u6, u7, u8⟩ := g0.2.2.2.2.2
        unfold SV
        exact ⟨by rw [wr_nk (by decide), rs_ne (by decide)]; exact u1, by rw [wr_nk (by decide), rs_ne (by decide)]; exact u2, by rw [wr_nk (by decide), rs_ne (by decide)]; exact u3, wr_eq.trans (congrArg zI rs_eq.symm), by rw [wr_nk (by decide), rs_ne (by decide)]; exact u5, by rw [wr_nk (by decide), rs_ne (by decide)]; exact u6, by rw [wr_nk (by decide), rs_ne (by decide)]; exact u7, by rw [wr_nk (by decide), rs_ne (by decide)]; exact u8⟩
    · have qv : 0 ≤ v ∧ v ≤ 9 := by have := qi.2; unfold sLo sHi at this; omega
      refine PR_ch hI hG (r' := rs r 6 v) ?_ (v := zI (r 6)) ?_ (fun M hM _ hc => ref 6 rfl (by decide) (by decide) M hM hc)
      · refine hRn.cS (rs_n (by unfold pS; omega)) ?_
        unfold rS rs at *
        exact ⟨h'.1, h'.2.1, h'.2.2.1, h'.2.2.2.1, by rw [if_pos rfl]; exact qv, h'.2.2.2.2.2.1, fun s hs => by rw [if_neg (by omega)]; exact h'.2.2.2.2.2.2 s hs⟩
      · unfold d_343 d_161
        rw [zl_5, zl_7, k177y hw.1 hw.2 (by decide) (by decide) (by decide) (by decide) (by omega), bE_l, if_neg (by decide), if_pos (show zI 6 = 6 from rfl)]
        unfold d_163
        rw [zl_0, zl_9, k177y hv.1 hv.2 (by decide) (by decide) (by decide) (by decide) qv, bE_l, k_r1, k_r5]
        refine ch_bE (r' := rs r 6 v) ?_
        obtain ⟨M0, eM, g0, k0, f0⟩ := c65i hI hG
        rw [eM]
        simp only [obs, wbs]
        rw [bE_l, g0.2.2.2.2.2.2.2.2.2.1]
        refine An.so ⟨M0, _, rfl, k0, f0, fun a ha => wr_ne (by omega), g0.cS hW hk.1 hk.2.1 hk.2.2 (fun a a1 a2 => wr_ne (by omega)) (rs_n (by unfold pS; omega)) ?_⟩
        obtain ⟨u1, u2, u3, u4, u5, u6, u7, u8⟩ := g0.2.2.2.2.2
        unfold SV
        exact ⟨by rw [wr_nk (by decide), rs_ne (by decide)]; exact u1, by rw [wr_nk (by decide), rs_ne (by decide)]; exact u2, by rw [wr_nk (by decide), rs_ne (by decide)]; exact u3, by rw [wr_nk (by decide), rs_ne (by decide)]; exact u4, wr_eq.trans (congrArg zI rs_eq.symm), by rw [wr_nk (by decide), rs_ne (by decide)]; exact u6, by rw [wr_nk (by decide), rs_ne (by decide)]; exact u7, by rw [wr_nk (by decide), rs_ne (by decide)]; exact u8⟩
    · have qv : 1 ≤ v ∧ v ≤ 9 := by have := qi.2; unfold sLo sHi at this; omega
      refine PR_ch hI hG (r' := rs r 7 v) ?_ (v := zI (r 7)) ?_ (fun M hM _ hc => ref 7 rfl (by decide) (by decide) M hM hc)
      · refine hRn.cS (rs_n (by unfold pS; omega)) ?_
        unfold rS rs at *
        exact ⟨h'.1, h'.2.1, h'.2.2.1, h'.2.2.2.1, h'.2.2.2.2.1, by rw [if_pos rfl]; exact qv, fun s hs => by rw [if_neg (by omega)]; exact h'.2.2.2.2.2.2 s hs⟩
      · unfold d_343 d_161
        rw [zl_5, zl_7, k177y hw.1 hw.2 (by decide) (by decide) (by decide) (by decide) (by omega), bE_l, if_neg (by decide), if_neg (by decide)]
        unfold d_164
        rw [zl_1, zl_9, k177y hv.1 hv.2 (by decide) (by decide) (by decide) (by decide) qv, bE_l, k_r1, k_r5]
        refine ch_bE (r' := rs r 7 v) ?_
        obtain ⟨M0, eM, g0, k0, f0⟩ := c65i hI hG
        rw [eM]
        simp only [obs, wbs]
        rw [bE_l, g0.2.2.2.2.2.2.2.2.2.2.1]
        refine An.so ⟨M0, _, rfl, k0, f0, fun a ha => wr_ne (by omega), g0.cS hW hk.1 hk.2.1 hk.2.2 (fun a a1 a2 => wr_ne (by omega)) (rs_n (by unfold pS; omega)) ?_⟩
        obtain ⟨u1, u2, u3, u4, u5, u6, u7, u8⟩ := g0.2.2.2.2.2
        unfold SV
        exact ⟨by rw [wr_nk (by decide), rs_ne (by decide)]; exact u1, by rw [wr_nk (by decide), rs_ne (by decide)]; exact u2, by rw [wr_nk (by decide), rs_ne (by decide)]; exact u3, by rw [wr_nk (by decide), rs_ne (by decide)]; exact u4, by rw [wr_nk (by decide), rs_ne (by decide)]; exact u5, wr_eq.trans (congrArg zI rs_eq.symm), by rw [wr_nk (by decide), rs_ne (by decide)]; exact u7, by rw [wr_nk (by decide), rs_ne (by decide)]; exact u8⟩
  · refine PR_of hI (code := 1) (v := 0) (Or.inr (Or.inl rfl)) ?_ (fun m1 qe => ?_)
    · have e : d_161 20 (zI w) (zI v) m = some (.inr 0, m) := by
        unfold d_161
        by_cases q : 5 ≤ w ∧ w ≤ 7
        · rw [zl_5, zl_7, k177y hw.1 hw.2 (by decide) (by decide) (by decide) (by decide) q, bE_l]
          have : w = 5 ∨ w = 6 ∨ w = 7 := by omega
          rcases this with rfl | rfl | rfl
          · have qv : ¬ (1 ≤ v ∧ v ≤ 5) := fun e => qi ⟨q, by unfold sLo sHi; omega⟩
            rw [if_pos rfl]
            unfold d_162
            rw [zl_1, zl_5, k177n hv.1 hv.2 (by decide) (by decide) (by decide) (by decide) qv, bE_r, bE_r]
          · have qv : ¬ (0 ≤ v ∧ v ≤ 9) := fun e => qi ⟨q, by unfold sLo sHi; omega⟩
            rw [if_neg (by decide), if_pos (show zI 6 = 6 from rfl)]
            unfold d_163
            rw [zl_0, zl_9, k177n hv.1 hv.2 (by decide) (by decide) (by decide) (by decide) qv, bE_r, bE_r]
          · have qv : ¬ (1 ≤ v ∧ v ≤ 9) := fun e => qi ⟨q, by unfold sLo sHi; omega⟩
            rw [if_neg (by decide), if_neg (by decide)]
            unfold d_164
            rw [zl_1, zl_9, k177n hv.1 hv.2 (by decide) (by decide) (by decide) (by decide) qv, bE_r, bE_r]
        · rw [zl_5, zl_7, k177n hw.1 hw.2 (by decide) (by decide) (by decide) (by decide) q, bE_r]
      unfold d_343
      rw [e, bE_r, if_pos rfl]
      exact lq_ex (c := 1) (by decide) (Qe.rf m)
    · unfold d_281
      rw [m280 hw hv, decide_eq_false qi]
      simp only [obs, m183, ifn, Bool.false_eq_true]
      exact rq_t (code := 1) (fun e => by cases e)
end HD
