/-! printRow. -/
section CR
variable {m : Mm} {r : Nat → Int} {W H n : Nat}
def chr (p : Int) : Int32 := (ev_tb 16).getD p.toNat 0
/-- the first cells of a row, as they are printed -/
def rwl (r : Nat → Int) (t W y : Nat) : Nat → List Int32
  | 0 => []
  | x + 1 => rwl r t W y x ++ [chr (r (t + (x + W * y)))]
theorem rwl_l {t y : Nat} : ∀ {k : Nat}, (rwl r t W y k).length = k
  | 0 => rfl
  | k + 1 => by unfold rwl; rw [List.length_append, rwl_l, List.length_singleton]
theorem n_17 : sh_n 17 = 12 := by decide +kernel
theorem n_19 : sh_n 19 = 13 := by decide +kernel
theorem chr_s : ∀ k : Nat, k < 12 → (ev_tb 14).getD k 0 = (ev_tb 16).getD (k + 1) 0 := by decide +kernel
theorem chr_0 : chr 0 = 46 := by decide +kernel
theorem tx17 (h : TX m) {p : Int} (p1 : 1 ≤ p) (p2 : p ≤ 12) : m 17 (p - 1).toNat = chr p := by
  have e := h 14 (by decide) (p - 1).toNat (by show _ < 12; omega)
  rw [show 3 + 14 = 17 from rfl] at e
  rw [e, chr_s _ (by omega)]
  unfold chr
  rw [show (p - 1).toNat + 1 = p.toNat by omega]
theorem tx19 (h : TX m) {p : Int} (p1 : 0 ≤ p) (p2 : p ≤ 12) : m 19 p.toNat = chr p := h 16 (by decide) p.toNat (by show _ < 13; omega)
theorem c166 (hT : TX m) {k : Int} (hG : iGam k m r W H) {s : Nat} (hs : s ≤ 1) {y : Int} (hy : 0 ≤ y ∧ y < H) : An (d_166_35 20 (zI y) (23 + 1 + 5 * s + 1) 0 (wr m 20 10 0)) (fun p => p.1 = .inl (zI (W : Nat)) ∧ OC m p.2 (rwl r (24 + 64 * s) W y.toNat W)) := by
  have hw := iG_w hG
  obtain ⟨w1, w2, w3, w4⟩ := hw
  have hF := iG_f hG hs
  have hb := (iG_b hG hs).1
  unfold d_166_35
  rw [zl_0]
  refine it_inv (fun j (u : Int32 × Mm) => u.1 = zI ((j : Nat) : Int) ∧ OC m u.2 (rwl r (24 + 64 * s) W y.toNat j)) _ W ⟨rfl, OC.nil⟩ (fun j hj u hu => ?_) (fun u hu => ?_)
  · obtain ⟨x, m2⟩ := u
    obtain ⟨rfl, h2⟩ := hu
    change OC m m2 _ at h2
    have hF2 : FR m2 (23 + 1 + 5 * s + 1) W H (fun c => r (24 + 64 * s + c)) := hF.mm (h2.1 _ (by omega) (by omega)) (h2.1 _ (by omega) (by omega))
    have hp := hb j y.toNat hj (by omega)
    show An (s_166_35 20 (zI y) (23 + 1 + 5 * s + 1) (zI ((j : Nat) : Int)) m2) _
    unfold s_166_35
    rw [hF2.1, if_neg (by rw [zI_le (by omega) (by omega) (by omega) (by omega)]; omega), c12 (by omega) hy.1]
    simp only [obs]
    rw [show (((j : Nat) : Int).toNat) = j from Int.toNat_natCast j, c17 (iG_a hs).2 (by omega), hF2.on (iG_w hG) hj (by omega)]
    simp only [obs]
    change 0 ≤ r (24 + 64 * s + (j + W * y.toNat)) ∧ r (24 + 64 * s + (j + W * y.toNat)) ≤ 12 at hp
    have one : ∀ v : Int32, v = chr (r (24 + 64 * s + (j + W * y.toNat))) → An (d_166_86 20 (zI y) (23 + 1 + 5 * s + 1) (zI ((j : Nat) : Int)) 20 v m2) (fun q => match q with | .inl s' => s'.1 = zI (((j + 1 : Nat)) : Int) ∧ OC m s'.2 (rwl r (24 + 64 * s) W y.toNat (j + 1)) | .inr v => v.1 = .inl (zI (W : Nat)) ∧ OC m v.2 (rwl r (24 + 64 * s) W y.toNat W)) := by
      intro v ev
      unfold d_166_86
      refine (c171 h2 (by rw [rwl_l]; omega)).bd (fun m3 h3 => ?_)
      simp only [wbs]
      refine An.so ⟨by rw [zl_1, zI_add]; rfl, ?_⟩
      unfold rwl
      rw [← ev]
      exact h3
    by_cases q : r (24 + 64 * s + (j + W * y.toNat)) = 0
    · rw [q, if_pos (by decide)]
      exact (one 46 (by rw [q, chr_0])).mp (fun v hv => by cases v <;> exact hv)
    · rw [if_neg (by rw [zl_0, zI_lt (by omega) (by omega) (by omega) (by omega)]; omega), n_17, if_neg (by rw [zI_on, zI_le (by omega) (by omega) (by omega) (by omega)]; omega), if_pos (zI_in_t (by omega) (by omega) (by omega)), show ix (zI (r (24 + 64 * s + (j + W * y.toNat)) - 1)) = (r (24 + 64 * s + (j + W * y.toNat)) - 1).toNat from zI_ix (by omega) (by omega), h2.1 17 (by decide) (by decide), tx17 hT (by omega) hp.2]
      exact (one _ rfl).mp (fun v hv => by cases v <;> exact hv)
  · obtain ⟨x, m2⟩ := u
    obtain ⟨rfl, h2⟩ := hu
    change OC m m2 _ at h2
    have hF2 : FR m2 (23 + 1 + 5 * s + 1) W H (fun c => r (24 + 64 * s + c)) := hF.mm (h2.1 _ (by omega) (by omega)) (h2.1 _ (by omega) (by omega))
    show An (s_166_35 20 (zI y) (23 + 1 + 5 * s + 1) (zI ((W : Nat) : Int)) m2) _
    unfold s_166_35 d_166_95
    rw [hF2.1, if_pos (by rw [zI_le (by omega) (by omega) (by omega) (by omega)]; omega)]
    refine An.mo (An.so ⟨?_, h2⟩)
    show Sum.inl (m2 20 10) = Sum.inl (zI (W : Nat))
    rw [h2.2.2.1, rwl_l]
theorem m306 {m1 : Mm} (hT : TX m1) (hG : MW m1 r W H) {s : Nat} (hs : s ≤ 1) (hb : BD W H (fun c => r (24 + 64 * s + c))) {y : Int} (hy : 0 ≤ y ∧ y < H) : An (d_306_43 249 (zI (s : Nat)) (zI y) 0 (wr m1 249 30 0)) (fun p => p.1 = zI (W : Nat) ∧ OM m1 p.2 (rwl r (24 + 64 * s) W y.toNat W)) := by
  have hw := hG.2.2.2
  obtain ⟨w1, w2, w3, w4⟩ := hw
  unfold d_306_43
  rw [zl_0]
  refine it_inv (fun j (u : Int32 × Mm) => u.1 = zI ((j : Nat) : Int) ∧ OM m1 u.2 (rwl r (24 + 64 * s) W y.toNat j)) _ W ⟨rfl, OM.nil⟩ (fun j hj u hu => ?_) (fun u hu => ?_)
  · obtain ⟨x, m2⟩ := u
    obtain ⟨rfl, h2⟩ := hu
    change OM m1 m2 _ at h2
    have hp := hb j y.toNat hj (by omega)
    have c1 := cell_64 hG.2.2.2 hj (show y.toNat < H by omega)
    show An (s_306_43 249 (zI (s : Nat)) (zI y) (zI ((j : Nat) : Int)) m2) _
    unfold s_306_43
    rw [m_r1, n_250, if_pos (by decide), show ix (0 : Int32) = 0 from by decide, h2.rd hG (by decide), hG.2.1, if_neg (by rw [zI_le (by omega) (by omega) (by omega) (by omega)]; omega), m194, m214n (h2.mw hG) (by omega) hy.1, t24, show (((j : Nat) : Int).toNat) = j from Int.toNat_natCast j]
    simp only [obs]
    rw [z_ad, if_pos (in_k (by omega) (by decide)), z_ix (by omega), h2.rd hG (by omega), n_19]
    change 0 ≤ r (24 + 64 * s + (j + W * y.toNat)) ∧ r (24 + 64 * s + (j + W * y.toNat)) ≤ 12 at hp
    rw [if_pos (zI_in_t hp.1 (by omega) (by omega)), show ix (zI (r (24 + 64 * s + (j + W * y.toNat)))) = (r (24 + 64 * s + (j + W * y.toNat))).toNat from zI_ix (by omega) (by omega), h2.1 19 (by decide) (by decide), tx19 hT hp.1 hp.2]
    refine (m305 h2 (by rw [rwl_l]; omega)).bd (fun m3 h3 => ?_)
    simp only [wbs]
    exact An.so ⟨by rw [zl_1, zI_add]; rfl, h3⟩
  · obtain ⟨x, m2⟩ := u
    obtain ⟨rfl, h2⟩ := hu
    change OM m1 m2 _ at h2
    show An (s_306_43 249 (zI (s : Nat)) (zI y) (zI ((W : Nat) : Int)) m2) _
    unfold s_306_43 d_306_85
    rw [m_r1, n_250, if_pos (by decide), show ix (0 : Int32) = 0 from by decide, h2.rd hG (by decide), hG.2.1, if_pos (by rw [zI_le (by omega) (by omega) (by omega) (by omega)]; omega)]
    refine An.mo (An.so ⟨?_, h2⟩)
    show m2 249 30 = zI (W : Nat)
    rw [h2.2.2.1, rwl_l]
/-- a call that prints, both told 0 -/
theorem PR_pr {qc : Option (Int32 × Mm)} {qm : Mm → Option (Int32 × Mm)} {l : List Int32} {v : Int32} (hI : Inv n m) (hl : l.length ≤ 279) (h1 : An qc (fun r1 => r1.1 = 0 ∧ r1.2 266 0 = v ∧ ∃ m0, OC m m0 l ∧ Qe m0 r1.2)) (h2 : ∀ m0 m1, OC m m0 l → Qe m0 m1 → An (qm m1) (fun r2 => r2.1 = v ∧ OM (wr m1 249 0 0) r2.2 l)) : PR n m qc qm := by
  refine h1.mp (fun r1 ⟨a1, a2, m0, a3, a4⟩ => ⟨?_, 0, v, Or.inl rfl, a1, fun _ => a2, ?_⟩)
  · rw [a4.1 2 (Or.inl (by decide)), a3.1 2 (by decide) (by decide)]
  · refine (h2 m0 r1.2 a3 a4).mp (fun r2 ⟨b1, b2⟩ => ⟨?_, fun _ => b1, ?_, hI.pr hl a3 (a4.tr Qe.told) b2⟩)
    · rw [b2.2.1 0 (by decide), wr_eq]; rfl
    · rw [b2.1 266 (by decide) (by decide), wr_ne (by decide)]
theorem P_41 (hn : n ≤ 512) (hI : Inv n m) : ∀ (a1 a2 : Int32), PR n m (d_345 20 a1 a2 266 m) (fun m1 => d_306 249 a1 a2 m1) := by
  intro a y
  obtain ⟨a, rfl, a1, a2⟩ := zI_ex a
  obtain ⟨y, rfl, y1, y2⟩ := zI_ex y
  obtain ⟨r, W, H, hG⟩ := hI.2.2.1
  have hW := iG_w hG
  obtain ⟨w1, w2, w3, w4⟩ := hW
  by_cases q : a = 0 ∨ a = 1
  · obtain ⟨s, hs, rfl⟩ := sd01 q
    have eH : m (23 + 1 + 5 * s + 1) 2 = zI (H : Nat) := (iG_f hG hs).2.1
    by_cases qy : 0 ≤ y ∧ y < H
    · refine PR_pr hI (l := rwl r (24 + 64 * s) W y.toNat W) (v := zI (W : Nat)) (by rw [rwl_l]; omega) ?_ (fun m0 m1 h0 qe => ?_)
      · unfold d_345 d_166
        rw [k175y q, bE_l, k_r1, c51 gA_23 hs]
        simp only [obs]
        rw [(iG_a hs).1, eH, zl_1, zI_sub, zl_0, k177y y1 y2 (by decide) (by decide) (by omega) (by omega) (by omega), bE_l, wbs, ← zl_0]
        refine An_bE (c166 hI.2.1 hG hs qy) (fun v m2 h2 => ?_) (fun e m2 h2 => ?_)
        · obtain ⟨h21, h22⟩ := h2
          dsimp only at h21 h22
          rw [if_pos (by decide), wbs]
          refine An.so ⟨rfl, ?_, m2, h22, Qe.out⟩
          show wr m2 266 (ix 0) v 266 0 = zI (W : Nat)
          rw [show ix (0 : Int32) = 0 from by decide, wr_eq]
          injection h21
        · cases h2.1
      · have hT1 : TX (wr m1 249 0 0) := fun k hk i hi => by rw [wr_ne (by omega), qe.1 (3 + k) (Or.inl (by omega)), h0.1 (3 + k) (by omega) (by omega)]; exact hI.2.1 k hk i hi
        have hM1 : MW (wr m1 249 0 0) r W H := ⟨fun k hk => by rw [wr_ne (by decide), qe.1 250 (by unfold core; decide), h0.1 250 (by decide) (by decide)]; exact hG.1 k hk, hG.mw.2⟩
        have e1 := hM1.1 1 (by decide)
        unfold d_306
        rw [m212 a1 a2]
        simp only [obs]
        rw [m183, decide_eq_true (by omega)]
        simp only [obs, ift]
        rw [← zl_0, m_r1, n_250, if_pos (by decide), show ix (1 : Int32) = 1 from by decide, e1, hG.mw.2.2.1, zl_1, zI_sub, zl_0, m185 y1 y2 (by decide) (by decide) (by omega) (by omega), decide_eq_true (by omega)]
        simp only [obs, m184, ift, wr_wr, wbs]
        rw [← zl_0]
        exact m306 hT1 hM1 hs (iG_b hG hs).1 qy
    · refine PR_of hI (code := 2) (v := 0) (Or.inr (Or.inr (Or.inl rfl))) ?_ (fun m1 qe => ?_)
      · unfold d_345 d_166
        rw [k175y q, bE_l, k_r1, c51 gA_23 hs]
        simp only [obs]
        rw [(iG_a hs).1, eH, zl_1, zI_sub, zl_0, k177n y1 y2 (by decide) (by decide) (by omega) (by omega) (by omega), bE_r, bE_r, if_neg (by decide), if_pos rfl]
        exact lq_ex (c := 2) (by decide) (Qe.rf m)
      · have hG1 := hG.q qe
        have e1 := hG1.mw.told (v := zI 0) |>.1 1 (by decide)
        unfold d_306
        rw [m212 a1 a2]
        simp only [obs]
        rw [m183, decide_eq_true (by omega)]
        simp only [obs, ift]
        rw [m_r1, n_250, if_pos (by decide), show ix (1 : Int32) = 1 from by decide, e1, hG.mw.2.2.1, zl_1, zI_sub, zl_0, m185 y1 y2 (by decide) (by decide) (by omega) (by omega), decide_eq_false (by omega)]
        simp only [obs, m184, ifn, wr_wr, Bool.false_eq_true]
        exact rq_t (code := 2) (fun e => by cases e)
  · refine PR_of hI (code := 1) (v := 0) (Or.inr (Or.inl rfl)) ?_ (fun m1 qe => ?_)
    · unfold d_345 d_166
      rw [k175n a1 a2 q, bE_r, bE_r, if_pos rfl]
      exact lq_ex (c := 1) (by decide) (Qe.rf m)
    · unfold d_306
      rw [m212 a1 a2]
      simp only [obs]
      rw [m183, decide_eq_false (by omega)]
      simp only [obs, ifn, Bool.false_eq_true]
      exact rq_t (code := 1) (fun e => by cases e)
end CR
