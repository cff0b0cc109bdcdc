/-! Calls, one by one: what a message would be. -/
section CE
variable {m : Mm} {r : Nat → Int} {W H n : Nat}
def inR (z : Int) : Prop := -2147483648 ≤ z ∧ z ≤ 2147483647
/-- whose move it is -/
def tS (r : Nat → Int) : Nat := (r 3).toNat
theorem tS_f {k : Int} (h : iGam k m r W H) : tS r ≤ 1 ∧ r 3 = (tS r : Nat) ∧ tS r + (1 - tS r) = 1 := by
  have := h.2.1.2.2.1
  unfold tS
  omega
theorem Qe.snd {m' : Mm} (h : ∀ a, a < 234 ∨ 236 < a → m' a = m a) : Qe m m' := Qe.of (fun a ha => h a (by unfold core at ha; omega))
theorem k147i {k : Nat} (hk : k ≤ 513) (hG : iGam k m r W H) {x y X Y : Int} (hx : inR x) (hy : inR y) (hX : inR X) (hY : inR Y) (hi : inC W H x y ∧ inC W H X Y) :
    An (d_147 20 (zI x) (zI y) (zI X) (zI Y) m) (fun q => q.1 = .inl () ∧ SN q.2 W H r (tS r) (1 - tS r) x.toNat y.toNat X.toNat Y.toNat (r 2) ∧ Qe m q.2) := by
  obtain ⟨t1, t2, t3⟩ := iG_t hG
  obtain ⟨s1, s2, s3⟩ := tS_f hG
  obtain ⟨i1, i2⟩ := hi
  unfold d_147
  rw [k179i hG.2.2 (iG_w hG) hx hy hX hY ⟨i1, i2⟩, bE_l, c12 (by omega) (by omega), c12 (by omega) (by omega), k_r1, k_r6, t1]
  simp only [obs]
  refine An.bd (c59 gA_23 (by decide) hG.2.2 (k := k) (by omega) hG.2.1 s3 s2 t2 (by omega) (by omega) (by omega) (by omega) (by omega)) (fun m5 h5 => ?_)
  exact An.so ⟨rfl, h5.1, Qe.snd h5.2⟩
theorem k147o {k : Int} (hG : iGam k m r W H) {x y X Y : Int} (hx : inR x) (hy : inR y) (hX : inR X) (hY : inR Y) (hi : ¬ (inC W H x y ∧ inC W H X Y)) : d_147 20 (zI x) (zI y) (zI X) (zI Y) m = some (.inr 0, m) := by
  unfold d_147
  rw [k179o hG.2.2 (iG_w hG) hx hy hX hY hi, bE_r]
theorem fG_r (s x y X Y k : Nat) (hx : x < 8) (hy : y < 8) (hX : X < 8) (hY : Y < 8) : fG r s x y X Y k ≤ 9 := fG_le hx hy hX hY k
/-- the reference's groups laid -/
theorem m243i {k : Nat} (hk : k ≤ 513) (hG : iGam k m r W H) {x y X Y : Nat} (hx : x < W) (hy : y < H) (hX : X < W) (hY : Y < H) : An (d_243 249 (zI ((x + W * y : Nat) : Int)) (zI ((X + W * Y : Nat) : Int)) m) (fun m' => (∀ k, k < 6 → m' 262 k = zI (fG r (tS r) x y X Y k : Nat)) ∧ ∀ a, a ≠ 262 → m' a = m a) := by
  obtain ⟨s1, s2, s3⟩ := tS_f hG
  have hS := hG.2.1.2.2.2.2.2.2.2.2.2.1 (tS r) s1
  exact m243 hG.mw s1 s2 (C := (r (9 + tS r)).toNat) (by omega) (by omega) hx hy hX hY
theorem P_22 (hn : n ≤ 512) (hI : Inv n m) : ∀ (a1 a2 a3 a4 a5 : Int32), PR n m (d_328 20 a1 a2 a3 a4 a5 266 m) (fun m1 => d_254 249 a1 a2 a3 a4 a5 m1) := by
  intro x y X Y g
  obtain ⟨x, rfl, hx⟩ := zI_ex x
  obtain ⟨y, rfl, hy⟩ := zI_ex y
  obtain ⟨X, rfl, hX⟩ := zI_ex X
  obtain ⟨Y, rfl, hY⟩ := zI_ex Y
  obtain ⟨g, rfl, hg⟩ := zI_ex g
  obtain ⟨r, W, H, hG⟩ := hI.2.2.1
  have hW := iG_w hG
  obtain ⟨w1, w2, w3, w4⟩ := hW
  by_cases qg : 0 ≤ g ∧ g < 6
  · by_cases qi : inC W H x y ∧ inC W H X Y
    · have i1 := qi.1
      have i2 := qi.2
      refine PR_of hI (code := 0) (v := zI (fG r (tS r) x.toNat y.toNat X.toNat Y.toNat g.toNat : Nat)) (Or.inl rfl) ?_ (fun m1 qe => ?_)
      · unfold d_328 d_143
        rw [zl_6, k176y hg.1 hg.2 (by decide) (by decide) qg, bE_l]
        obtain ⟨q', e, h1, h2, h3⟩ := k147i (k := n) (by omega) hG hx hy hX hY qi
        obtain ⟨u, m2⟩ := q'
        dsimp only at h1 h2 h3
        subst h1
        rw [e, bE_l, k_r6]
        have e84 : d_84 234 (zI g) m2 = some (zI (fG r (tS r) x.toNat y.toNat X.toNat Y.toNat g.toNat : Nat)) := by
          unfold d_84
          rw [s_r0, s_n5, if_neg (by rw [zl_0, zI_lt hg.1 hg.2 (by decide) (by decide)]; omega), if_neg (by rw [zl_6, zI_le (by decide) (by decide) hg.1 hg.2]; omega), if_pos (zI_in_t qg.1 (by omega) (by omega)), show ix (zI g) = g.toNat from zI_ix hg.1 hg.2, h2.2.2.2.2.2.2.1 _ (by omega)]
        rw [e84]
        simp only [obs]
        rw [bE_l]
        exact lq_ok h3
      · have hG1 := hG.q qe
        unfold d_254 d_252
        rw [zl_0, zl_5, m185 hg.1 hg.2 (by decide) (by decide) (by decide) (by decide), decide_eq_true (by omega)]
        simp only [obs, m183, ift]
        rw [m253i hG1.mw.told hx hy hX hY qi]
        simp only [obs, m184, ift, wr_wr]
        rw [m214n hG1.mw.told (by omega) (by omega), m214n hG1.mw.told (by omega) (by omega)]
        simp only [obs]
        refine An.bd (m243i (k := n) (by omega) (hG1.q Qe.told) (x := x.toNat) (y := y.toNat) (X := X.toNat) (Y := Y.toNat) (by omega) (by omega) (by omega) (by omega)) (fun m7 h7 => ?_)
        rw [m_r15, n_262, if_pos (zI_in_t qg.1 (by omega) (by omega)), show ix (zI g) = g.toNat from zI_ix hg.1 hg.2, h7.1 _ (by omega)]
        refine rq_ok ?_ (fun _ => rfl) (Qe.told.tr (Qe.of (fun a ha => h7.2 a (by unfold core at ha; omega)))) ?_
        · rw [h7.2 249 (by decide), wr_eq]
        · rw [h7.2 266 (by decide), wr_ne (by decide)]
    · refine PR_of hI (code := 2) (v := 0) (Or.inr (Or.inr (Or.inl rfl))) ?_ (fun m1 qe => ?_)
      · unfold d_328 d_143
        rw [zl_6, k176y hg.1 hg.2 (by decide) (by decide) qg, bE_l, k147o hG hx hy hX hY qi, bE_r, bE_r, if_neg (by decide), if_pos rfl]
        exact lq_ex (c := 2) (by decide) (Qe.rf m)
      · have hG1 := hG.q qe
        unfold d_254 d_252
        rw [zl_0, zl_5, m185 hg.1 hg.2 (by decide) (by decide) (by decide) (by decide), decide_eq_true (by omega)]
        simp only [obs, m183, ift]
        rw [m253o hG1.mw.told hx hy hX hY qi]
        simp only [obs, m184, ifn, wr_wr, Bool.false_eq_true]
        exact rq_t (code := 2) (fun e => by cases e)
  · refine PR_of hI (code := 1) (v := 0) (Or.inr (Or.inl rfl)) ?_ (fun m1 qe => ?_)
    · unfold d_328 d_143
      rw [zl_6, k176n hg.1 hg.2 (by decide) (by decide) qg, bE_r, bE_r, if_pos rfl]
      exact lq_ex (c := 1) (by decide) (Qe.rf m)
    · unfold d_254 d_252
      rw [zl_0, zl_5, m185 hg.1 hg.2 (by decide) (by decide) (by decide) (by decide), decide_eq_false (by omega)]
      simp only [obs, m183, ifn, Bool.false_eq_true]
      exact rq_t (code := 1) (fun e => by cases e)
end CE
