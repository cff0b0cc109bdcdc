/-! Calls that change the game: settle, dropFog. -/
section HH
variable {m : Mm} {W H n : Nat} {r : Nat → Int}
/-- the board t as the board s -/
def rst (r : Nat → Int) (s t : Nat) : Nat → Int := fun k => if 24 + 64 * t ≤ k ∧ k < 88 + 64 * t then r (24 + 64 * s + (k - (24 + 64 * t))) else if 152 + 64 * t ≤ k ∧ k < 216 + 64 * t then r (152 + 64 * s + (k - (152 + 64 * t))) else if k = 9 + t then r (9 + s) else if k = 17 + t then r (17 + s) else if k = 19 + t then r (19 + s) else if k = 21 + t then r (21 + s) else r k
theorem rst_n {s t j : Nat} (hj : ¬ pB t j) : rst r s t j = r j := by
  unfold rst
  unfold pB at hj
  rw [if_neg (by omega), if_neg (by omega), if_neg (by omega), if_neg (by omega), if_neg (by omega), if_neg (by omega)]
theorem rst_a {s t c : Nat} (hc : c < 64) : rst r s t (24 + 64 * t + c) = r (24 + 64 * s + c) := by
  unfold rst
  rw [if_pos (by omega), show 24 + 64 * t + c - (24 + 64 * t) = c by omega]
theorem rst_b {s t c : Nat} (ht : t ≤ 1) (hc : c < 64) : rst r s t (152 + 64 * t + c) = r (152 + 64 * s + c) := by
  unfold rst
  rw [if_neg (by omega), if_pos (by omega), show 152 + 64 * t + c - (152 + 64 * t) = c by omega]
theorem rst_c {s t : Nat} (ht : t ≤ 1) : rst r s t (9 + t) = r (9 + s) ∧ rst r s t (17 + t) = r (17 + s) ∧ rst r s t (19 + t) = r (19 + s) ∧ rst r s t (21 + t) = r (21 + s) := by
  unfold rst
  refine ⟨?_, ?_, ?_, ?_⟩
  · rw [if_neg (by omega), if_neg (by omega), if_pos rfl]
  · rw [if_neg (by omega), if_neg (by omega), if_neg (by omega), if_pos rfl]
  · rw [if_neg (by omega), if_neg (by omega), if_neg (by omega), if_neg (by omega), if_pos rfl]
  · rw [if_neg (by omega), if_neg (by omega), if_neg (by omega), if_neg (by omega), if_neg (by omega), if_pos rfl]
theorem m276 {M : Mm} (hM : MR M r) {s t : Nat} (hs : s + t = 1) {v : Int32} {Q : Int32 × Mm → Prop} (hQ : ∀ M', MR M' (rst r s t) → (∀ a, a ≠ 250 → M' a = M a) → An (d_189 249 v M') Q) : An (d_276_29 249 (zI (s : Nat)) v (zI (t : Nat)) 0 M) Q := by
  unfold d_276_29
  rw [zl_0]
  refine it_inv (fun j (u : Int32 × Mm) => u.1 = zI (j : Nat) ∧ MR u.2 (fun k => if 24 + 64 * t ≤ k ∧ k < 24 + 64 * t + j then r (24 + 64 * s + (k - (24 + 64 * t))) else if 152 + 64 * t ≤ k ∧ k < 152 + 64 * t + j then r (152 + 64 * s + (k - (152 + 64 * t))) else r k) ∧ ∀ a, a ≠ 250 → u.2 a = M a) _ 64 ⟨rfl, hM.cg (fun k hk => by rw [if_neg (by omega), if_neg (by omega)]), fun _ _ => rfl⟩ (fun j hj u hu => ?_) (fun u hu => ?_)
  · obtain ⟨z, M2⟩ := u
    obtain ⟨u1, u2, u3⟩ := hu
    dsimp only at u1 u2 u3
    subst u1
    show An (s_276_29 249 (zI (s : Nat)) v (zI (t : Nat)) (zI (j : Nat)) M2) _
    unfold s_276_29
    rw [if_neg (by rw [zl_64, zI_le (by omega) (by omega) (by omega) (by omega)]; omega), m194, m194, m195, m195]
    simp only [obs]
    rw [t24, t24, show (152 : Int) + 64 * (t : Nat) = ((152 + 64 * t : Nat) : Int) by omega, show (152 : Int) + 64 * (s : Nat) = ((152 + 64 * s : Nat) : Int) by omega]
    simp only [z_ad]
    refine i_r (by omega) (i_r (by omega) ?_)
    rw [mr_k (by omega) u2, if_neg (by omega), if_neg (by omega), wbs]
    have h1 := u2.pt (k := 24 + 64 * t + j) (by omega) (v := r (24 + 64 * s + j))
    refine i_r (by omega) (i_r (by omega) ?_)
    rw [mr_k (by omega) h1, rs_ne (by omega), if_neg (by omega), if_neg (by omega), wbs]
    have h2 := h1.pt (k := 152 + 64 * t + j) (by omega) (v := r (152 + 64 * s + j))
    rw [wbs]
    refine An.so ⟨by rw [zl_1, zI_add]; rfl, h2.cg (fun k hk => ?_), fun a ha => by dsimp only; rw [wr_r ha, wr_r ha]; exact u3 a ha⟩
    unfold rs
    dsimp only
    by_cases k1 : k = 24 + 64 * t + j
    · rw [if_pos (by omega), if_neg (by omega), if_pos k1]
      exact congrArg r (by omega)
    · by_cases k2 : k = 152 + 64 * t + j
      · rw [if_neg (by omega), if_pos (by omega), if_pos k2]
        exact congrArg r (by omega)
      · rw [if_neg k2, if_neg k1]
        by_cases k3 : 24 + 64 * t ≤ k ∧ k < 24 + 64 * t + j
        · rw [if_pos k3, if_pos (by omega)]
        · rw [if_neg k3, if_neg (show ¬ (24 + 64 * t ≤ k ∧ k < 24 + 64 * t + (j + 1)) by omega)]
          by_cases k4 : 152 + 64 * t ≤ k ∧ k < 152 + 64 * t + j
          · rw [if_pos k4, if_pos (by omega)]
          · rw [if_neg k4, if_neg (by omega)]
  · obtain ⟨z, M2⟩ := u
    obtain ⟨u1, u2, u3⟩ := hu
    dsimp only at u1 u2 u3
    subst u1
    show An (s_276_29 249 (zI (s : Nat)) v (zI (t : Nat)) (zI ((64 : Nat) : Int)) M2) _
    unfold s_276_29 d_276_90
    have z9 : ∀ u : Nat, (9 : Int32) + zI (u : Nat) = zI ((9 + u : Nat) : Int) := fun u => z_ad 9 u
    have z17 : ∀ u : Nat, (17 : Int32) + zI (u : Nat) = zI ((17 + u : Nat) : Int) := fun u => z_ad 17 u
    have z19 : ∀ u : Nat, (19 : Int32) + zI (u : Nat) = zI ((19 + u : Nat) : Int) := fun u => z_ad 19 u
    have z21 : ∀ u : Nat, (21 : Int32) + zI (u : Nat) = zI ((21 + u : Nat) : Int) := fun u => z_ad 21 u
    rw [if_pos (by decide), z9, z9, z17, z17, z19, z19, z21, z21]
    refine An.mo ?_
    refine i_r (by omega) (i_r (by omega) ?_)
    rw [mr_k (by omega) u2, if_neg (by omega), if_neg (by omega), wbs]
    have h1 := u2.pt (k := 9 + t) (by omega) (v := r (9 + s))
    refine i_r (by omega) (i_r (by omega) ?_)
    rw [mr_k (by omega) h1, rs_ne (by omega), if_neg (by omega), if_neg (by omega), wbs]
    have h2 := h1.pt (k := 17 + t) (by omega) (v := r (17 + s))
    refine i_r (by omega) (i_r (by omega) ?_)
    rw [mr_k (by omega) h2, rs_ne (by omega), rs_ne (by omega), if_neg (by omega), if_neg (by omega), wbs]
    have h3 := h2.pt (k := 19 + t) (by omega) (v := r (19 + s))
    refine i_r (by omega) (i_r (by omega) ?_)
    rw [mr_k (by omega) h3, rs_ne (by omega), rs_ne (by omega), rs_ne (by omega), if_neg (by omega), if_neg (by omega), wbs]
    have h4 := h3.pt (k := 21 + t) (by omega) (v := r (21 + s))
    refine (hQ _ (h4.cg (fun k hk => ?_)) (fun a ha => by rw [wr_r ha, wr_r ha, wr_r ha, wr_r ha]; exact u3 a ha)).bd (fun p hp => An.so hp)
    unfold rst rs
    dsimp only
    by_cases k1 : 24 + 64 * t ≤ k ∧ k < 88 + 64 * t
    · rw [if_pos k1, if_neg (by omega), if_neg (by omega), if_neg (by omega), if_neg (by omega), if_pos (by omega)]
    · rw [if_neg k1]
      by_cases k2 : 152 + 64 * t ≤ k ∧ k < 216 + 64 * t
      · rw [if_pos k2, if_neg (by omega), if_neg (by omega), if_neg (by omega), if_neg (by omega), if_neg (by omega), if_pos (by omega)]
      · rw [if_neg k2]
        by_cases k9 : k = 9 + t
        · rw [if_pos k9, if_neg (by omega), if_neg (by omega), if_neg (by omega), if_pos k9]
        · rw [if_neg k9]
          by_cases k17 : k = 17 + t
          · rw [if_pos k17, if_neg (by omega), if_neg (by omega), if_pos k17]
          · rw [if_neg k17]
            by_cases k19 : k = 19 + t
            · rw [if_pos k19, if_neg (by omega), if_pos k19]
            · rw [if_neg k19]
              by_cases k21 : k = 21 + t
              · rw [if_pos k21, if_pos k21]
              · rw [if_neg k21, if_neg k21, if_neg k19, if_neg k17, if_neg k9, if_neg (by omega), if_neg (by omega)]
theorem P_35 (hn : n ≤ 512) (hI : Inv n m) : ∀ (a1 : Int32), PR n m (d_339 20 a1 266 m) (fun m1 => d_276 249 a1 m1) := by
  intro a
  obtain ⟨a, rfl, ha⟩ := zI_ex a
  obtain ⟨r, W, H, hG⟩ := hI.2.2.1
  have hW := iG_w hG
  have hk := hG.2.1.rok
  by_cases qa : a = 0 ∨ a = 1
  · obtain ⟨s, hs, rfl⟩ := sd01 qa
    obtain ⟨t, ht⟩ : ∃ t, s + t = 1 := ⟨1 - s, by omega⟩
    have hRn : RG (n + 1 : Nat) r W H := hG.2.1.mono (by omega)
    have hBs := (RG.iff.mp hRn).2.2.1 s hs
    have hN := WH_n hW
    obtain ⟨d1, d2, d3, d4⟩ := rst_c (r := r) (s := s) (t := t) (by omega)
    have hR' : RG (n + 1 : Nat) (rst r s t) W H := by
      refine hRn.cB (s := t) (by omega) (fun j _ hj => rst_n hj) ?_
      unfold rB
      rw [d1, d2, d3, d4]
      exact ⟨hBs.1, hBs.2.1, hBs.2.2.1, hBs.2.2.2.1.cg (fun c hc => rst_a (by omega)), hBs.2.2.2.2.cg (fun c hc => rst_b (by omega) (by omega))⟩
    have eq : zI 1 - zI (s : Nat) = zI (t : Nat) := by rw [zI_sub]; congr 1; omega
    have b0 := (iG_b hG (s := 0) (by decide)).1
    have b1 := (iG_b hG (s := 1) (by decide)).1
    refine PR_ch hI hG hR' (v := zI (dif (W * H) (fun c => r (24 + c)) (fun c => r (88 + c)))) ?_ (fun M hM _ hc => ?_)
    · unfold d_339 d_157
      rw [k175y qa, bE_l, k_r1, k_r5]
      refine ch_bE (r' := rst r s t) ?_
      refine (c65i hI hG).bd (fun M0 h0 => ?_)
      obtain ⟨g0, k0, f0⟩ := h0
      have d54 : d_54 23 M0 = some (zI (dif (W * H) (fun c => r (24 + c)) (fun c => r (88 + c)))) := by
        have F := gA_F gA_23
        unfold d_54
        rw [F.1, F.2.1, F.2.2.2.2.2.1.1, F.2.2.2.2.2.2.1.1, c35 F.2.2.2.2.2.1.2.2.1 g0.1.1 F.2.2.2.2.2.2.1.2.2.1 g0.2.1.1 hW b0 b1]
        rfl
      rw [d54]
      simp only [obs]
      rw [zl_1, eq, c51 gA_23 (by omega), c51 gA_23 hs]
      simp only [obs]
      refine (c2 (gA_b gA_23 hs) (gA_b gA_23 (s := t) (by omega)) (by omega) (g0.bd hs)).bd (fun m9 h9 => ?_)
      obtain ⟨k9, f9⟩ := h9
      refine An.so ⟨M0, m9, rfl, k0, f0, fun a ha => f9 a (by omega), g0.cB hW hk.1 hk.2.1 hk.2.2 (s := t) (by omega) (fun a a1 a2 a3 => f9 a (by omega)) (fun j _ hj => rst_n hj) ?_⟩
      rw [d1, d2, d3, d4]
      refine k9.cg (fun u v hu hv => ?_) (fun u v hu hv => ?_)
      · exact (rst_a (cell_64 hW hu hv)).symm
      · exact (rst_b (by omega) (cell_64 hW hu hv)).symm
    · show An (d_276 249 (zI (s : Nat)) M) _
      unfold d_276
      rw [m212 ha.1 ha.2, decide_eq_true (by omega)]
      simp only [obs, m183, ift]
      refine m188.bd (fun M0 h0 => ?_)
      have g0 : MR M0 r := hM.told.mm (h0.2 250 (by decide))
      rw [m227 ⟨g0, hG.mw.2⟩ b0 b1]
      simp only [obs]
      rw [wbs, zl_1, eq]
      exact m276 g0 ht (fun M' hM' hf => chM.of hM hc h0 (fun b _ hb => hf b hb) hM')
  · refine PR_of hI (code := 1) (v := 0) (Or.inr (Or.inl rfl)) ?_ (fun m1 qe => ?_)
    · unfold d_339 d_157
      rw [k175n ha.1 ha.2 qa, bE_r, bE_r, if_pos rfl]
      exact lq_ex (c := 1) (by decide) (Qe.rf m)
    · unfold d_276
      rw [m212 ha.1 ha.2, decide_eq_false (by omega)]
      simp only [obs, m183, ifn, Bool.false_eq_true]
      exact rq_t (code := 1) (fun e => by cases e)
/-- the fogs without one -/
def rdf (r : Nat → Int) (i : Nat) : Nat → Int := fun k => if k = 8 then r 8 - 1 else if 280 + 3 * i ≤ k ∧ k < 280 + 3 * ((r 8).toNat - 1) then r (k + 3) else r k
theorem rdf_n {i j : Nat} (hj : ¬ pF j) (h8 : r 8 ≤ 8) : rdf r i j = r j := by
  unfold rdf
  unfold pF at hj
  rw [if_neg (by omega), if_neg (by omega)]
theorem c42 {φ N : Nat} {F L E : Nat → Int} (ho : oA φ) (h : FV m φ (N : Nat) F L E) (hN : N ≤ 8) {i : Nat} (hi : i < N) :
    An (d_42 φ (zI (i : Nat)) m) (fun m' => FV m' φ ((N - 1 : Nat) : Int) (fun k => if i ≤ k then F (k + 1) else F k) (fun k => if i ≤ k then L (k + 1) else L k) (fun k => if i ≤ k then E (k + 1) else E k) ∧ ∀ a, a < φ ∨ φ + 3 < a → m' a = m a) := by
  obtain ⟨a1, a2, a3, a4, a5, a6⟩ := ho
  obtain ⟨h1, h2⟩ := h
  unfold d_42
  rw [h1, if_neg (by rw [zl_0, zI_lt (by omega) (by omega) (by omega) (by omega)]; omega), if_pos (by rw [zI_lt (by omega) (by omega) (by omega) (by omega)]; omega)]
  unfold d_42_15
  refine it_inv (fun j (u : Int32 × Mm) => u.1 = zI ((i + j : Nat) : Int) ∧ u.2 φ = m φ ∧ (∀ k, k < N → u.2 (φ + 1) k = zI (if i ≤ k ∧ k < i + j then F (k + 1) else F k) ∧ u.2 (φ + 2) k = zI (if i ≤ k ∧ k < i + j then L (k + 1) else L k) ∧ u.2 (φ + 3) k = zI (if i ≤ k ∧ k < i + j then E (k + 1) else E k)) ∧ ∀ a, a < φ ∨ φ + 3 < a → u.2 a = m a) _ (N - 1 - i) ⟨rfl, rfl, fun k hk => ?_, fun _ _ => rfl⟩ (fun j hj u hu => ?_) (fun u hu => ?_)
  · rw [if_neg (by omega), if_neg (by omega), if_neg (by omega)]
    exact h2 k (by omega)
  · obtain ⟨z, M⟩ := u
    obtain ⟨u1, u2, u3, u4⟩ := hu
    dsimp only at u1 u2 u3 u4
    subst u1
    obtain ⟨q1, q2, q3⟩ := u3 (i + j + 1) (by omega)
    rw [if_neg (by omega)] at q1 q2 q3
    show An (s_42_15 φ (zI ((i + j : Nat) : Int)) M) _
    unfold s_42_15
    rw [u2, h1, zl_1, zI_add, show ((i + j : Nat) : Int) + 1 = ((i + j + 1 : Nat) : Int) by omega, if_neg (by rw [zI_le (by omega) (by omega) (by omega) (by omega)]; omega), if_neg (by rw [zl_8, zI_le (by omega) (by omega) (by omega) (by omega)]; omega), a1, a2, a3, a4, a5, a6, if_pos (in_k (by omega) (by decide)), if_pos (in_k (by omega) (by decide)), z_ix (by omega), z_ix (by omega), q1, wbs, if_pos (in_k (by omega) (by decide)), if_pos (in_k (by omega) (by decide)), wr_ne (show φ + 2 ≠ φ + 1 by omega), q2, wbs, if_pos (in_k (by omega) (by decide)), if_pos (in_k (by omega) (by decide)), wr_ne (show φ + 3 ≠ φ + 2 by omega), wr_ne (show φ + 3 ≠ φ + 1 by omega), q3, wbs, wbs]
    refine An.so ⟨by dsimp only; exact congrArg zI (by omega), ?_, fun k hk => ?_, fun a ha => ?_⟩
    · dsimp only
      rw [wr_ne (by omega), wr_ne (by omega), wr_ne (by omega)]; exact u2
    · dsimp only
      obtain ⟨o1, o2, o3⟩ := u3 k hk
      by_cases e : k = i + j
      · subst e
        simp only [if_pos (show i ≤ i + j ∧ i + j < i + (j + 1) by omega)]
        refine ⟨?_, ?_, ?_⟩
        · rw [wr_ne (by omega), wr_ne (by omega), wr_eq]
        · rw [wr_ne (by omega), wr_eq]
        · rw [wr_eq]
      · have ec : (i ≤ k ∧ k < i + (j + 1)) ↔ (i ≤ k ∧ k < i + j) := by omega
        simp only [ec]
        refine ⟨?_, ?_, ?_⟩
        · rw [wr_ne (by omega), wr_ne (by omega), wr_nk e]; exact o1
        · rw [wr_ne (by omega), wr_nk e, wr_ne (by omega)]; exact o2
        · rw [wr_nk e, wr_ne (by omega), wr_ne (by omega)]; exact o3
    · dsimp only
      rw [wr_ne (by omega), wr_ne (by omega), wr_ne (by omega)]; exact u4 a ha
  · obtain ⟨z, M⟩ := u
    obtain ⟨u1, u2, u3, u4⟩ := hu
    dsimp only at u1 u2 u3 u4
    subst u1
    show An (s_42_15 φ (zI ((i + (N - 1 - i) : Nat) : Int)) M) _
    unfold s_42_15 d_42_81
    rw [u2, h1, zl_1, zI_add, if_pos (by rw [zI_le (by omega) (by omega) (by omega) (by omega)]; omega), wbs, zI_sub]
    refine An.mo (An.so ⟨⟨?_, fun k hk => ?_⟩, fun a ha => ?_⟩)
    · rw [wr_eq]; exact congrArg zI (by omega)
    · obtain ⟨o1, o2, o3⟩ := u3 k (by omega)
      have ec : (i ≤ k ∧ k < i + (N - 1 - i)) ↔ i ≤ k := by omega
      simp only [ec] at o1 o2 o3
      rw [wr_ne (by omega), wr_ne (by omega), wr_ne (by omega)]
      exact ⟨o1, o2, o3⟩
    · rw [wr_ne (by omega)]; exact u4 a ha
theorem m279 {M : Mm} (hM : MR M r) (h8 : 1 ≤ r 8 ∧ r 8 ≤ 8) {i : Nat} (hi : (i : Int) < r 8) {Q : Int32 × Mm → Prop} (hQ : ∀ M', MR M' (rdf r i) → (∀ a, a ≠ 250 → M' a = M a) → An (d_189 249 (zI (r 8 - 1)) M') Q) : An (d_279_42 249 (zI ((280 + 3 * i : Nat) : Int)) (wr M (sh_r 249 1) (ix (zI ((8 : Nat) : Int))) (zI (r 8 - 1)))) Q := by
  obtain ⟨N, hN⟩ : ∃ N : Nat, r 8 = (N : Nat) + 1 := ⟨(r 8).toNat - 1, by omega⟩
  have eN : (r 8).toNat - 1 = N := by omega
  have h0 := hM.pt (k := 8) (by decide) (v := r 8 - 1)
  unfold d_279_42
  refine it_inv (fun j (u : Int32 × Mm) => u.1 = zI ((280 + 3 * i + j : Nat) : Int) ∧ MR u.2 (fun k => if k = 8 then r 8 - 1 else if 280 + 3 * i ≤ k ∧ k < 280 + 3 * i + j then r (k + 3) else r k) ∧ ∀ a, a ≠ 250 → u.2 a = M a) _ (3 * (N - i)) ⟨rfl, h0.cg (fun k hk => ?_), fun a ha => wr_r ha⟩ (fun j hj u hu => ?_) (fun u hu => ?_)
  · unfold rs
    by_cases k8 : k = 8
    · rw [if_pos k8, if_pos k8]
    · rw [if_neg k8, if_neg k8, if_neg (by omega)]
  · obtain ⟨z, M2⟩ := u
    obtain ⟨u1, u2, u3⟩ := hu
    dsimp only at u1 u2 u3
    subst u1
    show An (s_279_42 249 (zI ((280 + 3 * i + j : Nat) : Int)) M2) _
    unfold s_279_42
    rw [show (8 : Int32) = zI ((8 : Nat) : Int) from rfl, zl_280, z3n]
    refine i_r (by decide) ?_
    rw [mr_k (by decide) u2, if_pos rfl, zI_mul, zI_add, if_neg (by rw [zI_le (by omega) (by omega) (by omega) (by omega)]; omega), z_ad]
    refine i_r (by omega) (i_r (by omega) ?_)
    rw [mr_k (by omega) u2, if_neg (by omega), if_neg (by omega)]
    simp only [wbs]
    refine An.so ⟨by rw [zl_1, zI_add]; rfl, (u2.pt (k := 280 + 3 * i + j) (by omega)).cg (fun k hk => ?_), fun a ha => by dsimp only; rw [wr_r ha]; exact u3 a ha⟩
    unfold rs
    dsimp only
    by_cases k1 : k = 280 + 3 * i + j
    · rw [if_neg (by omega), if_pos (by omega), if_pos k1, k1]
    · rw [if_neg k1]
      by_cases k8 : k = 8
      · rw [if_pos k8, if_pos k8]
      · rw [if_neg k8, if_neg k8]
        by_cases k2 : 280 + 3 * i ≤ k ∧ k < 280 + 3 * i + j
        · rw [if_pos k2, if_pos (by omega)]
        · rw [if_neg k2, if_neg (by omega)]
  · obtain ⟨z, M2⟩ := u
    obtain ⟨u1, u2, u3⟩ := hu
    dsimp only at u1 u2 u3
    subst u1
    show An (s_279_42 249 (zI ((280 + 3 * i + 3 * (N - i) : Nat) : Int)) M2) _
    unfold s_279_42 d_279_79
    rw [show (8 : Int32) = zI ((8 : Nat) : Int) from rfl, zl_280, zl_3]
    refine i_r (by decide) ?_
    rw [mr_k (by decide) u2, if_pos rfl, zI_mul, zI_add, if_pos (by rw [zI_le (by omega) (by omega) (by omega) (by omega)]; omega)]
    refine An.mo (i_r (by decide) ?_)
    refine (hQ M2 (u2.cg (fun k hk => ?_)) u3).bd (fun p hp => An.so hp)
    unfold rdf
    rw [eN]
    by_cases k8 : k = 8
    · rw [if_pos k8, if_pos k8]
    · rw [if_neg k8, if_neg k8]
      by_cases k2 : 280 + 3 * i ≤ k ∧ k < 280 + 3 * i + 3 * (N - i)
      · rw [if_pos k2, if_pos (by omega)]
      · rw [if_neg k2, if_neg (by omega)]
theorem P_38 (hn : n ≤ 512) (hI : Inv n m) : ∀ (a1 : Int32), PR n m (d_342 20 a1 266 m) (fun m1 => d_279 249 a1 m1) := by
  intro a
  obtain ⟨a, rfl, ha⟩ := zI_ex a
  obtain ⟨r, W, H, hG⟩ := hI.2.2.1
  have hW := iG_w hG
  have hk := hG.2.1.rok
  obtain ⟨f1, f2, f3⟩ := iG_F hG
  have h8 : r 8 ≤ 8 := hk.1
  have e34 : m 34 3 = zI (r 8) := by rw [f3]; exact f1.1
  by_cases qa : 0 ≤ a ∧ a < r 8
  · obtain ⟨i, rfl⟩ := Int.eq_ofNat_of_zero_le qa.1
    have hRn : RG (n + 1 : Nat) r W H := hG.2.1.mono (by omega)
    have e8 : rdf r i 8 = r 8 - 1 := if_pos rfl
    have efs : ∀ k w : Nat, (k : Int) < r 8 - 1 → w < 3 → rdf r i (280 + 3 * k + w) = if i ≤ k then r (280 + 3 * (k + 1) + w) else r (280 + 3 * k + w) := fun k w hk hw => by
      unfold rdf
      rw [if_neg (by omega)]
      by_cases q : i ≤ k
      · rw [if_pos (by omega), if_pos q, show 280 + 3 * k + w + 3 = 280 + 3 * (k + 1) + w by omega]
      · rw [if_neg (by omega), if_neg q]
    have ef0 : ∀ k : Nat, (k : Int) < r 8 - 1 → rdf r i (280 + 3 * k) = if i ≤ k then r (280 + 3 * (k + 1)) else r (280 + 3 * k) := fun k hk => efs k 0 hk (by decide)
    have ef1 : ∀ k : Nat, (k : Int) < r 8 - 1 → rdf r i (281 + 3 * k) = if i ≤ k then r (281 + 3 * (k + 1)) else r (281 + 3 * k) := fun k hk => by
      have := efs k 1 hk (by decide)
      rw [show 280 + 3 * k + 1 = 281 + 3 * k by omega, show 280 + 3 * (k + 1) + 1 = 281 + 3 * (k + 1) by omega] at this
      exact this
    have ef2 : ∀ k : Nat, (k : Int) < r 8 - 1 → rdf r i (282 + 3 * k) = if i ≤ k then r (282 + 3 * (k + 1)) else r (282 + 3 * k) := fun k hk => by
      have := efs k 2 hk (by decide)
      rw [show 280 + 3 * k + 2 = 282 + 3 * k by omega, show 280 + 3 * (k + 1) + 2 = 282 + 3 * (k + 1) by omega] at this
      exact this
    have hR' : RG (n + 1 : Nat) (rdf r i) W H := by
      refine hRn.cF (fun j _ hj => rdf_n hj hk.1) ?_
      unfold rF_ FB
      rw [e8]
      refine ⟨by omega, by omega, fun k hk2 => ?_⟩
      dsimp only
      rw [ef0 k (by omega), ef1 k (by omega), ef2 k (by omega)]
      by_cases q : i ≤ k
      · simp only [if_pos q]
        exact f2.2 (k + 1) (by omega)
      · simp only [if_neg q]
        exact f2.2 k (by omega)
    refine PR_ch hI hG hR' (v := zI (r 8 - 1)) ?_ (fun M hM _ hc => ?_)
    · unfold d_342 d_160
      rw [fogs_r, e34, k176y ha.1 ha.2 (by omega) (by omega) qa, bE_l, k_r1, k_r5]
      refine ch_bE (r' := rdf r i) ?_
      refine (c65i hI hG).bd (fun M0 h0 => ?_)
      obtain ⟨g0, k0, f0⟩ := h0
      have f1' : FV M0 34 ((r 8).toNat : Nat) (rF r) (rL r) (rE r) := f1.mm (fun a a1 a2 => f0 a (by omega) (by omega))
      refine (c42 iG_o f1' (by omega) (i := i) (by omega)).bd (fun m4 h4 => ?_)
      obtain ⟨k4, f4⟩ := h4
      have e43 : m4 34 3 = zI (r 8 - 1) := by rw [k4.1]; exact congrArg zI (by omega)
      rw [e43]
      refine An.so ⟨M0, m4, rfl, k0, f0, fun a ha => f4 a (by omega), g0.cF hW hk.2.1 hk.2.2 (fun a a1 a2 a3 => f4 a (by omega)) (fun j _ hj => rdf_n hj hk.1) ?_⟩
      have ecast : (((r 8).toNat - 1 : Nat) : Int) = r 8 - 1 := by omega
      rw [ecast] at k4
      rw [e8]
      exact FV.cg k4 (fun k hk => ef0 k hk) (fun k hk => ef1 k hk) (fun k hk => ef2 k hk)
    · show An (d_279 249 (zI ((i : Nat) : Int)) M) _
      have hN0 := hM.told (v := zI 0)
      unfold d_279 d_238
      rw [show (8 : Int32) = zI ((8 : Nat) : Int) from rfl, if_pos (in_r (by decide)), mr_k (by decide) hM, zl_1, zI_sub, zl_0, m185 ha.1 ha.2 (by decide) (by decide) (by omega) (by omega), decide_eq_true (by omega)]
      simp only [obs, m183, ift]
      refine m188.bd (fun M0 h0 => ?_)
      have g0 : MR M0 r := hM.told.mm (h0.2 250 (by decide))
      refine i_r (by decide) (i_r (by decide) ?_)
      rw [mr_k (by decide) g0, zI_sub, wbs, zl_280, zl_3, zI_mul, zI_add, show (280 : Int) + 3 * ((i : Nat) : Int) = ((280 + 3 * i : Nat) : Int) by omega]
      exact m279 g0 (by omega) (by omega) (fun M' hM' hf => chM.of hM hc h0 (fun b _ hb => hf b hb) hM')
  · refine PR_of hI (code := 1) (v := 0) (Or.inr (Or.inl rfl)) ?_ (fun m1 qe => ?_)
    · unfold d_342 d_160
      rw [fogs_r, e34, k176n ha.1 ha.2 (by omega) (by omega) qa, bE_r, bE_r, if_pos rfl]
      exact lq_ex (c := 1) (by decide) (Qe.rf m)
    · have hG1 := hG.q qe
      unfold d_279 d_238
      rw [show (8 : Int32) = zI ((8 : Nat) : Int) from rfl, if_pos (in_r (by decide)), mr_k (by decide) hG1.1, zl_1, zI_sub, zl_0, m185 ha.1 ha.2 (by decide) (by decide) (by omega) (by omega), decide_eq_false (by omega)]
      simp only [obs, m183, ifn, Bool.false_eq_true]
      exact rq_t (code := 1) (fun e => by cases e)
end HH
