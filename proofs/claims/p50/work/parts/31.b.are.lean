/-! Moves are told alike by all questions. -/
section LB
variable {m : Mm} {r : Nat → Int} {W H : Nat} {k : Int}
theorem x_rm {c W : Nat} (hc : c ≤ 1000) (hW : W ≤ 1000) : zI (c : Nat) - zI (c : Nat) / zI (W : Nat) * zI (W : Nat) = zI ((c % W : Nat) : Int) := by
  rw [zI_rm (by omega) (by omega) (by omega) (by omega)]; rfl
theorem x_dv {c W : Nat} (hc : c ≤ 1000) (hW : W ≤ 1000) : zI (c : Nat) / zI (W : Nat) = zI ((c / W : Nat) : Int) := by
  rw [zI_dv (by omega) (by omega) (by omega) (by omega)]; rfl
theorem x_n0 {W : Nat} (h : 0 < W) (hW : W ≤ 1000) : ¬ zI (W : Nat) = 0 := by
  rw [zl_0, zI_inj (by omega) (by omega) (by omega) (by omega)]; omega
theorem vl_0 {p : Int} (h0 : 0 ≤ p) (h : p ≤ 12) : (p = 0 → vl p = 0) ∧ (p ≠ 0 → 1 ≤ vl p) := by
  have key : ∀ n : Nat, n < 13 → (((n : Int) = 0 → vl (n : Int) = 0) ∧ ((n : Int) ≠ 0 → 1 ≤ vl (n : Int))) := by decide
  have := key p.toNat (by omega)
  rw [show ((p.toNat : Nat) : Int) = p by omega] at this
  exact this
theorem a183 (h : iGam k m r W H) {s c : Nat} (hs : s ≤ 1) (hc : c ≤ 1) : An (d_183 20 (zI (s : Nat)) (zI (c : Nat)) m) (fun p => p.1 = true ∧ Qe m p.2) := by
  have hW := iG_w h
  have hW' := hW
  obtain ⟨w1, w2, w3, w4⟩ := hW'
  have hN := WH_n hW
  have B := iG_b h hs
  have A127 : ∀ m', Qe m m' → ∀ x y : Nat, x < W → y < H → d_127 20 (zI (s : Nat)) (zI (x : Nat)) (zI (y : Nat)) m' = some (zI ((fun d => r (24 + 64 * s + d)) (x + W * y) - 1)) := fun m' q x y hx hy => a127 (h.q q) hs hx hy
  have A128 : ∀ m', Qe m m' → ∀ x y X Y : Nat, x < W → y < H → X < W → Y < H → d_128 20 (zI (s : Nat)) (zI (c : Nat)) (zI (x : Nat)) (zI (y : Nat)) (zI (X : Nat)) (zI (Y : Nat)) m' = some (mv W (fun d => r (24 + 64 * s + d)) c x y X Y) := fun m' q x y X Y hx hy hX hY => a128 (h.q q) hs hc hx hy hX hY
  have A129 : ∀ m', Qe m m' → An (d_129 20 (zI (s : Nat)) (zI (c : Nat)) m') (fun p => p.1 = zI ((ml W H (fun d => r (24 + 64 * s + d)) c).length : Nat) ∧ Qe m p.2) := fun m' q => (a129 (h.q q) hs hc).mp (fun p hp => ⟨hp.1, q.tr hp.2⟩)
  have A130 : ∀ m', Qe m m' → ∀ i w : Nat, i < (ml W H (fun d => r (24 + 64 * s + d)) c).length → w ≤ 3 → An (d_130 20 (zI (s : Nat)) (zI (c : Nat)) (zI (i : Nat)) (zI (w : Nat)) m') (fun p => p.1 = zI (pt W H (fun d => r (24 + 64 * s + d)) c ((ml W H (fun d => r (24 + 64 * s + d)) c).getD i (0, 0)) w) ∧ Qe m p.2) := fun m' q i w hi hw => (a130 (h.q q) hs hc hi hw).mp (fun p hp => ⟨hp.1, q.tr hp.2⟩)
  have A134 : ∀ m', Qe m m' → ∀ t : Nat, t ≤ 1 → d_134 20 (zI (s : Nat)) (zI (t : Nat)) m' = some (kx W H (fun d => r (24 + 64 * s + d)) t) := fun m' q t ht => a134 (h.q q) hs ht
  unfold d_183
  rw [a125_0 h, obs, a125_1 h, obs, wbs, zI_mul, ← Int.natCast_mul]
  have hB := ml_837 hW B (s01 hc)
  generalize hb : (fun d => r (24 + 64 * s + d)) = b at *
  have A138 : ∀ m', Qe m m' → ∀ x y X Y : Nat, x < W → y < H → X < W → Y < H → 1 ≤ b (x + W * y) → An (d_138 20 (zI (s : Nat)) (zI (x : Nat)) (zI (y : Nat)) (zI (X : Nat)) (zI (Y : Nat)) m') (fun q => q.1 = zI ((bf W H (wof b (x + W * y)) (X + W * Y) (b (x + W * y)) (x + W * y) 64).1 (X + W * Y)) ∧ Qe m q.2) := by
    intro m' q x y X Y hx hy hX hY hp
    subst hb
    have e := a138 (h.q q) hs hx hy hX hY hp
    dsimp only
    exact e.mp (fun p hp => ⟨hp.1, q.tr hp.2⟩)
  have n0 := x_n0 (W := W) (by omega) (by omega)
  obtain ⟨BD_, KU_, -, -⟩ := B
  have lenp : ∀ x y, x < W * H → y ≤ W * H → (pre W H b c x y).length ≤ 837 := fun x y hx hy => by
    obtain ⟨t, ht⟩ := pre_ml (b := b) (s := c) hx hy
    rw [ht, List.length_append] at hB
    omega
  unfold d_183_24
  rw [zl_0]
  refine it_inv (fun x (u : Int32 × Bool × Int32 × Mm) => u.1 = zI ((pre W H b c x 0).length : Nat) ∧ u.2.1 = (pre W H b c x 0).any (fun p => decide (b p.2 = 1 + 6 * (1 - (c : Int)))) ∧ u.2.2.1 = zI (x : Nat) ∧ Qe m u.2.2.2) _ (W * H) ⟨rfl, rfl, rfl, Qe.rf⟩ (fun x hx u hu => ?_) (fun u hu => ?_)
  · obtain ⟨n, K, z, M⟩ := u
    obtain ⟨u1, u2, u3, u4⟩ := hu
    dsimp only at u1 u2 u3 u4
    subst u1 u2 u3
    show An (s_183_24 20 (zI (s : Nat)) (zI (c : Nat)) (zI (W : Nat)) (zI ((W * H : Nat) : Int)) _ _ (zI (x : Nat)) M) _
    unfold s_183_24
    rw [if_neg (by rw [zI_le (by omega) (by omega) (by omega) (by omega)]; omega)]
    obtain ⟨cx, cy, ce⟩ := cell_of hW hx
    unfold d_183_34
    rw [zl_0]
    refine it_inv (fun y (u : Int32 × Bool × Int32 × Mm) => u.1 = zI ((pre W H b c x y).length : Nat) ∧ u.2.1 = (pre W H b c x y).any (fun p => decide (b p.2 = 1 + 6 * (1 - (c : Int)))) ∧ u.2.2.1 = zI (y : Nat) ∧ Qe m u.2.2.2) _ (W * H) ⟨rfl, rfl, rfl, u4⟩ (fun y hy v hv => ?_) (fun v hv => ?_)
    · obtain ⟨n, K, z, M1⟩ := v
      obtain ⟨v1, v2, v3, v4⟩ := hv
      dsimp only at v1 v2 v3 v4
      subst v1 v2 v3
      obtain ⟨dx, dy, de⟩ := cell_of hW hy
      have lp := lenp x y hx (Nat.le_of_lt hy)
      show An (s_183_34 20 (zI (s : Nat)) (zI (c : Nat)) (zI (W : Nat)) (zI ((W * H : Nat) : Int)) (zI (x : Nat)) _ _ (zI (y : Nat)) M1) _
      unfold s_183_34
      rw [if_neg (by rw [zI_le (by omega) (by omega) (by omega) (by omega)]; omega), if_neg n0, if_neg n0, if_neg n0, if_neg n0, x_rm (by omega) (by omega), x_dv (by omega) (by omega), x_rm (by omega) (by omega), x_dv (by omega) (by omega), A128 M1 v4 _ _ _ _ cx cy dx dy, obs]
      by_cases qm : mv W b c (x % W) (x / W) (y % W) (y / W) = true
      · rw [qm, if_pos rfl]
        obtain ⟨i1, i2⟩ := pre_at (b := b) (s := c) hx hy qm
        obtain ⟨f1, f2, f3⟩ := mv_f qm
        rw [de] at f3
        rw [ce] at f2
        have ps : pre W H b c x (y + 1) = pre W H b c x y ++ [(x, y)] := by rw [pre_s, if_pos qm]
        have by0 := BD_ (y % W) (y / W) dx dy
        have bx0 := BD_ (x % W) (x / W) cx cy
        rw [de] at by0
        rw [ce] at bx0
        rw [show (0 : Int32) = zI ((0 : Nat) : Int) from rfl]
        refine (A130 M1 v4 _ 0 i1 (by decide)).bd (fun p0 hp0 => ?_)
        rw [hp0.1, i2, show pt W H b c (x, y) ((0 : Nat) : Int) = (x : Nat) from rfl, if_neg (fun e => e rfl), show (1 : Int32) = zI ((1 : Nat) : Int) from rfl]
        refine (A130 p0.2 hp0.2 _ 1 i1 (by decide)).bd (fun p1 hp1 => ?_)
        rw [hp1.1, i2, show pt W H b c (x, y) ((1 : Nat) : Int) = (y : Nat) from rfl, if_pos rfl, if_neg (by rw [show zI ((0 : Nat) : Int) = 0 from rfl]; exact n0), if_neg (by rw [show zI ((0 : Nat) : Int) = 0 from rfl]; exact n0), A127 p1.2 hp1.2 _ _ dx dy, obs, de, show (2 : Int32) = zI ((2 : Nat) : Int) from rfl]
        refine (A130 p1.2 hp1.2 _ 2 i1 (by decide)).bd (fun p2 hp2 => ?_)
        have ept : pt W H b c (x, y) ((2 : Nat) : Int) = gn W H b (x % W) (x / W) (y % W) (y / W) := rfl
        rw [hp2.1, i2, ept]
        have gr := gn_r (W := W) (H := H) (b := b) (x := x % W) (y := x / W) (X := y % W) (Y := y / W)
        have gd : gn W H b (x % W) (x / W) (y % W) (y / W) = vl (b y) + (if bq H (b x) (y / W) = true then 8 else 0) := by
          unfold gn; rw [de, ce]
        have gv := vl_0 by0.1 by0.2
        have gw : wo W H b c (x % W) (x / W) (y % W) (y / W) ≤ gn W H b (x % W) (x / W) (y % W) (y / W) := by
          unfold wo
          have := (bg_r W H (mb W H b (x % W) (x / W) (y % W) (y / W)) (1 - (c : Int))).1
          split <;> omega
        have gw2 := wo_r W H b c (x % W) (x / W) (y % W) (y / W)
        have fin : ∀ (K : Bool), K = (pre W H b c x (y + 1)).any (fun p => decide (b p.2 = 1 + 6 * (1 - (c : Int)))) → An (d_183_146 20 (zI (s : Nat)) (zI (c : Nat)) (zI (W : Nat)) (zI ((W * H : Nat) : Int)) (zI ((pre W H b c x y).length : Nat)) (zI (x : Nat)) (zI (y : Nat)) (zI (b y - 1)) (zI (gn W H b (x % W) (x / W) (y % W) (y / W))) K p2.2) (fun v => match v with
          | .inl s' => s'.1 = zI ((pre W H b c x (y + 1)).length : Nat) ∧ s'.2.1 = (pre W H b c x (y + 1)).any (fun p => decide (b p.2 = 1 + 6 * (1 - (c : Int)))) ∧ s'.2.2.1 = zI ((y + 1 : Nat) : Int) ∧ Qe m s'.2.2.2
          | .inr _ => False) := fun K hK => by
          have e76 : An (d_183_176 20 (zI (s : Nat)) (zI (c : Nat)) (zI (W : Nat)) (zI ((W * H : Nat) : Int)) (zI ((pre W H b c x y).length : Nat)) K (zI (x : Nat)) (zI (y : Nat)) (zI (gn W H b (x % W) (x / W) (y % W) (y / W))) p2.2) (fun v => match v with
            | .inl s' => s'.1 = zI ((pre W H b c x (y + 1)).length : Nat) ∧ s'.2.1 = (pre W H b c x (y + 1)).any (fun p => decide (b p.2 = 1 + 6 * (1 - (c : Int)))) ∧ s'.2.2.1 = zI ((y + 1 : Nat) : Int) ∧ Qe m s'.2.2.2
            | .inr _ => False) := by
            unfold d_183_176
            rw [show (3 : Int32) = zI ((3 : Nat) : Int) from rfl]
            refine (A130 p2.2 hp2.2 _ 3 i1 (by decide)).bd (fun p3 hp3 => ?_)
            rw [hp3.1, i2, show pt W H b c (x, y) ((3 : Nat) : Int) = wo W H b c (x % W) (x / W) (y % W) (y / W) from rfl, if_neg (by rw [zI_lt (by omega) (by omega) (by omega) (by omega)]; omega), if_neg n0, if_neg n0, if_neg n0, if_neg n0, x_rm (by omega) (by omega), x_dv (by omega) (by omega), x_rm (by omega) (by omega), x_dv (by omega) (by omega)]
            have bx1 : 1 ≤ b x := by
              have : b x ≠ 0 := fun e => by
                rw [e] at f2
                have : sd 0 = -1 := by decide
                omega
              omega
            refine (A138 p3.2 hp3.2 _ _ _ _ cx cy dx dy (by rw [ce]; exact bx1)).bd (fun p4 hp4 => ?_)
            rw [hp4.1, bf_mv cx cy dx dy qm, if_pos (show zI 1 = 1 from rfl), wbs, wbs, zl_1, zI_add, zI_add]
            refine An.so ⟨?_, hK, rfl, hp4.2⟩
            show zI _ = _
            rw [ps, List.length_append]; rfl
          have e65 : An (d_183_165 20 (zI (s : Nat)) (zI (c : Nat)) (zI (W : Nat)) (zI ((W * H : Nat) : Int)) (zI ((pre W H b c x y).length : Nat)) K (zI (x : Nat)) (zI (y : Nat)) (zI (b y - 1)) (zI (gn W H b (x % W) (x / W) (y % W) (y / W))) p2.2) (fun v => match v with
            | .inl s' => s'.1 = zI ((pre W H b c x (y + 1)).length : Nat) ∧ s'.2.1 = (pre W H b c x (y + 1)).any (fun p => decide (b p.2 = 1 + 6 * (1 - (c : Int)))) ∧ s'.2.2.1 = zI ((y + 1 : Nat) : Int) ∧ Qe m s'.2.2.2
            | .inr _ => False) := by
            unfold d_183_165
            by_cases q : b y - 1 < 0
            · rw [if_pos (by rw [zl_0, zI_lt (by omega) (by omega) (by omega) (by omega)]; exact q)]
              exact e76
            · rw [if_neg (by rw [zl_0, zI_lt (by omega) (by omega) (by omega) (by omega)]; exact q), if_neg (by rw [zl_1, zI_lt (by omega) (by omega) (by omega) (by omega), gd]; have := gv.2 (by omega); split <;> omega)]
              exact e76
          unfold d_183_146
          by_cases q : 0 ≤ b y - 1
          · rw [if_pos (by rw [zl_0, zI_le (by omega) (by omega) (by omega) (by omega)]; exact q)]
            exact e65
          · have v0 := gv.1 (by omega)
            rw [if_neg (by rw [zl_0, zI_le (by omega) (by omega) (by omega) (by omega)]; exact q)]
            by_cases q8 : bq H (b x) (y / W) = true
            · have g8 : gn W H b (x % W) (x / W) (y % W) (y / W) = 8 := by rw [gd, v0, if_pos q8]; rfl
              rw [g8, if_neg (by decide), if_neg (fun e => e rfl)]
              rw [g8] at e65
              exact e65
            · have g8 : gn W H b (x % W) (x / W) (y % W) (y / W) = 0 := by rw [gd, v0, if_neg q8]; rfl
              rw [g8, if_pos (show zI 0 = 0 from rfl)]
              rw [g8] at e65
              exact e65
        have e6 : zI ((6 : Nat) : Int) * (zI ((1 : Nat) : Int) - zI (c : Nat)) = zI (6 * (1 - (c : Int))) := by rw [zI_sub, zI_mul]; rfl
        have any1 : (pre W H b c x (y + 1)).any (fun p => decide (b p.2 = 1 + 6 * (1 - (c : Int)))) = ((pre W H b c x y).any (fun p => decide (b p.2 = 1 + 6 * (1 - (c : Int)))) || decide (b y = 1 + 6 * (1 - (c : Int)))) := by
          rw [ps, List.any_append]
          simp only [List.any_cons, List.any_nil, Bool.or_false]
        generalize (pre W H b c x y).any (fun p => decide (b p.2 = 1 + 6 * (1 - (c : Int)))) = K0 at any1 ⊢
        rw [show (6 : Int32) = zI ((6 : Nat) : Int) from rfl, e6]
        dsimp only
        cases K0
        · rw [if_neg (by decide)]
          by_cases q : b y - 1 = 6 * (1 - (c : Int))
          · rw [if_neg (fun e => e (congrArg zI q))]
            exact (fin true (by rw [any1, decide_eq_true (by omega)]; rfl)).mp (fun v hv => by
              cases v with
              | inl s' => exact hv
              | inr v => exact absurd hv id)
          · rw [if_pos (by rw [zI_inj (by omega) (by omega) (by omega) (by omega)]; exact q)]
            exact (fin false (by rw [any1, decide_eq_false (by omega)]; rfl)).mp (fun v hv => by
              cases v with
              | inl s' => exact hv
              | inr v => exact absurd hv id)
        · rw [if_pos rfl]
          exact (fin true (by rw [any1]; rfl)).mp (fun v hv => by
              cases v with
              | inl s' => exact hv
              | inr v => exact absurd hv id)
      · have ps : pre W H b c x (y + 1) = pre W H b c x y := by rw [pre_s, if_neg qm]
        rw [Bool.eq_false_iff.mpr qm, if_neg (by decide), wbs]
        exact An.so ⟨by rw [ps], by rw [ps], by rw [zl_1, zI_add]; rfl, v4⟩
    · obtain ⟨n, K, z, M1⟩ := v
      obtain ⟨v1, v2, v3, v4⟩ := hv
      dsimp only at v1 v2 v3 v4
      subst v1 v2 v3
      show An (s_183_34 20 (zI (s : Nat)) (zI (c : Nat)) (zI (W : Nat)) (zI ((W * H : Nat) : Int)) (zI (x : Nat)) _ _ (zI ((W * H : Nat) : Int)) M1) _
      unfold s_183_34
      rw [if_pos (by rw [zI_le (by omega) (by omega) (by omega) (by omega)]; omega), wbs]
      exact An.so ⟨rfl, rfl, by rw [zl_1, zI_add]; rfl, v4⟩
  · obtain ⟨n, K, z, M⟩ := u
    obtain ⟨u1, u2, u3, u4⟩ := hu
    dsimp only at u1 u2 u3 u4
    subst u1 u2 u3
    show An (s_183_24 20 (zI (s : Nat)) (zI (c : Nat)) (zI (W : Nat)) (zI ((W * H : Nat) : Int)) _ _ (zI ((W * H : Nat) : Int)) M) _
    unfold s_183_24
    rw [if_pos (by rw [zI_le (by omega) (by omega) (by omega) (by omega)]; omega)]
    unfold d_183_232
    have em : pre W H b c (W * H) 0 = ml W H b c := rfl
    refine An.mo ((A129 M u4).bd (fun p hp => ?_))
    have e1c : (1 : Int32) - zI (c : Nat) = zI ((1 - c : Nat) : Int) := by rw [zl_1, zI_sub]; exact congrArg zI (by omega)
    rw [hp.1, em, if_neg (fun e => e rfl), e1c, A134 p.2 hp.2 (1 - c) (by omega), obs, any_kx hW KU_ hc, show (((1 - c : Nat) : Nat) : Int) = 1 - (c : Int) by omega, if_neg (fun e => e rfl)]
    exact An.so ⟨rfl, hp.2⟩
end LB
