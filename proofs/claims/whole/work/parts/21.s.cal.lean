/-! attackers, isInCheck. -/
section CT
variable {m : Mm} {r : Nat → Int} {W H n : Nat}
theorem wr_id {a k : Nat} : wr m a k (m a k) = m := by
  funext b
  by_cases h : b = a
  · subst h
    funext j
    rw [wr_at]
    by_cases q : j = k
    · rw [if_pos q, q]
    · rw [if_neg q]
  · rw [wr_ne h]
theorem ln_cg {b b' : Nat → Int} {st : Int} : ∀ {n : Nat} {c : Int}, (∀ k : Nat, 1 ≤ k → k ≤ n → b (c + k * st).toNat = b' (c + k * st).toNat) → ln b st n c = ln b' st n c
  | 0, _, _ => rfl
  | n + 1, c, h => by
    have h1 := h 1 (Nat.le_refl _) (by omega)
    rw [show ((1 : Nat) : Int) * st = st from Int.one_mul st] at h1
    unfold ln
    rw [h1, ln_cg (b := b) (b' := b') (n := n) (c := c + st) (fun k k1 k2 => by
      have := h (k + 1) (by omega) (by omega)
      rw [Int.natCast_add, Int.add_mul, show ((1 : Nat) : Int) * st = st from Int.one_mul st] at this
      rw [show c + st + (k : Int) * st = c + ((k : Int) * st + st) by omega]
      exact this)]
theorem opn_off {b b' : Nat → Int} {x y X Y : Nat} (hx : x < W) (hy : y < H) (hX : X < W) (hY : Y < H) (hl : (x = X ∧ ¬ y = Y) ∨ (¬ x = X ∧ y = Y) ∨ (ab ((X : Int) - x) = ab ((Y : Int) - y) ∧ ¬ x = X)) (h : ∀ j, j ≠ X + W * Y → b' j = b j) : opn W b' x y X Y = opn W b x y X Y := by
  obtain ⟨l1, l2, l3⟩ := line_f (x := x) (y := y) (X := X) (Y := Y) (by omega)
  have s1 := sn_f ((X : Int) - x)
  have s2 := sn_f ((Y : Int) - y)
  unfold opn
  generalize mx (ab ((X : Int) - x)) (ab ((Y : Int) - y)) = M at *
  have t1 : sn ((X : Int) - x) = -1 ∨ sn ((X : Int) - x) = 0 ∨ sn ((X : Int) - x) = 1 := by omega
  have t2 : sn ((Y : Int) - y) = -1 ∨ sn ((Y : Int) - y) = 0 ∨ sn ((Y : Int) - y) = 1 := by omega
  have t3 : ¬ (sn ((X : Int) - x) = 0 ∧ sn ((Y : Int) - y) = 0) := by omega
  generalize sn ((X : Int) - x) = sx at *
  generalize sn ((Y : Int) - y) = sy at *
  refine ln_cg (fun k k1 k2 => h _ ?_)
  have u1 : 0 ≤ (x : Int) + k * sx ∧ (x : Int) + k * sx < W ∧ (sx ≠ 0 → (x : Int) + k * sx ≠ X) := by
    rcases t1 with rfl | rfl | rfl <;> refine ⟨by omega, by omega, fun _ => by omega⟩
  have u2 : 0 ≤ (y : Int) + k * sy ∧ (y : Int) + k * sy < H ∧ (sy ≠ 0 → (y : Int) + k * sy ≠ Y) := by
    rcases t2 with rfl | rfl | rfl <;> refine ⟨by omega, by omega, fun _ => by omega⟩
  obtain ⟨u, hu⟩ := Int.eq_ofNat_of_zero_le u1.1
  obtain ⟨v, hv⟩ := Int.eq_ofNat_of_zero_le u2.1
  have e : ((x + W * y : Nat) : Int) + (k : Int) * (sx + W * sy) = ((u + W * v : Nat) : Int) := by
    rw [← cc, ← cc, ← hu, ← hv, Int.mul_add, Int.mul_add, Int.mul_left_comm]
    omega
  rw [e, Int.toNat_natCast]
  intro q
  have q2 := (cell_in (y := v) (Y := Y) (show u < W by omega) hX).mp q
  by_cases z : sx = 0
  · exact u2.2.2 (fun z2 => t3 ⟨z, z2⟩) (by omega)
  · exact u1.2.2 z (by omega)
theorem dA {P : Prop} [Decidable P] {u v : Bool} (h : P → u = v) : (decide P && u) = (decide P && v) := by
  by_cases q : P
  · rw [h q]
  · rw [decide_eq_false q, Bool.false_and, Bool.false_and]
theorem rc_off {b b' : Nat → Int} {p : Int} {x y X Y : Nat} {tk : Bool} (hx : x < W) (hy : y < H) (hX : X < W) (hY : Y < H) (h : ∀ j, j ≠ X + W * Y → b' j = b j) : rc W b' p x y X Y tk = rc W b p x y X Y tk := by
  unfold rc
  by_cases q1 : kd p = 1
  · rw [if_pos q1, if_pos q1]
  · rw [if_neg q1, if_neg q1]
    by_cases q2 : kd p = 2
    · rw [if_pos q2, if_pos q2]
      exact dA (fun hl => opn_off hx hy hX hY hl h)
    · rw [if_neg q2, if_neg q2]
      by_cases q3 : kd p = 3
      · rw [if_pos q3, if_pos q3]
        exact dA (fun hl => opn_off hx hy hX hY (by omega) h)
      · rw [if_neg q3, if_neg q3]
        by_cases q4 : kd p = 4
        · rw [if_pos q4, if_pos q4]
          exact dA (fun hl => opn_off hx hy hX hY (by omega) h)
        · rw [if_neg q4, if_neg q4]
theorem mv_at {b b' : Nat → Int} {s p : Int} {x y X Y : Nat} (hx : x < W) (hy : y < H) (hX : X < W) (hY : Y < H) (h : ∀ j, j ≠ X + W * Y → b' j = b j) (hp : b' (X + W * Y) = p) (p0 : p ≠ 0) (ps : sd p ≠ s) :
    mv W b' s x y X Y = true ↔ sd (b (x + W * y)) = s ∧ rc W b (b (x + W * y)) x y X Y true = true := by
  by_cases q : x = X ∧ y = Y
  · obtain ⟨rfl, rfl⟩ := q
    unfold mv
    rw [rc_self, rc_self, decide_eq_false (fun e => e.1 ⟨rfl, rfl⟩), Bool.false_and]
    exact Iff.intro (fun e => Bool.noConfusion e) (fun e => Bool.noConfusion e.2)
  · have ne : x + W * y ≠ X + W * Y := fun e => q ((cell_in hx hX).mp e)
    unfold mv
    rw [h _ ne, hp, rc_off hx hy hX hY h, decide_eq_true p0, Bool.and_eq_true, decide_eq_true_eq]
    exact ⟨fun e => ⟨e.1.2.1, e.2⟩, fun e => ⟨⟨q, e.1, ps⟩, e.2⟩⟩
theorem m223 (h : MW m r W H) {t : Nat} (ht : t + 64 ≤ 584) (ht2 : 24 ≤ t) (hb : BD W H (fun c => r (t + c))) {c : Int} (c1 : 0 ≤ c) (c2 : c ≤ 1) {X Y : Nat} (hX : X < W) (hY : Y < H) {p : Int} (p1 : 1 ≤ p) (p2 : p ≤ 12) (ps : sd p ≠ c) {v : Int32} :
    d_223_96 249 (zI c) (zI (t : Nat)) (zI ((X + W * Y : Nat) : Int)) v (wr m 250 (t + (X + W * Y)) (zI p)) 0 0 = some (zI (atk W H (fun d => r (t + d)) c X Y), wr (wr m 250 (t + (X + W * Y)) (zI p)) 250 (t + (X + W * Y)) v) := by
  have hw := h.2.2.2
  have hN := WH_n hw
  have cX := cell_64 hw hX hY
  have hM : MW (wr m 250 (t + (X + W * Y)) (zI p)) (rs r (t + (X + W * Y)) p) W H := ⟨h.1.put, by rw [rs_ne (by omega)]; exact h.2.1, by rw [rs_ne (by omega)]; exact h.2.2.1, hw⟩
  have hb2 : BD W H (fun d => rs r (t + (X + W * Y)) p (t + d)) := fun x y hx hy => by
    by_cases q : x + W * y = X + W * Y
    · show 0 ≤ rs r (t + (X + W * Y)) p (t + (x + W * y)) ∧ rs r (t + (X + W * Y)) p (t + (x + W * y)) ≤ 12
      rw [q, rs_eq]
      omega
    · show 0 ≤ rs r (t + (X + W * Y)) p (t + (x + W * y)) ∧ rs r (t + (X + W * Y)) p (t + (x + W * y)) ≤ 12
      rw [rs_ne (by omega)]
      exact hb x y hx hy
  unfold d_223_96 atk
  rw [zl_0]
  refine it_ft (F := fun s => s_223_96 249 (zI c) (zI (t : Nat)) (zI ((X + W * Y : Nat) : Int)) v (wr m 250 (t + (X + W * Y)) (zI p)) s.1 s.2) (mk := fun (v : Int) k => (zI v, zI (k : Nat))) (out := fun u => (zI u, wr (wr m 250 (t + (X + W * Y)) (zI p)) 250 (t + (X + W * Y)) v)) (n := W * H) (s := 0) (f := fun d v => if sd (r (t + d)) = c ∧ rc W (fun d => r (t + d)) (r (t + d)) (d % W) (d / W) X Y true = true then v + 1 else v) (fun k hk u => ?_) (fun u => ?_)
  · obtain ⟨k1, k2, k3⟩ := cell_of hw hk
    have e := m203 hM ht hb2 c1 c2 k1 k2 hX hY
    have ea := mv_at (b := fun d => r (t + d)) (b' := fun d => rs r (t + (X + W * Y)) p (t + d)) (s := c) k1 k2 hX hY (fun j hj => rs_ne (by omega)) rs_eq (by omega) ps
    rw [k3] at e ea
    dsimp only
    unfold s_223_96
    rw [m193 hM]
    simp only [obs]
    rw [if_neg (by rw [zI_le (by omega) (by omega) (by omega) (by omega)]; omega), e]
    simp only [obs]
    by_cases q : mv W (fun d => rs r (t + (X + W * Y)) p (t + d)) c (k % W) (k / W) X Y = true
    · rw [if_pos q, if_pos (ea.mp q)]
      simp only [wbs, zl_1, zI_add]
      rfl
    · rw [if_neg q, if_neg (fun z => q (ea.mpr z))]
      simp only [wbs, zl_1, zI_add]
      rfl
  · dsimp only
    unfold s_223_96 d_223_131
    rw [m193 hM]
    simp only [obs]
    rw [if_pos (by rw [zI_le (by omega) (by omega) (by omega) (by omega)]; omega), z_ad, m_r1, n_250, if_pos (in_k (by omega) (by decide)), z_ix (by omega), wbs]
    rfl
theorem P_12 (hn : n ≤ 512) (hI : Inv n m) : ∀ (a1 a2 a3 a4 : Int32), PR n m (d_318 20 a1 a2 a3 a4 266 m) (fun m1 => d_223 249 a1 a2 a3 a4 m1) := by
  intro a c x y
  obtain ⟨a, rfl, ha⟩ := zI_ex a
  obtain ⟨c, rfl, hc⟩ := zI_ex c
  obtain ⟨x, rfl, hx⟩ := zI_ex x
  obtain ⟨y, rfl, hy⟩ := zI_ex y
  obtain ⟨r, W, H, hG⟩ := hI.2.2.1
  have hW := iG_w hG
  have no : ∀ m1, d_223_20 249 (zI a) (zI c) (zI x) (zI y) 249 false m1 = some (0, wr m1 249 0 (zI 1)) := fun m1 => by
    unfold d_223_20
    simp only [m183, obs, ifn, Bool.false_eq_true]
  by_cases qa : a = 0 ∨ a = 1
  · by_cases qc : c = 0 ∨ c = 1
    · have y1 : ∀ m1, d_223 249 (zI a) (zI c) (zI x) (zI y) m1 = d_223_20 249 (zI a) (zI c) (zI x) (zI y) 249 true m1 := fun m1 => by
        unfold d_223
        rw [m212 ha.1 ha.2, m212 hc.1 hc.2, decide_eq_true (by omega), decide_eq_true (by omega)]
        simp only [obs, ift]
      obtain ⟨s, hs, rfl⟩ := sd01 qa
      by_cases qi : inC W H x y
      · refine PR_of hI (code := 0) (v := zI (atk W H (fun d => r (24 + 64 * s + d)) c x.toNat y.toNat)) (Or.inl rfl) ?_ (fun m1 qe => ?_)
        · unfold d_318 d_133
          rw [k175y qa, bE_l, k175y qc, bE_l, k178i hG.2.2 hW hx.1 hx.2 hy.1 hy.2 qi, bE_l, k_r1, c51 gA_23 hs, c12 qi.1 qi.2.2.1]
          simp only [obs]
          rw [(iG_a hs).1, (c29 (iG_a hs).2 (iG_f hG hs) hW (iG_b hG hs).1 (s := c) (by omega) (by omega) (X := x.toNat) (Y := y.toNat) (by omega) (by omega)).1]
          simp only [obs]
          rw [bE_l]
          exact lq_ok (Qe.rf m)
        · have hG1 := hG.q qe
          have hM := hG1.mw.told (v := zI 0)
          have hN := cell_64 hW (x := x.toNat) (y := y.toNat) (by omega) (by omega)
          rw [y1]
          unfold d_223_20
          simp only [m183, obs, ift]
          rw [m213 hM hx.1 hx.2 hy.1 hy.2, decide_eq_true qi]
          simp only [obs, m184, ift, wr_wr]
          rw [m194, m214n hM qi.1 qi.2.2.1, t24]
          simp only [obs]
          rw [z_ad, m_r1, n_250, if_pos (in_k (by omega) (by decide)), z_ix (by omega), wbs]
          have fin : ∀ (p : Int), 1 ≤ p → p ≤ 12 → sd p ≠ c → RQ (d_223_89 249 (zI c) (zI ((24 + 64 * s : Nat) : Int)) (zI ((x.toNat + W * y.toNat : Nat) : Int)) (wr m1 249 0 (zI 0) 250 (24 + 64 * s + (x.toNat + W * y.toNat))) 250 (zI ((24 + 64 * s + (x.toNat + W * y.toNat) : Nat) : Int)) (zI p) (wr m1 249 0 (zI 0))) m1 0 (zI (atk W H (fun d => r (24 + 64 * s + d)) c x.toNat y.toNat)) := by
            intro p p1 p2 ps
            unfold d_223_89
            rw [n_250, if_pos (in_k (by omega) (by decide)), z_ix (by omega), wbs, m223 hM (by omega) (by omega) (iG_b hG hs).1 (by omega) (by omega) (by omega) (by omega) p1 p2 ps, wr_wr, wr_id]
            exact rq_t (code := 0) (fun _ => rfl)
          rcases qc with rfl | rfl
          · rw [if_neg (by decide)]
            exact fin 9 (by decide) (by decide) (by decide)
          · rw [if_pos (by decide)]
            exact fin 3 (by decide) (by decide) (by decide)
      · refine PR_of hI (code := 2) (v := 0) (Or.inr (Or.inr (Or.inl rfl))) ?_ (fun m1 qe => ?_)
        · unfold d_318 d_133
          rw [k175y qa, bE_l, k175y qc, bE_l, k178o hG.2.2 hW hx.1 hx.2 hy.1 hy.2 qi, bE_r, bE_r, if_neg (by decide), if_pos rfl]
          exact lq_ex (c := 2) (by decide) (Qe.rf m)
        · have hM := (hG.q qe).mw.told (v := zI 0)
          rw [y1]
          unfold d_223_20
          simp only [m183, obs, ift]
          rw [m213 hM hx.1 hx.2 hy.1 hy.2, decide_eq_false qi]
          simp only [obs, m184, ifn, wr_wr, Bool.false_eq_true]
          exact rq_t (code := 2) (fun e => by cases e)
    · refine PR_of hI (code := 1) (v := 0) (Or.inr (Or.inl rfl)) ?_ (fun m1 qe => ?_)
      · unfold d_318 d_133
        rw [k175y qa, bE_l, k175n hc.1 hc.2 qc, bE_r, bE_r, if_pos rfl]
        exact lq_ex (c := 1) (by decide) (Qe.rf m)
      · unfold d_223
        rw [m212 ha.1 ha.2, m212 hc.1 hc.2, decide_eq_true (show 0 ≤ a ∧ a ≤ 1 by omega), decide_eq_false (show ¬ (0 ≤ c ∧ c ≤ 1) by omega)]
        simp only [obs, ift, ifn, Bool.false_eq_true, no]
        exact rq_t (code := 1) (fun e => by cases e)
  · refine PR_of hI (code := 1) (v := 0) (Or.inr (Or.inl rfl)) ?_ (fun m1 qe => ?_)
    · unfold d_318 d_133
      rw [k175n ha.1 ha.2 qa, bE_r, bE_r, if_pos rfl]
      exact lq_ex (c := 1) (by decide) (Qe.rf m)
    · unfold d_223
      rw [m212 ha.1 ha.2, decide_eq_false (show ¬ (0 ≤ a ∧ a ≤ 1) by omega)]
      simp only [obs, ifn, Bool.false_eq_true, no]
      exact rq_t (code := 1) (fun e => by cases e)
/-- a count -/
theorem fo_ct {P : Nat → Prop} [DecidablePred P] : ∀ {N : Nat}, 0 ≤ fo (fun c (v : Int) => if P c then v + 1 else v) N 0 ∧ (0 < fo (fun c (v : Int) => if P c then v + 1 else v) N 0 ↔ ∃ c, c < N ∧ P c)
  | 0 => ⟨Int.le_refl _, fun h => absurd h (Int.lt_irrefl _), fun ⟨c, hc, _⟩ => absurd hc (Nat.not_lt_zero c)⟩
  | N + 1 => by
    obtain ⟨h1, h2⟩ := fo_ct (P := P) (N := N)
    rw [fo_s]
    by_cases q : P N
    · rw [if_pos q]
      exact ⟨by omega, fun _ => ⟨N, by omega, q⟩, fun _ => by omega⟩
    · rw [if_neg q]
      refine ⟨h1, fun h => ?_, fun ⟨c, hc, hp⟩ => ?_⟩
      · obtain ⟨c, hc, hp⟩ := h2.mp h
        exact ⟨c, by omega, hp⟩
      · refine h2.mpr ⟨c, ?_, hp⟩
        by_cases e : c = N
        · rw [e] at hp; exact absurd hp q
        · omega
theorem atk_mv {b : Nat → Int} {s : Int} {X Y : Nat} (hw : WH W H) (hX : X < W) (hY : Y < H) (p0 : b (X + W * Y) ≠ 0) (ps : sd (b (X + W * Y)) ≠ s) : 0 < atk W H b s X Y ↔ ∃ c, c < W * H ∧ mv W b s (c % W) (c / W) X Y = true := by
  unfold atk
  rw [(fo_ct (P := fun c => sd (b c) = s ∧ rc W b (b c) (c % W) (c / W) X Y true = true) (N := W * H)).2]
  constructor
  · rintro ⟨c, hc, h⟩
    obtain ⟨k1, k2, k3⟩ := cell_of hw hc
    refine ⟨c, hc, (mv_at k1 k2 hX hY (fun _ _ => rfl) rfl p0 ps).mpr ?_⟩
    rw [k3]
    exact h
  · rintro ⟨c, hc, h⟩
    obtain ⟨k1, k2, k3⟩ := cell_of hw hc
    have := (mv_at k1 k2 hX hY (fun _ _ => rfl) rfl p0 ps).mp h
    rw [k3] at this
    exact ⟨c, hc, this⟩
theorem ff_ex {p : Nat → Bool} {N : Nat} : ff p N < N ↔ ∃ c, c < N ∧ p c = true := by
  constructor
  · intro h
    exact ⟨_, h, ff_at h⟩
  · rintro ⟨c, hc, hp⟩
    have h1 := ff_le p N
    rcases Nat.lt_or_ge c (ff p N) with h | h
    · rw [ff_lt h] at hp; cases hp
    · omega
/-- a king, whom an enemy's piece reaches -/
def kpr (W H : Nat) (b : Nat → Int) (s : Int) (c : Nat) : Bool := decide (b c = 1 + 6 * s) && decide (ff (fun d => mv W b (1 - s) (d % W) (d / W) (c % W) (c / W)) (W * H) < W * H)
theorem kx_p {b : Nat → Int} {s : Int} (hw : WH W H) (hK : KU W H b) (h1 : 0 ≤ s) (h2 : s ≤ 1) : kx W H b s = decide (ff (kpr W H b s) (W * H) < W * H) := by
  unfold kx
  have sk : sd (1 + 6 * s) = s := by
    have : s = 0 ∨ s = 1 := by omega
    rcases this with rfl | rfl <;> decide
  have one : ∀ c, c < W * H → b c = 1 + 6 * s → (0 < atk W H b (1 - s) (c % W) (c / W) ↔ ff (fun d => mv W b (1 - s) (d % W) (d / W) (c % W) (c / W)) (W * H) < W * H) := by
    intro c hc hb
    obtain ⟨k1, k2, k3⟩ := cell_of hw hc
    rw [atk_mv hw k1 k2 (by rw [k3, hb]; omega) (by rw [k3, hb, sk]; omega), ff_ex]
  by_cases q : ff (fun c => decide (b c = 1 + 6 * s)) (W * H) < W * H
  · rw [if_pos q, decide_eq_decide, ff_ex]
    have e := of_decide_eq_true (ff_at q)
    rw [one _ q e]
    constructor
    · intro h
      refine ⟨_, q, ?_⟩
      unfold kpr
      rw [decide_eq_true e, decide_eq_true h]; rfl
    · rintro ⟨c, hc, h⟩
      unfold kpr at h
      rw [Bool.and_eq_true, decide_eq_true_eq, decide_eq_true_eq] at h
      have := hK s h1 h2 _ _ q hc e h.1
      rw [this]
      exact h.2
  · rw [if_neg q]
    symm
    rw [decide_eq_false_iff_not, ff_ex]
    rintro ⟨c, hc, h⟩
    unfold kpr at h
    rw [Bool.and_eq_true, decide_eq_true_eq] at h
    exact q (ff_ex.mpr ⟨c, hc, decide_eq_true h.1⟩)
theorem m224 (h : MW m r W H) {t : Nat} (ht : t + 64 ≤ 584) (hb : BD W H (fun c => r (t + c))) (hK : KU W H (fun c => r (t + c))) {s : Int} (h1 : 0 ≤ s) (h2 : s ≤ 1) : d_224_36 249 (zI s) (zI (t : Nat)) m 0 = some (kx W H (fun c => r (t + c)) s, m) := by
  have hw := h.2.2.2
  have hN := WH_n hw
  rw [kx_p hw hK h1 h2]
  have inn : ∀ k, k < W * H → d_224_69 249 (zI s) (zI (t : Nat)) (zI (k : Nat)) m 0 = some (if ff (fun d => mv W (fun c => r (t + c)) (1 - s) (d % W) (d / W) (k % W) (k / W)) (W * H) < W * H then .inr (true, m) else .inl (zI ((k + 1 : Nat) : Int))) := by
    intro k hk
    obtain ⟨k1, k2, k3⟩ := cell_of hw hk
    have st : ∀ d, d < W * H → d_203 249 (zI (t : Nat)) (1 - zI s) (zI (d : Nat)) (zI (k : Nat)) m = some (mv W (fun c => r (t + c)) (1 - s) (d % W) (d / W) (k % W) (k / W)) := fun d hd => by
      obtain ⟨d1, d2, d3⟩ := cell_of hw hd
      have e := m203 h ht hb (s := 1 - s) (by omega) (by omega) d1 d2 k1 k2
      rw [d3, k3] at e
      rw [zl_1, zI_sub]
      exact e
    have key := it_ff (F := fun u => s_224_69 249 (zI s) (zI (t : Nat)) (zI (k : Nat)) m u) (fun d => zI (d : Nat)) (fun d => mv W (fun c => r (t + c)) (1 - s) (d % W) (d / W) (k % W) (k / W)) (fun _ => .inr (true, m)) (.inl (zI ((k + 1 : Nat) : Int))) (W * H) (fun d hd hp => ?_) (fun d hd hp => ?_) ?_
    · unfold d_224_69
      rw [zl_0]
      exact key
    · unfold s_224_69
      rw [m193 h]
      simp only [obs]
      rw [if_neg (by rw [zI_le (by omega) (by omega) (by omega) (by omega)]; omega), st d hd]
      simp only [obs, hp, ifn, Bool.false_eq_true, wbs, zl_1, zI_add]
      rfl
    · unfold s_224_69
      rw [m193 h]
      simp only [obs]
      rw [if_neg (by rw [zI_le (by omega) (by omega) (by omega) (by omega)]; omega), st d hd]
      simp only [obs, hp, ift]
    · unfold s_224_69
      rw [m193 h]
      simp only [obs]
      rw [if_pos (by rw [zI_le (by omega) (by omega) (by omega) (by omega)]; omega)]
      simp only [wbs, zl_1, zI_add]
      rfl
  have rd : ∀ k, k < W * H → (m 250 (t + k) = 1 + 6 * zI s ↔ r (t + k) = 1 + 6 * s) := fun k hk => by
    obtain ⟨k1, k2, k3⟩ := cell_of hw hk
    have b1 : 0 ≤ r (t + (k % W + W * (k / W))) ∧ r (t + (k % W + W * (k / W))) ≤ 12 := hb (k % W) (k / W) k1 k2
    rw [k3] at b1
    rw [h.1 (t + k) (by omega), zl_1, zl_6, zI_mul, zI_add, zI_inj (by omega) (by omega) (by omega) (by omega)]
  have key := it_ff (F := fun u => s_224_36 249 (zI s) (zI (t : Nat)) m u) (fun k => zI (k : Nat)) (kpr W H (fun c => r (t + c)) s) (fun _ => (true, m)) (false, m) (W * H) (fun k hk hp => ?_) (fun k hk hp => ?_) ?_
  · unfold d_224_36
    rw [zl_0]
    refine Eq.trans key ?_
    by_cases q : ff (kpr W H (fun c => r (t + c)) s) (W * H) < W * H
    · rw [if_pos q, decide_eq_true q]
    · rw [if_neg q, decide_eq_false q]
  · unfold s_224_36
    rw [m193 h]
    simp only [obs]
    rw [if_neg (by rw [zI_le (by omega) (by omega) (by omega) (by omega)]; omega), z_ad, m_r1, n_250, if_pos (in_k (by omega) (by decide)), z_ix (by omega)]
    by_cases q : r (t + k) = 1 + 6 * s
    · unfold kpr at hp
      rw [decide_eq_true q, Bool.true_and] at hp
      rw [if_pos ((rd k hk).mpr q), inn k hk, if_neg (of_decide_eq_false hp)]
    · rw [if_neg (fun e => q ((rd k hk).mp e))]
      simp only [wbs, zl_1, zI_add]
      rfl
  · unfold s_224_36
    rw [m193 h]
    simp only [obs]
    rw [if_neg (by rw [zI_le (by omega) (by omega) (by omega) (by omega)]; omega), z_ad, m_r1, n_250, if_pos (in_k (by omega) (by decide)), z_ix (by omega)]
    unfold kpr at hp
    rw [Bool.and_eq_true, decide_eq_true_eq, decide_eq_true_eq] at hp
    rw [if_pos ((rd k hk).mpr hp.1), inn k hk, if_pos hp.2]
  · unfold s_224_36
    rw [m193 h]
    simp only [obs]
    rw [if_pos (by rw [zI_le (by omega) (by omega) (by omega) (by omega)]; omega)]
theorem P_13 (hn : n ≤ 512) (hI : Inv n m) : ∀ (a1 a2 : Int32), PB n m (d_319 20 a1 a2 266 m) (fun m1 => d_224 249 a1 a2 m1) := by
  intro a c
  obtain ⟨a, rfl, ha⟩ := zI_ex a
  obtain ⟨c, rfl, hc⟩ := zI_ex c
  obtain ⟨r, W, H, hG⟩ := hI.2.2.1
  have hW := iG_w hG
  have no : ∀ m1, d_224_20 249 (zI a) (zI c) 249 false m1 = some (false, wr m1 249 0 (zI 1)) := fun m1 => by
    unfold d_224_20
    simp only [m183, obs, ifn, Bool.false_eq_true]
  by_cases qa : a = 0 ∨ a = 1
  · by_cases qc : c = 0 ∨ c = 1
    · obtain ⟨s, hs, rfl⟩ := sd01 qa
      refine PB_of hI (code := 0) (v := bi (kx W H (fun d => r (24 + 64 * s + d)) c)) (Or.inl rfl) ?_ (fun m1 qe => ?_)
      · unfold d_319 d_134
        rw [k175y qa, bE_l, k175y qc, bE_l, k_r1, c51 gA_23 hs]
        simp only [obs]
        rw [(iG_a hs).1, c30 (iG_a hs).2 (iG_f hG hs) hW (iG_b hG hs).1 (s := c) (by omega) (by omega)]
        simp only [obs]
        rw [bE_l]
        cases kx W H (fun d => r (24 + 64 * s + d)) c
        · rw [if_neg (by decide)]; exact lqb_ok (B := false) (Qe.rf m)
        · rw [if_pos rfl]; exact lqb_ok (B := true) (Qe.rf m)
      · have hM := (hG.q qe).mw.told (v := zI 0)
        unfold d_224
        rw [m212 ha.1 ha.2, m212 hc.1 hc.2, decide_eq_true (by omega), decide_eq_true (by omega)]
        simp only [obs, ift]
        unfold d_224_20
        simp only [m183, obs, ift]
        rw [m194, t24]
        simp only [obs]
        rw [m224 hM (by omega) (iG_b hG hs).1 (iG_b hG hs).2.1 (by omega) (by omega)]
        exact rb_t (code := 0) (fun _ => rfl)
    · refine PB_of hI (code := 1) (v := 0) (Or.inr (Or.inl rfl)) ?_ (fun m1 qe => ?_)
      · unfold d_319 d_134
        rw [k175y qa, bE_l, k175n hc.1 hc.2 qc, bE_r, bE_r, if_pos rfl]
        exact lq_ex (c := 1) (by decide) (Qe.rf m)
      · unfold d_224
        rw [m212 ha.1 ha.2, m212 hc.1 hc.2, decide_eq_true (show 0 ≤ a ∧ a ≤ 1 by omega), decide_eq_false (show ¬ (0 ≤ c ∧ c ≤ 1) by omega)]
        simp only [obs, ift, ifn, Bool.false_eq_true, no]
        exact rb_t (code := 1) (fun e => by cases e)
  · refine PB_of hI (code := 1) (v := 0) (Or.inr (Or.inl rfl)) ?_ (fun m1 qe => ?_)
    · unfold d_319 d_134
      rw [k175n ha.1 ha.2 qa, bE_r, bE_r, if_pos rfl]
      exact lq_ex (c := 1) (by decide) (Qe.rf m)
    · unfold d_224
      rw [m212 ha.1 ha.2, decide_eq_false (show ¬ (0 ≤ a ∧ a ≤ 1) by omega)]
      simp only [obs, ifn, Bool.false_eq_true, no]
      exact rb_t (code := 1) (fun e => by cases e)
end CT
