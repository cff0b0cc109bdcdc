/-! The end of a move, by the class. -/
section CW
variable {m : Mm} {W H g : Nat} {r : Nat → Int}
theorem wr6 {a b : Nat} {v : Nat → Int} {M : Mm} (hM : M = wr (wr (wr (wr (wr (wr m a (b + 0) (zI (v 0))) a (b + 1) (zI (v 1))) a (b + 2) (zI (v 2))) a (b + 3) (zI (v 3))) a (b + 4) (zI (v 4))) a (b + 5) (zI (v 5))) :
    (∀ j, j < 6 → M a (b + j) = zI (v j)) ∧ (∀ k, k < b → M a k = m a k) ∧ ∀ c, c ≠ a → M c = m c := by
  subst hM
  refine ⟨fun j hj => ?_, fun k hk => ?_, fun c hc => ?_⟩
  · have : j = 0 ∨ j = 1 ∨ j = 2 ∨ j = 3 ∨ j = 4 ∨ j = 5 := by omega
    rcases this with rfl | rfl | rfl | rfl | rfl | rfl
    · rw [wr_nk (by omega), wr_nk (by omega), wr_nk (by omega), wr_nk (by omega), wr_nk (by omega), wr_eq]
    · rw [wr_nk (by omega), wr_nk (by omega), wr_nk (by omega), wr_nk (by omega), wr_eq]
    · rw [wr_nk (by omega), wr_nk (by omega), wr_nk (by omega), wr_eq]
    · rw [wr_nk (by omega), wr_nk (by omega), wr_eq]
    · rw [wr_nk (by omega), wr_eq]
    · rw [wr_eq]
  · rw [wr_nk (by omega), wr_nk (by omega), wr_nk (by omega), wr_nk (by omega), wr_nk (by omega), wr_nk (by omega)]
  · rw [wr_ne hc, wr_ne hc, wr_ne hc, wr_ne hc, wr_ne hc, wr_ne hc]
theorem LV.la {m1 M : Mm} {vs : Nat → Int} {q N : Nat} (h14 : 0 ≤ r 14 ∧ r 14 ≤ 20) (hN : (if r 14 = 20 then 19 else (r 14).toNat) = N) (k1 : m1 q 1 = zI (if r 14 = 20 then 20 else r 14 + 1)) (k2 : m1 q 2 = zI (r 11 + 1)) (k3 : ∀ k j : Nat, (k : Int) + 1 < (if r 14 = 20 then 20 else r 14 + 1) → j < 6 → m1 (q + 1) (8 * k + j) = zI (if r 14 = 20 then made_ r W (k + 1) j else made_ r W k j)) (M0 : M q = m1 q) (M1 : ∀ j, j < 6 → M (q + 1) (8 * N + j) = zI (if j = 1 ∨ j = 2 then gi W (vs j) else vs j)) (M2 : ∀ k, k < 8 * N → M (q + 1) k = m1 (q + 1) k) :
    LV M q (rla r vs 14) (rla r vs 11) 6 (made_ (rla r vs) W) := by
  have e14 : rla r vs 14 = (if r 14 = 20 then 20 else r 14 + 1) := by unfold rla; rw [if_pos rfl]
  have e11 : rla r vs 11 = r 11 + 1 := by unfold rla; rw [if_neg (by decide), if_pos rfl]
  rw [e14, e11]
  have hk : (if r 14 = 20 then 20 else r 14 + 1) = ((N + 1 : Nat) : Int) := by
    split at hN <;> split <;> omega
  refine ⟨by rw [M0]; exact k1, by rw [M0]; exact k2, fun k j hkn hj => ?_⟩
  rw [hk] at hkn
  have N20 : N < 20 := by split at hN <;> omega
  have e := rla_at (r := r) (vs := vs) (k := k) (j := j) h14.2 (by omega) hj
  rw [hN] at e
  unfold made_
  rw [e]
  by_cases q : k = N
  · rw [if_pos q, q]; exact M1 j hj
  · rw [if_neg q, M2 _ (by omega), k3 k j (by rw [hk]; omega) hj]
    unfold made_
    by_cases q2 : r 14 = 20
    · rw [if_pos q2, if_pos q2]
    · rw [if_neg q2, if_neg q2]
/-- the kind that a move takes, -1 for none -/
def kdt (W : Nat) (r : Nat → Int) (s X Y : Nat) : Int := kd (r (24 + 64 * s + (X + W * Y))) - 1
def avs (W : Nat) (r : Nat → Int) (s x y X Y : Nat) (times : Int) : Nat → Int := vs8 (s : Nat) ((x + W * y : Nat) : Int) ((X + W * Y : Nat) : Int) (kdt W r s X Y) times (r 2) 0 0
def rnd (r : Nat → Int) (s : Nat) (kind : Int) : Nat → Int := fun k => if k = 4 ∧ kind = 0 then 1 + (s : Int) else if k = 3 then 1 - (s : Int) else r k
/-- the row behind a move that was answered -/
def rfn (W H : Nat) (r : Nat → Int) (s x y X Y : Nat) (times : Int) : Nat → Int := rnd (rla (rb1 W H r s s x y X Y) (avs W r s x y X Y times)) s (kdt W r s X Y)
theorem kd_mod : ∀ p : Nat, p < 13 → p ≠ 0 → ((p : Int) - 1) % 6 = kd (p : Nat) - 1 := by decide
theorem c62 (hg : gA g) (h : GR m g r W H) {K : Int} (hR : RG K r W H) {s : Nat} (hs : s ≤ 1) (h3 : r 3 = s) {x y X Y : Nat} (hx : x < W) (hy : y < H) (hX : X < W) (hY : Y < H) {times : Int} :
    An (d_62 g (zI ((x + 8 * y : Nat) : Int)) (zI ((X + 8 * Y : Nat) : Int)) (zI times) m) (fun m' => GR m' g (rfn W H r s x y X Y times) W H ∧ ∀ a, a < g ∨ g + 18 < a → m' a = m a) := by
  have F := gA_F hg
  have hl := F.2.2.2.2.2.2.2.2.2
  obtain ⟨hW, hrS, hrB, -, -, hrA⟩ := RG.iff.mp hR
  have hw := hW.2.2
  have hk := hR.rok
  have hN0 := WH_n hw
  obtain ⟨w1, w2, w3, w4⟩ := hW.2.2
  have b := (hrB s hs).2.2.2.1.1
  have bp : 0 ≤ r (24 + 64 * s + (X + W * Y)) ∧ r (24 + 64 * s + (X + W * Y)) ≤ 12 := b X Y hX hY
  have e6 : m g 6 = zI (s : Nat) := by rw [h.2.2.2.2.2.2.1, h3]
  have ba := gA_b hg hs
  have kr := kd_r bp.1 bp.2
  have key : ∀ kind : Int, kind = kdt W r s X Y → An (d_62_36 g (zI ((x + 8 * y : Nat) : Int)) (zI ((X + 8 * Y : Nat) : Int)) (zI times) (g + 1 + 5 * s) (zI kind) m) (fun m' => GR m' g (rfn W H r s x y X Y times) W H ∧ ∀ a, a < g ∨ g + 18 < a → m' a = m a) := by
    intro kind hkd
    have kb : -1 ≤ kind ∧ kind ≤ 5 := by rw [hkd]; unfold kdt; omega
    unfold d_62_36
    rw [e6]
    refine (c3g hg h hw hk hs (s := s) b hx hy hX hY).bd (fun m4 hm4 => ?_)
    obtain ⟨g4, f4⟩ := hm4
    rw [F.2.2.2.2.1]
    have h14 : 0 ≤ rb1 W H r s s x y X Y 14 ∧ rb1 W H r s s x y X Y 14 ≤ 20 := by
      rw [rb1_n (by unfold pB; omega)]
      exact hrA.1
    have rk1 : rok (rb1 W H r s s x y X Y) := by
      unfold rok
      rw [rb1_n (by unfold pB; omega), rb1_n (by unfold pB; omega), rb1_n (by unfold pB; omega)]
      exact hk
    refine (c70 hl g4.2.2.2.2.1 h14.1 h14.2 (by decide)).bd (fun m1 k1 => ?_)
    obtain ⟨k1, k2, k3, k4⟩ := k1
    generalize hN : (if rb1 W H r s s x y X Y 14 = 20 then 19 else (rb1 W H r s s x y X Y 14).toNat) = N
    have hN2 : N < 20 := by split at hN <;> omega
    have e1 : m1 (g + 17) 1 = zI ((N + 1 : Nat) : Int) := by
      rw [k1]
      congr 1
      split at hN <;> split <;> omega
    have st : ∀ (M : Mm), M (g + 17) 1 = zI ((N + 1 : Nat) : Int) → ∀ (j : Nat) (v : Int32), j < 8 → d_71 (g + 17) (zI (j : Nat)) v M = some (wr M (g + 17 + 1) (8 * N + j) v) := fun M hM j v hj => c71 hl hM hN2 hj
    have kp : ∀ (M : Mm) (k : Nat) (v : Int32), M (g + 17) 1 = zI ((N + 1 : Nat) : Int) → wr M (g + 17 + 1) k v (g + 17) 1 = zI ((N + 1 : Nat) : Int) := fun M k v hM => by rw [wr_ne (by omega)]; exact hM
    have n1 : g ≠ g + 17 + 1 := by omega
    have og : m1 g = m g := by rw [k4 g (by omega) (by omega), f4 g (by omega)]
    have o5 : m1 g 5 = zI (r 2) := by rw [og]; exact h.2.2.2.2.2.1
    have o6 : m1 g 6 = zI (s : Nat) := by rw [og]; exact e6
    have q1 := kp m1 (8 * N + 0) (zI (s : Nat)) e1
    have q2 := kp _ (8 * N + 1) (zI ((x + 8 * y : Nat) : Int)) q1
    have q3 := kp _ (8 * N + 2) (zI ((X + 8 * Y : Nat) : Int)) q2
    have q4 := kp _ (8 * N + 3) (zI kind) q3
    have q5 := kp _ (8 * N + 4) (zI times) q4
    rw [z1n, z2n, z3n, z4n, z5n, show d_71 (g + 17) 0 (m1 g 6) m1 = d_71 (g + 17) (zI ((0 : Nat) : Int)) (m1 g 6) m1 from rfl, o6, st m1 e1 0 _ (by decide)]
    simp only [obs]
    rw [st _ q1 1 _ (by decide)]
    simp only [obs]
    rw [st _ q2 2 _ (by decide)]
    simp only [obs]
    rw [st _ q3 3 _ (by decide)]
    simp only [obs]
    rw [st _ q4 4 _ (by decide)]
    simp only [obs]
    rw [wr_ne n1, wr_ne n1, wr_ne n1, wr_ne n1, wr_ne n1, o5, st _ q5 5 _ (by decide)]
    simp only [obs]
    obtain ⟨w1, w2, w3⟩ := wr6 (m := m1) (a := g + 17 + 1) (b := 8 * N) (v := vs8 (s : Nat) ((x + 8 * y : Nat) : Int) ((X + 8 * Y : Nat) : Int) kind times (r 2) 0 0) rfl
    change (∀ j, j < 6 → wr (wr (wr (wr (wr (wr m1 (g + 17 + 1) (8 * N + 0) (zI (s : Nat))) (g + 17 + 1) (8 * N + 1) (zI ((x + 8 * y : Nat) : Int))) (g + 17 + 1) (8 * N + 2) (zI ((X + 8 * Y : Nat) : Int))) (g + 17 + 1) (8 * N + 3) (zI kind)) (g + 17 + 1) (8 * N + 4) (zI times)) (g + 17 + 1) (8 * N + 5) (zI (r 2)) (g + 17 + 1) (8 * N + j) = _) at w1
    change (∀ k, k < 8 * N → wr (wr (wr (wr (wr (wr m1 (g + 17 + 1) (8 * N + 0) (zI (s : Nat))) (g + 17 + 1) (8 * N + 1) (zI ((x + 8 * y : Nat) : Int))) (g + 17 + 1) (8 * N + 2) (zI ((X + 8 * Y : Nat) : Int))) (g + 17 + 1) (8 * N + 3) (zI kind)) (g + 17 + 1) (8 * N + 4) (zI times)) (g + 17 + 1) (8 * N + 5) (zI (r 2)) (g + 17 + 1) k = _) at w2
    change (∀ c, c ≠ g + 17 + 1 → wr (wr (wr (wr (wr (wr m1 (g + 17 + 1) (8 * N + 0) (zI (s : Nat))) (g + 17 + 1) (8 * N + 1) (zI ((x + 8 * y : Nat) : Int))) (g + 17 + 1) (8 * N + 2) (zI ((X + 8 * Y : Nat) : Int))) (g + 17 + 1) (8 * N + 3) (zI kind)) (g + 17 + 1) (8 * N + 4) (zI times)) (g + 17 + 1) (8 * N + 5) (zI (r 2)) c = _) at w3
    generalize wr (wr (wr (wr (wr (wr m1 (g + 17 + 1) (8 * N + 0) (zI (s : Nat))) (g + 17 + 1) (8 * N + 1) (zI ((x + 8 * y : Nat) : Int))) (g + 17 + 1) (8 * N + 2) (zI ((X + 8 * Y : Nat) : Int))) (g + 17 + 1) (8 * N + 3) (zI kind)) (g + 17 + 1) (8 * N + 4) (zI times)) (g + 17 + 1) (8 * N + 5) (zI (r 2)) = M at *
    have gM : GR M g (rla (rb1 W H r s s x y X Y) (avs W r s x y X Y times)) W H := by
      refine g4.cA hw rk1.1 rk1.2.1 (fun a a1 a2 a3 => by rw [w3 a (by omega), k4 a (by omega) (by omega)]) (fun j _ hj => rla_n hj) ?_
      refine LV.la h14 hN k1 k2 k3 (w3 _ (by omega)) (fun j hj => ?_) w2
      rw [w1 j hj]
      have : j = 0 ∨ j = 1 ∨ j = 2 ∨ j = 3 ∨ j = 4 ∨ j = 5 := by omega
      rcases this with rfl | rfl | rfl | rfl | rfl | rfl
      · rfl
      · rw [if_pos (Or.inl rfl)]
        show zI ((x + 8 * y : Nat) : Int) = zI (gi W ((x + W * y : Nat) : Int))
        rw [gi_c hx]
      · rw [if_pos (Or.inr rfl)]
        show zI ((X + 8 * Y : Nat) : Int) = zI (gi W ((X + W * Y : Nat) : Int))
        rw [gi_c hX]
      · show zI kind = zI (kdt W r s X Y)
        rw [hkd]
      · rfl
      · rfl
    have fM : ∀ a, a < g ∨ g + 18 < a → M a = m a := fun a ha => by rw [w3 a (by omega), k4 a (by omega) (by omega), f4 a (by omega)]
    have rk2 : rok (rla (rb1 W H r s s x y X Y) (avs W r s x y X Y times)) := by
      unfold rok
      rw [rla_n (by unfold pA; omega), rla_n (by unfold pA; omega)]
      refine ⟨rk1.1, rk1.2.1, ?_⟩
      unfold rla
      rw [if_pos rfl]
      split <;> omega
    obtain ⟨s1, s2, s3, s4, s5, s6, s7, s8⟩ := gM.2.2.2.2.2
    have gM6 : M g 6 = zI (s : Nat) := by
      rw [w3 g n1]; exact o6
    have rk3 : ∀ j, j < 584 → ¬ pS j → rfn W H r s x y X Y times j = rla (rb1 W H r s s x y X Y) (avs W r s x y X Y times) j := fun j _ hj => by
      unfold rfn rnd
      unfold pS at hj
      rw [if_neg (by omega), if_neg (by omega)]
    have rr : ∀ j, j ≠ 3 → (j = 4 → kind ≠ 0) → rfn W H r s x y X Y times j = rla (rb1 W H r s s x y X Y) (avs W r s x y X Y times) j := fun j j3 j4 => by
      unfold rfn rnd
      rw [if_neg (by rw [← hkd]; exact fun e => j4 e.1 e.2), if_neg j3]
    have r3' : rfn W H r s x y X Y times 3 = 1 - (s : Int) := by
      unfold rfn rnd
      rw [if_neg (by omega), if_pos rfl]
    by_cases qk : kind = 0
    · rw [if_neg (by rw [qk]; exact fun e => e rfl), gM6, c57]
      simp only [obs]
      unfold d_62_130
      rw [wbs, wr_nk (by decide), gM6]
      have r4' : rfn W H r s x y X Y times 4 = 1 + (s : Int) := by
        unfold rfn rnd
        rw [if_pos ⟨rfl, by rw [← hkd]; exact qk⟩]
      refine An.so ⟨gM.cS hw rk2.1 rk2.2.1 rk2.2.2 (fun a a1 a2 => by rw [wr_ne (by omega), wr_ne (by omega)]) rk3 ?_, fun a ha => by rw [wr_ne (by omega), wr_ne (by omega)]; exact fM a ha⟩
      unfold SV
      rw [r3', r4', rr 2 (by decide) (by omega), rr 5 (by decide) (by omega), rr 6 (by decide) (by omega), rr 7 (by decide) (by omega), rr 15 (by decide) (by omega), rr 16 (by decide) (by omega)]
      refine ⟨?_, ?_, ?_, ?_, ?_, ?_, ?_, ?_⟩
      · rw [wr_nk (by decide), wr_nk (by decide)]; exact s1
      · rw [wr_eq, z1n, zI_sub]; rfl
      · rw [wr_nk (by decide), wr_eq, z1n, zI_add]; exact congrArg zI (by omega)
      · rw [wr_nk (by decide), wr_nk (by decide)]; exact s4
      · rw [wr_nk (by decide), wr_nk (by decide)]; exact s5
      · rw [wr_nk (by decide), wr_nk (by decide)]; exact s6
      · rw [wr_nk (by decide), wr_nk (by decide)]; exact s7
      · rw [wr_nk (by decide), wr_nk (by decide)]; exact s8
    · rw [if_pos (by rw [zl_0, zI_inj (by omega) (by omega) (by omega) (by omega)]; exact qk)]
      unfold d_62_130
      rw [wbs, gM6]
      refine An.so ⟨gM.cS hw rk2.1 rk2.2.1 rk2.2.2 (fun a a1 a2 => wr_ne (by omega)) rk3 ?_, fun a ha => by rw [wr_ne (by omega)]; exact fM a ha⟩
      unfold SV
      rw [r3', rr 4 (by decide) (fun _ => qk), rr 2 (by decide) (by omega), rr 5 (by decide) (by omega), rr 6 (by decide) (by omega), rr 7 (by decide) (by omega), rr 15 (by decide) (by omega), rr 16 (by decide) (by omega)]
      refine ⟨?_, ?_, ?_, ?_, ?_, ?_, ?_, ?_⟩
      · rw [wr_nk (by decide)]; exact s1
      · rw [wr_eq, z1n, zI_sub]; rfl
      · rw [wr_nk (by decide)]; exact s3
      · rw [wr_nk (by decide)]; exact s4
      · rw [wr_nk (by decide)]; exact s5
      · rw [wr_nk (by decide)]; exact s6
      · rw [wr_nk (by decide)]; exact s7
      · rw [wr_nk (by decide)]; exact s8
  unfold d_62
  rw [e6, c51 hg hs]
  simp only [obs]
  rw [ba.1, c17 ba.2.2.1 (by omega), (h.bd hs).1.on hw hX hY]
  simp only [obs]
  by_cases q0 : r (24 + 64 * s + (X + W * Y)) = 0
  · rw [q0, if_neg (by decide), show (-1 : Int32) = zI (-1) from by decide]
    refine key (-1) ?_
    unfold kdt
    rw [q0]; rfl
  · rw [if_pos (by rw [show (-1 : Int32) = zI (-1) from by decide, zI_inj (by omega) (by omega) (by omega) (by omega)]; omega), zl_6, zI_rm (by omega) (by omega) (by omega) (by omega)]
    refine key _ ?_
    have := kd_mod (r (24 + 64 * s + (X + W * Y))).toNat (by omega) (by omega)
    rw [show (((r (24 + 64 * s + (X + W * Y))).toNat : Nat) : Int) = r (24 + 64 * s + (X + W * Y)) by omega] at this
    unfold kdt
    exact this
end CW
