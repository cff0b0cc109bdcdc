/-! Numbers of cells add up; both boards differ where they are told to. -/
section LC_
variable {m : Mm} {r : Nat → Int} {W H : Nat} {k : Int}
theorem tot_r {b : Nat → Int} (hb : ∀ c, 0 ≤ b c ∧ b c ≤ 12) : ∀ n, 0 ≤ tot n b ∧ tot n b ≤ 12 * ((n * (n + 1) : Nat) : Int) := by
  intro n
  induction n with
  | zero => exact ⟨Int.le_refl _, Int.le_refl _⟩
  | succ n ih =>
    unfold tot at *
    rw [fo_s]
    have q := hb n
    have e1 : ((n : Int) + 1) * 0 ≤ ((n : Int) + 1) * b n := Int.mul_le_mul_of_nonneg_left q.1 (by omega)
    have e2 : ((n : Int) + 1) * b n ≤ ((n : Int) + 1) * 12 := Int.mul_le_mul_of_nonneg_left q.2 (by omega)
    have e3 : (((n + 1) * (n + 1 + 1) : Nat) : Int) = ((n * (n + 1) : Nat) : Int) + 2 * ((n : Int) + 1) := by
      have : (n + 1) * (n + 1 + 1) = n * (n + 1) + 2 * (n + 1) := by
        rw [Nat.mul_add (n + 1) (n + 1) 1, Nat.add_mul n 1 (n + 1)]; omega
      rw [this]; omega
    rw [e3]
    omega
theorem fdi_s {b b' : Nat → Int} {c : Nat} : fdi (c + 1) b b' = if 0 ≤ fdi c b b' then fdi c b b' else if b c = b' c then -1 else (c : Nat) := by
  unfold fdi
  have h1 := ff_le (fun c => decide (¬ b c = b' c)) c
  have e : ff (fun c => decide (¬ b c = b' c)) (c + 1) = if ff (fun c => decide (¬ b c = b' c)) c < c then ff (fun c => decide (¬ b c = b' c)) c else if (decide (¬ b c = b' c)) = true then c else c + 1 := rfl
  by_cases q : ff (fun c => decide (¬ b c = b' c)) c < c
  · rw [if_pos q] at e
    rw [e, if_pos (by omega), if_pos q, if_pos (by omega)]
  · rw [if_neg q] at e
    rw [if_neg q, if_neg (show ¬ (0 : Int) ≤ -1 by decide)]
    by_cases q2 : b c = b' c
    · rw [if_neg (by rw [decide_eq_true_eq]; exact fun e => e q2)] at e
      rw [e, if_neg (by omega), if_pos q2]
    · rw [if_pos (decide_eq_true q2)] at e
      rw [e, if_pos (by omega), if_neg q2]
theorem dif_s {b b' : Nat → Int} {c : Nat} : dif (c + 1) b b' = if b c = b' c then dif c b b' else dif c b b' + 1 := rfl
theorem tot_s {b : Nat → Int} {c : Nat} : tot (c + 1) b = tot c b + ((c : Int) + 1) * b c := rfl
theorem Qe.wr {a i : Nat} {v : Int32} {m' : Mm} (h : Qe m m') (ha : 234 ≤ a) : Qe m (wr m' a i v) := fun x hx => by
  unfold core at hx
  rw [wr_ne (by omega)]
  exact h x hx
theorem a184 {nx : Nat} (hN : okn nx) (hN1 : okn (nx + 1)) (h : iGam k m r W H) : An (d_184 nx 20 m) (fun p => p.1 = true ∧ Qe m p.2) := by
  have hW := iG_w h
  have hW' := hW
  obtain ⟨w1, w2, w3, w4⟩ := hW'
  have hN0 := WH_n hW
  have nx1 := hN.1
  obtain ⟨-, hn2⟩ := sh_new hN hN1
  have A127 : ∀ m', Qe m m' → ∀ s c : Nat, s ≤ 1 → c < W * H → d_127 20 (zI (s : Nat)) (zI (c : Nat) - zI (c : Nat) / zI (W : Nat) * zI (W : Nat)) (zI (c : Nat) / zI (W : Nat)) m' = some (zI (r (24 + 64 * s + c) - 1)) := fun m' q s c hs hc => by
    obtain ⟨c1, c2, c3⟩ := cell_of hW hc
    rw [x_rm (by omega) (by omega), x_dv (by omega) (by omega), a127 (h.q q) hs c1 c2, c3]
  have n0 := x_n0 (W := W) (by omega) (by omega)
  have B0 := iG_0 h
  have B1 := iG_1 h
  have bd : ∀ s c : Nat, s ≤ 1 → c < W * H → 0 ≤ r (24 + 64 * s + c) ∧ r (24 + 64 * s + c) ≤ 12 := fun s c hs hc => by
    obtain ⟨c1, c2, c3⟩ := cell_of hW hc
    have := (iG_b h hs).1 _ _ c1 c2
    rw [c3] at this
    exact this
  unfold d_184 d_184_15
  rw [a125_0 h, obs]
  have q0 : Qe m (wa m nx (fun _ => 0)) := fun x hx => by
    unfold core at hx
    unfold wa
    rw [if_neg (by omega)]
  have z0 : ∀ i, wa m nx (fun _ => 0) nx i = 0 := fun i => by unfold wa; rw [if_pos rfl]
  generalize wa m nx (fun _ => 0) = m1 at q0 z0
  unfold d_184_18
  rw [zl_0, show (-1 : Int32) = zI (-1) from by decide]
  refine it_inv (fun c (u : Int32 × Int32 × Int32 × Mm) => u.1 = zI (dif c (fun c => r (24 + c)) (fun c => r (88 + c))) ∧ u.2.1 = zI (fdi c (fun c => r (24 + c)) (fun c => r (88 + c))) ∧ u.2.2.1 = zI (c : Nat) ∧ Qe m u.2.2.2 ∧ u.2.2.2 nx 0 = zI (tot c (fun c => r (24 + 64 * 0 + c))) ∧ u.2.2.2 nx 1 = zI (tot c (fun c => r (24 + 64 * 1 + c)))) _ (W * H) ⟨rfl, rfl, rfl, q0, z0 0, z0 1⟩ (fun c hc u hu => ?_) (fun u hu => ?_)
  · obtain ⟨d, f, z, M⟩ := u
    obtain ⟨u1, u2, u3, u4, u5, u6⟩ := hu
    dsimp only at u1 u2 u3 u4 u5 u6
    subst u1 u2 u3
    show An (s_184_18 20 (zI (W : Nat)) nx _ _ (zI (c : Nat)) M) _
    unfold s_184_18
    rw [a125_1 (h.q u4), obs, zI_mul, ← Int.natCast_mul, if_neg (by rw [zI_le (by omega) (by omega) (by omega) (by omega)]; omega)]
    unfold d_184_33
    rw [zl_0]
    refine it_inv (fun s (u : Int32 × Mm) => u.1 = zI (s : Nat) ∧ Qe m u.2 ∧ u.2 nx 0 = zI (tot (if 0 < s then c + 1 else c) (fun c => r (24 + 64 * 0 + c))) ∧ u.2 nx 1 = zI (tot (if 1 < s then c + 1 else c) (fun c => r (24 + 64 * 1 + c)))) _ 2 ⟨rfl, u4, u5, u6⟩ (fun s hs v hv => ?_) (fun v hv => ?_)
    · obtain ⟨z, M1⟩ := v
      obtain ⟨v1, v2, v3, v4⟩ := hv
      dsimp only at v1 v2 v3 v4
      subst v1
      show An (s_184_33 20 (zI (W : Nat)) _ _ nx (zI (c : Nat)) (zI (s : Nat)) M1) _
      unfold s_184_33
      have bb := bd s c (by omega) hc
      have ein : ev_in (zI (s : Nat)) (sh_n nx) = true := by rw [hn2]; exact in_k hs (by decide)
      rw [if_neg (by rw [show (2 : Int32) = zI 2 from rfl, zI_le (by omega) (by omega) (by omega) (by omega)]; omega), if_pos ein, if_neg n0, if_neg n0, A127 M1 v2 s c (by omega) hc, obs, if_pos ein, z_ix (by omega), zl_1, zI_add, zI_add, zI_mul, show r (24 + 64 * s + c) - 1 + 1 = r (24 + 64 * s + c) by omega]
      simp only [wbs, zI_add]
      have hs2 : s = 0 ∨ s = 1 := by omega
      rcases hs2 with rfl | rfl
      · refine An.so ⟨rfl, v2.wr (by omega), ?_, ?_⟩
        · dsimp only
          rw [wr_eq, v3, zI_add, if_neg (by decide), if_pos (by decide), tot_s]
        · dsimp only
          rw [wr_nk (by decide), v4]; rfl
      · refine An.so ⟨rfl, v2.wr (by omega), ?_, ?_⟩
        · dsimp only
          rw [wr_nk (by decide), v3]; rfl
        · dsimp only
          rw [wr_eq, v4, zI_add, if_neg (by decide), if_pos (by decide), tot_s]
    · obtain ⟨z, M1⟩ := v
      obtain ⟨v1, v2, v3, v4⟩ := hv
      dsimp only at v1 v2 v3 v4
      rw [if_pos (by decide)] at v3 v4
      subst v1
      show An (s_184_33 20 (zI (W : Nat)) _ _ nx (zI (c : Nat)) (zI ((2 : Nat) : Int)) M1) _
      unfold s_184_33
      rw [if_pos (by decide)]
      unfold d_184_74
      have k0 := A127 M1 v2 0 c (by decide) hc
      have k1 := A127 M1 v2 1 c (by decide) hc
      have bb0 := bd 0 c (by decide) hc
      have bb1 := bd 1 c (by decide) hc
      have fr : -1 ≤ fdi c (fun c => r (24 + c)) (fun c => r (88 + c)) ∧ fdi c (fun c => r (24 + c)) (fun c => r (88 + c)) < 64 := by
        unfold fdi
        have := ff_le (fun k => decide (¬ r (24 + k) = r (88 + k))) c
        split <;> omega
      refine An.mo ?_
      rw [if_neg n0, if_neg n0, show (0 : Int32) = zI ((0 : Nat) : Int) from rfl, k0, obs, if_neg (by rw [show zI ((0 : Nat) : Int) = 0 from rfl]; exact n0), if_neg (by rw [show zI ((0 : Nat) : Int) = 0 from rfl]; exact n0), show (1 : Int32) = zI ((1 : Nat) : Int) from rfl, k1, obs]
      have e1 : zI (dif c (fun c => r (24 + c)) (fun c => r (88 + c))) + zI ((1 : Nat) : Int) = zI (dif c (fun c => r (24 + c)) (fun c => r (88 + c)) + 1) := zI_add _ _
      have e2 : zI (c : Nat) + zI ((1 : Nat) : Int) = zI ((c + 1 : Nat) : Int) := z_ad c 1
      rw [dif_s, fdi_s, e1, e2]
      simp only [wbs]
      have c0 : r (24 + 64 * 0 + c) = r (24 + c) := rfl
      have c1 : r (24 + 64 * 1 + c) = r (88 + c) := rfl
      rw [c0] at bb0 ⊢
      rw [c1] at bb1 ⊢
      by_cases q : r (24 + c) = r (88 + c)
      · rw [if_neg (fun e => e (by rw [q])), if_pos q]
        refine An.so ⟨rfl, ?_, rfl, v2, v3, v4⟩
        dsimp only
        rw [if_pos q]
        by_cases q2 : 0 ≤ fdi c (fun c => r (24 + c)) (fun c => r (88 + c))
        · rw [if_pos q2]
        · rw [if_neg q2]; exact congrArg zI (by omega)
      · rw [if_pos (by rw [zI_inj (by omega) (by omega) (by omega) (by omega)]; omega), if_neg q]
        by_cases q2 : 0 ≤ fdi c (fun c => r (24 + c)) (fun c => r (88 + c))
        · rw [if_pos (by rw [zI_le (by omega) (by omega) (by omega) (by omega)]; exact q2)]
          exact An.so ⟨rfl, by dsimp only; rw [if_pos q2], rfl, v2, v3, v4⟩
        · rw [if_neg (by rw [zI_le (by omega) (by omega) (by omega) (by omega)]; exact q2)]
          exact An.so ⟨rfl, by dsimp only; rw [if_neg q2, if_neg q], rfl, v2, v3, v4⟩
  · obtain ⟨d, f, z, M⟩ := u
    obtain ⟨u1, u2, u3, u4, u5, u6⟩ := hu
    dsimp only at u1 u2 u3 u4 u5 u6
    subst u1 u2 u3
    show An (s_184_18 20 (zI (W : Nat)) nx _ _ (zI ((W * H : Nat) : Int)) M) _
    unfold s_184_18
    rw [a125_1 (h.q u4), obs, zI_mul, ← Int.natCast_mul, if_pos (by rw [zI_le (by omega) (by omega) (by omega) (by omega)]; omega)]
    unfold d_184_126
    have h4 := h.q u4
    have t0 := a136 h4 (s := 0) (by decide)
    have t1 := a136 h4 (s := 1) (by decide)
    refine An.mo ?_
    rw [hn2, if_pos (by decide), show d_136 20 0 M = _ from t0, obs, show ix (0 : Int32) = 0 from by decide, u5, if_neg (fun e => e rfl), if_pos (by decide), show d_136 20 1 M = _ from t1, obs, show ix (1 : Int32) = 1 from by decide, u6, if_neg (fun e => e rfl), a137_0 h4, obs, if_neg (fun e => e rfl), a137_1 h4, obs, if_neg (fun e => e rfl)]
    exact An.so ⟨rfl, u4⟩
end LC_
