/-! The law behind what it has loaded. -/
section LI_
variable {m : Mm} {r ρ : Nat → Int} {W H : Nat} {k k' : Int}
theorem dif_0 {b b' : Nat → Int} : ∀ {N : Nat}, (∀ c, c < N → b c = b' c) → dif N b b' = 0 := by
  intro N
  induction N with
  | zero => intro _; rfl
  | succ N ih => intro h; rw [dif_s, if_pos (h N (by omega))]; exact ih (fun c hc => h c (by omega))
/-- settled boards are alike -/
theorem rst_e {s t c : Nat} (ht : s + t = 1) (hc : c < 64) : rst r s t (24 + c) = rst r s t (88 + c) ∧ rst r s t (24 + 64 * s + c) = r (24 + 64 * s + c) ∧ rst r s t (24 + 64 * t + c) = r (24 + 64 * s + c) := by
  have e1 := rst_a (r := r) (s := s) (t := t) hc
  have e2 : rst r s t (24 + 64 * s + c) = r (24 + 64 * s + c) := rst_n (by unfold pB; omega)
  refine ⟨?_, e2, e1⟩
  have : s = 0 ∨ s = 1 := by omega
  rcases this with rfl | rfl
  · obtain rfl : t = 1 := by omega
    exact e2.trans e1.symm
  · obtain rfl : t = 0 := by omega
    exact e1.trans e2.symm
theorem z_1s {s : Nat} (hs : s ≤ 1) : (1 : Int32) - zI (s : Nat) = zI ((1 - s : Nat) : Int) := by rw [zl_1, zI_sub]; exact congrArg zI (by omega)
theorem okn_251 : okn 251 := by unfold okn; omega
theorem okn_252 : okn 252 := by unfold okn; omega
theorem okn_250 : okn 250 := by unfold okn; omega
theorem okn_249 : okn 249 := by unfold okn; omega
theorem a186_392 {L : Nat} : d_186_392 L true m = some true := by
  unfold d_186_392
  rw [if_pos rfl]
theorem a186_329 {L : Nat} {s : Nat} {T : Int} (hs : s ≤ 1) (h : iGam k m r W H) (hi : iHis m) (e4 : m 20 4 = bi true) (g : GR m 61 ρ W H) (hR : RG k' ρ W H) (h9 : r (15 + s) ≤ 9998) (hT : ρ 2 + ρ 15 + ρ 16 = T) : d_186_329 L 20 (zI T) (zI (dif (W * H) (fun c => ρ (24 + c)) (fun c => ρ (88 + c)))) (zI (s : Nat)) (zI (ρ 2)) m = some true := by
  have hcl := (RG.iff.mp h.2.1).2.1.2.2.2.2.2.2 s hs
  have goal : An (d_186_329 L 20 (zI T) (zI (dif (W * H) (fun c => ρ (24 + c)) (fun c => ρ (88 + c)))) (zI (s : Nat)) (zI (ρ 2)) m) (fun b => b = true) := by
    unfold d_186_329
    refine (a158_1 hi h hs h9).bd (fun p hp => ?_)
    obtain ⟨p1, p2⟩ := hp
    rw [p1, if_neg (by rw [zl_0, zI_le (by omega) (by omega) (by omega) (by omega)]; omega)]
    refine (a174 (by rw [p2.1 20 (by omega)]; exact e4) hR (g.mm (fun a a1 a2 => p2.1 a (by omega)))).bd (fun p3 hp3 => ?_)
    obtain ⟨q1, q2, q3, q4⟩ := hp3
    have V : VL p3.2 := h.1.mm (by rw [q4 0 (by decide) (by omega), p2.1 0 (by omega)]) (by rw [q4 1 (by decide) (by omega), p2.1 1 (by omega)])
    have hg : iGam k' p3.2 ρ W H := ⟨V, hR, q3⟩
    have c0 := a126 hg (s := 0) (by decide)
    have c1 := a126 hg (s := 1) (by decide)
    rw [show zI ((0 : Nat) : Int) = 0 from rfl] at c0
    rw [show zI ((1 : Nat) : Int) = 1 from rfl] at c1
    rw [q1, if_neg (fun e => e rfl), a125_15, obs, q2, if_neg (fun e => e rfl), a137_0 hg, obs, if_neg (fun e => e rfl), a125_2 hg, obs, c0, obs, c1, obs, zI_add, zI_add, show ρ 2 + ρ (15 + 0) + ρ (15 + 1) = T from hT, if_neg (fun e => e rfl)]
    refine (a184 okn_251 okn_252 hg).bd (fun p5 hp5 => ?_)
    rw [hp5.1, a186_392]
    exact An.so rfl
  obtain ⟨v, e, rfl⟩ := goal
  exact e
theorem a186_204 {L n : Nat} (hL : L ≤ 2147483647) {T : Int} (h : St n m r W H T) (hT : T ≤ 9998) : d_186_204 L 20 (zI T) m = some true := by
  obtain ⟨hg, hi, hI, eT⟩ := h
  have hW := iG_w hg
  have hN := WH_n hW
  have hS := (RG.iff.mp hg.2.1).2.1
  have cl : ∀ s, s ≤ 1 → 0 ≤ r (15 + s) ∧ r (15 + s) ≤ 9998 := fun s hs => by
    have c0 := hS.2.2.2.2.2.2 0 (by decide)
    have c1 := hS.2.2.2.2.2.2 1 (by decide)
    have := hS.1
    have z : s = 0 ∨ s = 1 := by omega
    rcases z with rfl | rfl <;> simp only [Nat.add_zero, Nat.reduceAdd] at c0 c1 ⊢ <;> omega
  have goal : An (d_186_204 L 20 (zI T) m) (fun b => b = true) := by
    unfold d_186_204
    obtain ⟨s, s0, s1, es⟩ := a182 (m := m) hL (j := 82) (lo := 0) (hi := 1) (by decide) (by decide) (by decide)
    rw [show zI ((82 : Nat) : Int) = 82 from rfl, show zI ((0 : Nat) : Int) = 0 from rfl, show zI ((1 : Nat) : Int) = 1 from rfl] at es
    rw [a137_0 hg, obs, es, obs, z_1s s1, a136 hg (s := 1 - s) (by omega), obs]
    refine (a173 hg).bd (fun p1 hp1 => ?_)
    obtain ⟨u1, u2, u3, u4⟩ := hp1
    have f1 : ∀ a, a ≠ 20 → ¬ (61 ≤ a ∧ a < 80) → p1.2 a = m a := u4
    have g1 : iGam (n : Nat) p1.2 r W H := ⟨hg.1.mm (f1 0 (by decide) (by omega)) (f1 1 (by decide) (by omega)), hg.2.1, hg.2.2.mm (fun a _ _ => f1 a (by omega) (by omega))⟩
    have i1 : iHis p1.2 := by
      obtain ⟨c, x, c1, x1, e2, e1⟩ := hi
      have e : p1.2 80 = m 80 := f1 80 (by decide) (by omega)
      exact ⟨c, x, c1, x1, by rw [e]; exact e2, by rw [e]; exact e1⟩
    rw [u1]
    have ht : s + (1 - s) = 1 := by omega
    refine (a157 i1 g1 ht).bd (fun p2 hp2 => ?_)
    obtain ⟨v1, v2⟩ := hp2
    have g2 := v2.g g1 (rst_R hg.2.1 ht)
    have d2 : dif (W * H) (fun c => rst r s (1 - s) (24 + c)) (fun c => rst r s (1 - s) (88 + c)) = 0 := dif_0 (fun c hc => (rst_e ht (by omega)).1)
    have t2 : tot (W * H) (fun d => rst r s (1 - s) (24 + 64 * (1 - s) + d)) = tot (W * H) (fun d => rst r s (1 - s) (24 + 64 * s + d)) := tot_cg (fun c hc => (rst_e ht (by omega)).2.2.trans (rst_e ht (by omega)).2.1.symm)
    rw [v1, if_neg (fun e => e rfl), a137_0 g2, obs, d2, if_neg (fun e => e rfl), a136 g2 (s := 1 - s) (by omega), obs, a136 g2 (s := s) s1, obs, t2, if_neg (fun e => e rfl)]
    obtain ⟨c, x, c1, x1, e2, e1⟩ := i1
    obtain ⟨k1, k2, k3, k4⟩ := v2.2.2 c x c1 x1 e2 e1
    have ex : ((x + 1) % 8 + 7) % 8 = x := by omega
    refine (a165 (c := if c = 8 then 8 else c + 1) (x := (x + 1) % 8) (by split <;> omega) (by split <;> omega) (Nat.mod_lt _ (by decide)) k1 k2 hg.2.1 (by rw [ex]; exact k3)).bd (fun p3 hp3 => ?_)
    obtain ⟨w1, w2, w3, w4⟩ := hp3
    have fr : ∀ a, (a < 20 ∨ (20 < a ∧ a < 23)) → p3.2 a = m a := fun a ha => by rw [w4 a (by omega), v2.1 a (by omega), f1 a (by omega) (by omega)]
    have g3 : iGam (n : Nat) p3.2 r W H := ⟨hg.1.mm (fr 0 (by omega)) (fr 1 (by omega)), hg.2.1, w2⟩
    have s3 : p3.2 20 4 = bi true := by rw [w4 20 (by omega), v2.1 20 (by omega)]; exact u2
    have sv : GR p3.2 61 r W H := u3.mm (fun a a1 a2 => by rw [w4 a (by omega), v2.1 a (by omega)])
    rw [w1, if_neg (by rw [zl_0, zI_lt (by split <;> omega) (by split <;> omega) (by omega) (by omega)]; omega), a136 g3 (s := 1 - s) (by omega), obs, if_neg (fun e => e rfl), a137_0 g3, obs, if_pos rfl, a125_4 g3, obs]
    have h4 := hS.2.2.1
    by_cases q : r 4 = 0
    · rw [q, if_neg (fun e => e rfl)]
      refine (a156 w3 g3 q).bd (fun p4 hp4 => ?_)
      obtain ⟨x1', x2'⟩ := hp4
      obtain ⟨s1', s2', -⟩ := tS_f g3
      have g4 := x2'.g g3 (rs4_R g3.2.1 (v := 2 - (tS r : Nat)) (by omega))
      rw [a125_3 g4, obs, x1', rs_ne (by decide), s2', zl_1, zI_sub, if_pos rfl, a186_329 s1 g4 (x2'.h w3) (by rw [x2'.1 20 (by omega)]; exact s3) (sv.mm (fun a a1 a2 => x2'.1 a (by omega))) hg.2.1 (by rw [rs_ne (by omega)]; exact (cl s s1).2) eT]
      exact An.so rfl
    · rw [if_pos (by rw [zl_0, zI_inj (by omega) (by omega) (by omega) (by omega)]; exact q), a186_329 s1 g3 w3 s3 sv hg.2.1 (cl s s1).2 eT]
      exact An.so rfl
  obtain ⟨v, e, rfl⟩ := goal
  exact e
theorem sm_le {f g : Nat → Int} : ∀ {N : Nat}, (∀ k, k < N → f k ≤ g k) → sm f N ≤ sm g N := by
  intro N
  induction N with
  | zero => intro _; exact Int.le_refl _
  | succ N ih =>
    intro h
    unfold sm
    have := ih (fun k hk => h k (by omega))
    have := h N (by omega)
    omega
theorem sm_1 {f : Nat → Int} : ∀ {N : Nat}, (∀ k, k < N → 1 ≤ f k) → (N : Int) ≤ sm f N := by
  intro N
  induction N with
  | zero => intro _; exact Int.le_refl _
  | succ N ih =>
    intro h
    unfold sm
    have := ih (fun k hk => h k (by omega))
    have := h N (by omega)
    omega
theorem a186_119 {L n : Nat} (hL : L ≤ 2147483647) {T : Int} (h : St n m r W H T) (hT : T ≤ 9998) : d_186_119 L 20 (zI T) true m = some true := by
  have hg := h.1
  have goal : An (d_186_119 L 20 (zI T) true m) (fun b => b = true) := by
    unfold d_186_119
    obtain ⟨s, s0, s1, es⟩ := a182 (m := m) hL (j := 80) (lo := 0) (hi := 1) (by decide) (by decide) (by decide)
    obtain ⟨c, c0, c1, ec⟩ := a182 (m := m) hL (j := 81) (lo := 0) (hi := 1) (by decide) (by decide) (by decide)
    rw [show zI ((80 : Nat) : Int) = 80 from rfl, show zI ((0 : Nat) : Int) = 0 from rfl, show zI ((1 : Nat) : Int) = 1 from rfl] at es
    rw [show zI ((81 : Nat) : Int) = 81 from rfl, show zI ((0 : Nat) : Int) = 0 from rfl, show zI ((1 : Nat) : Int) = 1 from rfl] at ec
    rw [if_pos rfl, es, obs, ec, obs]
    refine (a183 hg s1 c1).bd (fun p hp => ?_)
    have h1 := h.q hp.2
    have g1 := h1.1
    have k0 := a126 g1 (s := 0) (by decide)
    have k1 := a126 g1 (s := 1) (by decide)
    rw [show zI ((0 : Nat) : Int) = 0 from rfl] at k0
    rw [show zI ((1 : Nat) : Int) = 1 from rfl] at k1
    obtain ⟨i1, i2⟩ := h.2.2.1
    have shr := share_0 (X := sm (fun k => r (304 + 8 * k + 2) + r (304 + 8 * k + 5)) (r 13).toNat) (Y := sm (fun k => r (304 + 8 * k + 3) + r (304 + 8 * k + 6)) (r 13).toNat)
      (sm_r (c := 200) (fun k hk => by have := i2 k (by omega); unfold s1I at this; dsimp only at this ⊢; omega)).1
      (sm_le (fun k hk => by have := i2 k (by omega); unfold s1I at this; dsimp only at this ⊢; omega))
      (by
        have := (sm_r (g := fun k => r (304 + 8 * k + 2) + r (304 + 8 * k + 5)) (c := 200) (N := (r 13).toNat) (fun k hk => by have := i2 k (by omega); unfold s1I at this; dsimp only at this; omega)).2
        omega)
    rw [hp.1, if_pos rfl, a125_2 g1, obs, k0, obs, k1, obs, zI_add, zI_add, show r 2 + r (15 + 0) + r (15 + 1) = T from h.2.2.2, if_neg (fun e => e rfl), a153 g1, obs, if_neg shr.1, obs, if_neg shr.2, a125_14 g1, obs]
    obtain ⟨h14, hA⟩ := (RG.iff.mp g1.2.1).2.2.2.2.2
    by_cases q : r 14 ≤ 0
    · rw [if_pos (by rw [zl_0, zI_le (by omega) (by omega) (by omega) (by omega)]; exact q), a186_204 hL h1 hT]
      exact An.so rfl
    · have mn := mean_1 (S := sm (fun k => r (464 + 6 * k + 4)) (r 14).toNat) (N := r 14) (by omega) h14.2
        (by
          have := sm_1 (f := fun k => r (464 + 6 * k + 4)) (N := (r 14).toNat) (fun k hk => (hA k (by omega)).2.2.2.2.1)
          omega)
        (by
          have := (sm_r (g := fun k => r (464 + 6 * k + 4)) (c := 9) (N := (r 14).toNat) (fun k hk => by have := (hA k (by omega)).2.2.2.2; exact ⟨by omega, this.2⟩)).2
          omega)
      rw [if_neg (by rw [zl_0, zI_le (by omega) (by omega) (by omega) (by omega)]; exact q), a152 g1, obs, if_pos mn, a186_204 hL h1 hT]
      exact An.so rfl
  obtain ⟨v, e, rfl⟩ := goal
  exact e
theorem a186_115 {L n : Nat} (hL : L ≤ 2147483647) {T : Int} (h : St n m r W H T) (hT : T ≤ 9998) : d_186_115 L 20 (zI T) m = some true := by
  obtain ⟨p, ep, p1, p2⟩ := a184 okn_250 okn_251 h.1
  unfold d_186_115
  rw [ep, obs, p1, a186_119 hL (h.q p2) hT]
theorem a186_80 {L n st : Nat} (hL : L ≤ 2147483647) (hn : n ≤ 100) (hst : st ≤ 6) {T : Int} (h : St n m r W H T) (hT : T ≤ 9998) : d_186_80 L 20 (zI T) (zI (st : Nat)) 0 m = some true := by
  have goal : An (d_186_80 L 20 (zI T) (zI (st : Nat)) 0 m) (fun b => b = true) := by
    unfold d_186_80
    rw [zl_0]
    refine it_inv (fun j (u : Int32 × Mm) => u.1 = zI (j : Nat) ∧ ∃ r', St (n + j) u.2 r' W H T) _ st ⟨rfl, r, h⟩ (fun j hj u hu => ?_) (fun u hu => ?_)
    · obtain ⟨z, M⟩ := u
      obtain ⟨u1, r', u2⟩ := hu
      dsimp only at u1 u2
      subst u1
      have h4 := (RG.iff.mp u2.1.2.1).2.1.2.2.1
      show An (s_186_80 L 20 (zI T) (zI (st : Nat)) (zI (j : Nat)) M) _
      unfold s_186_80
      rw [if_neg (by rw [zI_le (by omega) (by omega) (by omega) (by omega)]; omega), a125_4 u2.1, obs]
      by_cases q : r' 4 = 0
      · rw [q, if_neg (fun e => e rfl), show (70 : Int32) = zI ((70 : Nat) : Int) from rfl, z_ad]
        refine (a185 hL (by omega) u2 q (at_ := 70 + j) (by omega)).bd (fun p hp => ?_)
        obtain ⟨p1, r2, p2⟩ := hp
        rw [p1, if_pos rfl, wbs]
        exact An.so ⟨by rw [zl_1, zI_add]; rfl, r2, p2⟩
      · rw [if_pos (by rw [zl_0, zI_inj (by omega) (by omega) (by omega) (by omega)]; exact q), a186_115 hL u2 hT]
        exact An.so rfl
    · obtain ⟨z, M⟩ := u
      obtain ⟨u1, r', u2⟩ := hu
      dsimp only at u1 u2
      subst u1
      show An (s_186_80 L 20 (zI T) (zI (st : Nat)) (zI (st : Nat)) M) _
      unfold s_186_80
      rw [if_pos (by rw [zI_le (by omega) (by omega) (by omega) (by omega)]; omega), a186_115 hL u2 hT]
      exact An.so rfl
  obtain ⟨v, e, rfl⟩ := goal
  exact e
/-- the law, once a game is loaded -/
theorem a186_16 {L : Nat} (hL : L ≤ 2147483647) {T s0 : Int} (h : St 1 m r W H T) (hT : T ≤ 9998) (h2 : r 2 = 0) (hd : ∀ c, c < W * H → r (24 + c) = r (88 + c)) (hs : 2 ≤ s0) (hs2 : s0 ≤ 1000) : d_186_16 L 20 (zI s0) m = some true := by
  have hg := h.1
  unfold d_186_16
  rw [if_neg (by rw [show (2 : Int32) = zI 2 from rfl, zI_lt (by omega) (by omega) (by omega) (by omega)]; omega)]
  obtain ⟨p, ep, p1, p2⟩ := a184 okn_249 okn_250 hg
  rw [ep, obs, p1]
  have h1 := h.q p2
  unfold d_186_24
  rw [if_pos rfl, a137_0 h1.1, obs, dif_0 hd, if_neg (fun e => e rfl)]
  have k3 := a183 h1.1 (s := 0) (c := 0) (by decide) (by decide)
  rw [show zI ((0 : Nat) : Int) = 0 from rfl] at k3
  obtain ⟨p3, e3, p31, p32⟩ := k3
  have h3 := h1.q p32
  have k4 := a183 h3.1 (s := 1) (c := 1) (by decide) (by decide)
  rw [show zI ((1 : Nat) : Int) = 1 from rfl] at k4
  obtain ⟨p4, e4, p41, p42⟩ := k4
  have h5 := h3.q p42
  have c0 := a126 h5.1 (s := 0) (by decide)
  have c1 := a126 h5.1 (s := 1) (by decide)
  rw [show zI ((0 : Nat) : Int) = 0 from rfl] at c0
  rw [show zI ((1 : Nat) : Int) = 1 from rfl] at c1
  obtain ⟨v, v1, v2, ev⟩ := a182 (m := p4.2) hL (j := 60) (lo := 1) (hi := 6) (by decide) (by decide) (by decide)
  rw [show zI ((60 : Nat) : Int) = 60 from rfl, show zI ((1 : Nat) : Int) = 1 from rfl, show zI ((6 : Nat) : Int) = 6 from rfl] at ev
  have eT : r (15 + 0) + r (15 + 1) = T := by
    have := h.2.2.2
    rw [h2] at this
    show r 15 + r 16 = T
    omega
  rw [e3, obs, p31, if_pos rfl, e4, obs, p41, if_pos rfl, c0, obs, c1, obs, wbs, zI_add, eT, ev, obs]
  exact a186_80 hL (by decide) (by omega) h5 hT
end LI_
