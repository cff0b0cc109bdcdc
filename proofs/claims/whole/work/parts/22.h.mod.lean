/-! A sending, by the reference. -/
section MY
variable {m : Mm} {W H : Nat} {r : Nat → Int}
theorem rs8 {b : Nat} {v : Nat → Int} {k : Nat} : rs (rs (rs (rs (rs (rs (rs (rs r (b + 0) (v 0)) (b + 1) (v 1)) (b + 2) (v 2)) (b + 3) (v 3)) (b + 4) (v 4)) (b + 5) (v 5)) (b + 6) (v 6)) (b + 7) (v 7) k = if b ≤ k ∧ k < b + 8 then v (k - b) else r k := by
  by_cases h : b ≤ k ∧ k < b + 8
  · rw [if_pos h]
    have : k = b + 0 ∨ k = b + 1 ∨ k = b + 2 ∨ k = b + 3 ∨ k = b + 4 ∨ k = b + 5 ∨ k = b + 6 ∨ k = b + 7 := by omega
    rcases this with rfl | rfl | rfl | rfl | rfl | rfl | rfl | rfl
    · rw [rs_ne (by omega), rs_ne (by omega), rs_ne (by omega), rs_ne (by omega), rs_ne (by omega), rs_ne (by omega), rs_ne (by omega)]
      exact rs_eq.trans (congrArg v (by omega))
    · rw [rs_ne (by omega), rs_ne (by omega), rs_ne (by omega), rs_ne (by omega), rs_ne (by omega), rs_ne (by omega), rs_eq, show b + 1 - b = 1 by omega]
    · rw [rs_ne (by omega), rs_ne (by omega), rs_ne (by omega), rs_ne (by omega), rs_ne (by omega), rs_eq, show b + 2 - b = 2 by omega]
    · rw [rs_ne (by omega), rs_ne (by omega), rs_ne (by omega), rs_ne (by omega), rs_eq, show b + 3 - b = 3 by omega]
    · rw [rs_ne (by omega), rs_ne (by omega), rs_ne (by omega), rs_eq, show b + 4 - b = 4 by omega]
    · rw [rs_ne (by omega), rs_ne (by omega), rs_eq, show b + 5 - b = 5 by omega]
    · rw [rs_ne (by omega), rs_eq, show b + 6 - b = 6 by omega]
    · rw [rs_eq, show b + 7 - b = 7 by omega]
  · rw [if_neg h, rs_ne (by omega), rs_ne (by omega), rs_ne (by omega), rs_ne (by omega), rs_ne (by omega), rs_ne (by omega), rs_ne (by omega), rs_ne (by omega)]
theorem i_r {k : Nat} (hk : k < 584) {α : Type} {a b : Option α} {P : α → Prop} (h : An a P) : An (if ev_in (zI (k : Int)) (sh_n (sh_r 249 1)) = true then a else b) P := by
  rw [if_pos (in_r hk)]; exact h
theorem z_a1 {k j : Nat} {x : Int32} (hx : x = zI ((j : Nat) : Int)) : zI ((k : Nat) : Int) + x = zI ((k + j : Nat) : Int) := by rw [hx]; exact z_ad k j
theorem m258 (h : MR m r) {s : Nat} (hs : s ≤ 1) : An (d_258 249 (zI (s : Nat)) m) (fun m' => MR m' (rtm r s) ∧ ∀ a, a ≠ 250 → m' a = m a) := by
  have z15 : (15 : Int32) + zI (s : Nat) = zI ((15 + s : Nat) : Int) := z_ad 15 s
  unfold d_258
  rw [z15, z2n, z4n]
  refine i_r (by decide) (i_r (by omega) (i_r (by decide) ?_))
  rw [mr_k (by decide) h, mr_k (by omega) h, zI_add, wbs]
  have h1 := h.pt (k := 2) (by decide) (v := r 2 + r (15 + s))
  refine i_r (by omega) ?_
  rw [wbs]
  have h2 := h1.pt (k := 15 + s) (by omega) (v := 0)
  refine i_r (by decide) ?_
  rw [wbs, zI_sub]
  have h3 := h2.pt (k := 4) (by decide) (v := ((2 : Nat) : Int) - (s : Nat))
  refine An.so ⟨h3.cg (fun k hk => ?_), fun a ha => by rw [wr_r ha, wr_r ha, wr_r ha]⟩
  unfold rtm rs
  by_cases k2 : k = 2
  · rw [if_pos k2, if_neg (by omega), if_neg (by omega), if_pos k2]
  · rw [if_neg k2]
    by_cases k15 : k = 15 + s
    · rw [if_pos k15, if_neg (by omega), if_pos k15]
    · rw [if_neg k15]
      by_cases k4 : k = 4
      · rw [if_pos k4, if_pos k4]; rfl
      · rw [if_neg k4, if_neg k4, if_neg k15, if_neg k2]
/-- the numbers of a sending noted, and its time -/
theorem m261w {r1 : Nat → Int} (h : MR m r1) (h13 : 0 ≤ r1 13 ∧ r1 13 ≤ 20) {s : Nat} (hs : s ≤ 1) {t g l rd a f d : Int} {B : Bool} :
    An (d_261_236 249 (zI (s : Nat)) (zI t) (zI g) (zI l) (zI rd) (zI a) (zI (r1 2 + d)) (zI f) B m) (fun p => p.1 = zI (if B = true then 1 else 0) ∧ MR p.2 (rls (rsp r1 s d) (vs8 t (s : Nat) g l rd a f (if B = true then 1 else 0))) ∧ ∀ a, a ≠ 250 → p.2 a = m a) := by
  have z15 : (15 : Int32) + zI (s : Nat) = zI ((15 + s : Nat) : Int) := z_ad 15 s
  unfold d_261_236
  refine (m259 (ci := 13) (ba := 304) (w := 8) h (by decide) (by decide) (by decide) h13.1 h13.2).bd (fun p hp => ?_)
  obtain ⟨p1, p2, p3⟩ := hp
  obtain ⟨x, m2⟩ := p
  dsimp only at p1 p2 p3 ⊢
  generalize hN : (if r1 13 = 20 then 19 else (r1 13).toNat : Nat) = N at p1
  have hN2 : N < 20 := by split at hN <;> omega
  rw [show ((304 : Nat) : Int) + ((8 : Nat) : Int) * (N : Nat) = ((304 + 8 * N : Nat) : Int) by omega] at p1
  subst p1
  generalize hρ : (fun k => if k = 13 then (if r1 13 = 20 then 20 else r1 13 + 1) else if r1 13 = 20 ∧ 304 ≤ k ∧ k < 304 + 19 * 8 then r1 (k + 8) else r1 k) = ρ at p2
  rw [z_a1 z1n, z_a1 z2n, z_a1 z3n, z_a1 z4n, z_a1 z5n, z_a1 z6n]
  have key : ∀ (C : Bool) (b : Int), bi C = zI b → (b = if C = true then 1 else 0) → C = B → An (if ev_in (zI ((304 + 8 * N : Nat) : Int)) (sh_n (sh_r 249 1)) = true then (wb (wr m2 (sh_r 249 1) (ix (zI ((304 + 8 * N : Nat) : Int))) (zI t)) fun m19 => if ev_in (zI ((304 + 8 * N + 1 : Nat) : Int)) (sh_n (sh_r 249 1)) = true then (wb (wr m19 (sh_r 249 1) (ix (zI ((304 + 8 * N + 1 : Nat) : Int))) (zI (s : Nat))) fun m20 => if ev_in (zI ((304 + 8 * N + 2 : Nat) : Int)) (sh_n (sh_r 249 1)) = true then (wb (wr m20 (sh_r 249 1) (ix (zI ((304 + 8 * N + 2 : Nat) : Int))) (zI g)) fun m21 => if ev_in (zI ((304 + 8 * N + 3 : Nat) : Int)) (sh_n (sh_r 249 1)) = true then (wb (wr m21 (sh_r 249 1) (ix (zI ((304 + 8 * N + 3 : Nat) : Int))) (zI l)) fun m22 => if ev_in (zI ((304 + 8 * N + 4 : Nat) : Int)) (sh_n (sh_r 249 1)) = true then (wb (wr m22 (sh_r 249 1) (ix (zI ((304 + 8 * N + 4 : Nat) : Int))) (zI rd)) fun m23 => if ev_in (zI ((304 + 8 * N + 5 : Nat) : Int)) (sh_n (sh_r 249 1)) = true then (wb (wr m23 (sh_r 249 1) (ix (zI ((304 + 8 * N + 5 : Nat) : Int))) (zI a)) fun m24 => if ev_in (zI ((304 + 8 * N + 6 : Nat) : Int)) (sh_n (sh_r 249 1)) = true then (wb (wr m24 (sh_r 249 1) (ix (zI ((304 + 8 * N + 6 : Nat) : Int))) (zI f)) fun m25 => d_261_346 249 (zI (s : Nat)) (zI (r1 2 + d)) B (sh_r 249 1) (zI ((304 + 8 * N : Nat) : Int) + 7) C m25) else none) else none) else none) else none) else none) else none) else none) (fun p => p.1 = zI (if B = true then 1 else 0) ∧ MR p.2 (rls (rsp r1 s d) (vs8 t (s : Nat) g l rd a f (if B = true then 1 else 0))) ∧ ∀ a, a ≠ 250 → p.2 a = m a) := by
    intro C b hb hb2 hC
    refine i_r (by omega) ?_
    rw [wbs]
    have h0 := p2.pt (k := 304 + 8 * N) (by omega) (v := t)
    refine i_r (by omega) ?_
    rw [wbs]
    have h1 := h0.pt (k := 304 + 8 * N + 1) (by omega) (v := (s : Nat))
    refine i_r (by omega) ?_
    rw [wbs]
    have h2 := h1.pt (k := 304 + 8 * N + 2) (by omega) (v := g)
    refine i_r (by omega) ?_
    rw [wbs]
    have h3 := h2.pt (k := 304 + 8 * N + 3) (by omega) (v := l)
    refine i_r (by omega) ?_
    rw [wbs]
    have h4 := h3.pt (k := 304 + 8 * N + 4) (by omega) (v := rd)
    refine i_r (by omega) ?_
    rw [wbs]
    have h5 := h4.pt (k := 304 + 8 * N + 5) (by omega) (v := a)
    refine i_r (by omega) ?_
    rw [wbs]
    have h6 := h5.pt (k := 304 + 8 * N + 6) (by omega) (v := f)
    have f6 : ∀ c, c ≠ 250 → wr (wr (wr (wr (wr (wr (wr m2 (sh_r 249 1) (ix (zI ((304 + 8 * N : Nat) : Int))) (zI t)) (sh_r 249 1) (ix (zI ((304 + 8 * N + 1 : Nat) : Int))) (zI (s : Nat))) (sh_r 249 1) (ix (zI ((304 + 8 * N + 2 : Nat) : Int))) (zI g)) (sh_r 249 1) (ix (zI ((304 + 8 * N + 3 : Nat) : Int))) (zI l)) (sh_r 249 1) (ix (zI ((304 + 8 * N + 4 : Nat) : Int))) (zI rd)) (sh_r 249 1) (ix (zI ((304 + 8 * N + 5 : Nat) : Int))) (zI a)) (sh_r 249 1) (ix (zI ((304 + 8 * N + 6 : Nat) : Int))) (zI f) c = m c := fun c hc => by rw [wr_r hc, wr_r hc, wr_r hc, wr_r hc, wr_r hc, wr_r hc, wr_r hc, p3 c hc]
    generalize wr (wr (wr (wr (wr (wr (wr m2 (sh_r 249 1) (ix (zI ((304 + 8 * N : Nat) : Int))) (zI t)) (sh_r 249 1) (ix (zI ((304 + 8 * N + 1 : Nat) : Int))) (zI (s : Nat))) (sh_r 249 1) (ix (zI ((304 + 8 * N + 2 : Nat) : Int))) (zI g)) (sh_r 249 1) (ix (zI ((304 + 8 * N + 3 : Nat) : Int))) (zI l)) (sh_r 249 1) (ix (zI ((304 + 8 * N + 4 : Nat) : Int))) (zI rd)) (sh_r 249 1) (ix (zI ((304 + 8 * N + 5 : Nat) : Int))) (zI a)) (sh_r 249 1) (ix (zI ((304 + 8 * N + 6 : Nat) : Int))) (zI f) = M at h6 f6 ⊢
    unfold d_261_346
    rw [z_a1 z7n, hb, z15, show (12 : Int32) = zI ((12 : Nat) : Int) from rfl, z2n]
    refine i_r (by omega) ?_
    rw [wbs]
    have h7 := h6.pt (k := 304 + 8 * N + 7) (by omega) (v := b)
    have f7 : ∀ c, c ≠ 250 → wr M (sh_r 249 1) (ix (zI ((304 + 8 * N + 7 : Nat) : Int))) (zI b) c = m c := fun c hc => by rw [wr_r hc, f6 c hc]
    generalize wr M (sh_r 249 1) (ix (zI ((304 + 8 * N + 7 : Nat) : Int))) (zI b) = M7 at h7 f7 ⊢
    have e8 : ∀ k, rs (rs (rs (rs (rs (rs (rs (rs ρ (304 + 8 * N) t) (304 + 8 * N + 1) (s : Nat)) (304 + 8 * N + 2) g) (304 + 8 * N + 3) l) (304 + 8 * N + 4) rd) (304 + 8 * N + 5) a) (304 + 8 * N + 6) f) (304 + 8 * N + 7) b k = if 304 + 8 * N ≤ k ∧ k < 304 + 8 * N + 8 then vs8 t (s : Nat) g l rd a f b (k - (304 + 8 * N)) else ρ k := fun k => rs8 (v := vs8 t (s : Nat) g l rd a f b)
    generalize rs (rs (rs (rs (rs (rs (rs (rs ρ (304 + 8 * N) t) (304 + 8 * N + 1) (s : Nat)) (304 + 8 * N + 2) g) (304 + 8 * N + 3) l) (304 + 8 * N + 4) rd) (304 + 8 * N + 5) a) (304 + 8 * N + 6) f) (304 + 8 * N + 7) b = ρ8 at h7 e8
    have ρo : ∀ k, ¬ (304 ≤ k ∧ k < 464) → k ≠ 13 → ρ8 k = r1 k := fun k k1 k2 => by
      rw [e8 k, if_neg (by omega), ← hρ]
      show (if k = 13 then _ else _) = _
      rw [if_neg k2, if_neg (by omega)]
    refine i_r (by decide) (i_r (by decide) ?_)
    rw [mr_k (by decide) h7, zl_1, zI_add, wbs]
    have h8 := h7.pt (k := 12) (by decide) (v := ρ8 12 + 1)
    refine i_r (by omega) (i_r (by decide) (i_r (by omega) ?_))
    rw [mr_k (by omega) h8, mr_k (by decide) h8, rs_ne (by omega), rs_ne (by decide), ρo 2 (by decide) (by decide), ρo (15 + s) (by omega) (by omega), zI_sub, zI_sub, wbs]
    have h9 := h8.pt (k := 15 + s) (by omega) (v := r1 (15 + s) - (r1 2 + d - r1 2))
    refine i_r (by decide) ?_
    rw [wbs]
    have h10 := h9.pt (k := 2) (by decide) (v := r1 2 + d)
    have fin : ∀ k, k < 584 → rls (rsp r1 s d) (vs8 t (s : Nat) g l rd a f (if B = true then 1 else 0)) k = rs (rs (rs ρ8 12 (ρ8 12 + 1)) (15 + s) (r1 (15 + s) - (r1 2 + d - r1 2))) 2 (r1 2 + d) k := fun k hk => by
      have o13 : rsp r1 s d 13 = r1 13 := by
        unfold rsp
        rw [if_neg (by decide), if_neg (by omega)]
      have o12 : rsp r1 s d 12 = r1 12 := by
        unfold rsp
        rw [if_neg (by decide), if_neg (by omega)]
      by_cases k2 : k = 2
      · rw [k2, rs_eq, rls_n (by unfold pL; omega)]
        unfold rsp
        rw [if_pos rfl]
      · rw [rs_ne k2]
        by_cases k15 : k = 15 + s
        · rw [k15, rs_eq, rls_n (by unfold pL; omega)]
          unfold rsp
          rw [if_neg (by omega), if_pos rfl]
          omega
        · rw [rs_ne k15]
          by_cases k12 : k = 12
          · rw [k12, rs_eq, ρo 12 (by decide) (by decide)]
            unfold rls
            rw [if_neg (by decide), if_pos rfl, o12]
          · rw [rs_ne k12, e8 k]
            unfold rls
            rw [o13, hN]
            by_cases k13 : k = 13
            · rw [if_pos k13, if_neg (show ¬ (304 + 8 * N ≤ k ∧ k < 304 + 8 * N + 8) by omega), ← hρ]
              show _ = (if k = 13 then _ else _)
              rw [if_pos k13]
            · rw [if_neg k13, if_neg k12]
              have ρk : ρ k = if r1 13 = 20 ∧ 304 ≤ k ∧ k < 304 + 19 * 8 then r1 (k + 8) else r1 k := by
                rw [← hρ]
                show (if k = 13 then _ else _) = _
                rw [if_neg k13]
              have sp : ∀ j, j ≠ 2 → j ≠ 15 + s → rsp r1 s d j = r1 j := fun j j1 j2 => by
                unfold rsp
                rw [if_neg j1, if_neg j2]
              by_cases kl : 304 ≤ k ∧ k < 464
              · rw [if_pos kl]
                by_cases kn : 304 + 8 * N ≤ k ∧ k < 312 + 8 * N
                · rw [if_pos kn, if_pos (show 304 + 8 * N ≤ k ∧ k < 304 + 8 * N + 8 by omega), hb2, hC]
                · rw [if_neg kn, if_neg (show ¬ (304 + 8 * N ≤ k ∧ k < 304 + 8 * N + 8) by omega), ρk]
                  by_cases k20 : r1 13 = 20 ∧ k < 456
                  · rw [if_pos k20, if_pos (show r1 13 = 20 ∧ 304 ≤ k ∧ k < 304 + 19 * 8 by omega), sp _ (by omega) (by omega)]
                  · rw [if_neg k20, if_neg (show ¬ (r1 13 = 20 ∧ 304 ≤ k ∧ k < 304 + 19 * 8) by omega), sp _ (by omega) (by omega)]
              · rw [if_neg kl, if_neg (show ¬ (304 + 8 * N ≤ k ∧ k < 304 + 8 * N + 8) by omega), ρk, if_neg (show ¬ (r1 13 = 20 ∧ 304 ≤ k ∧ k < 304 + 19 * 8) by omega), sp _ k2 k15]
    have fr : ∀ c, c ≠ 250 → wr (wr (wr M7 (sh_r 249 1) (ix (zI ((12 : Nat) : Int))) (zI (ρ8 12 + 1))) (sh_r 249 1) (ix (zI ((15 + s : Nat) : Int))) (zI (r1 (15 + s) - (r1 2 + d - r1 2)))) (sh_r 249 1) (ix (zI ((2 : Nat) : Int))) (zI (r1 2 + d)) c = m c := fun c hc => by rw [wr_r hc, wr_r hc, wr_r hc, f7 c hc]
    cases B
    · rw [if_neg (by decide)]
      exact An.so ⟨rfl, h10.cg fin, fr⟩
    · rw [if_pos rfl]
      exact An.so ⟨rfl, h10.cg fin, fr⟩
  cases B
  · refine (key false 0 rfl rfl rfl).mp (fun v hv => hv) |> fun z => ?_
    simp only [Bool.false_eq_true, ifn]
    exact z
  · refine (key true 1 rfl rfl rfl).mp (fun v hv => hv) |> fun z => ?_
    simp only [ift]
    exact z
end MY
