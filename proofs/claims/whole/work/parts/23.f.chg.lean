/-! delay. -/
section HG
variable {m : Mm} {W H n : Nat} {r ρ : Nat → Int}
/-- rows that differ in the time and the clocks alone -/
def tcq (r ρ : Nat → Int) : Prop := ∀ k, k ≠ 2 → k ≠ 15 → k ≠ 16 → ρ k = r k
theorem tcq.sp {s : Nat} (hs : s ≤ 1) {d : Int} : tcq r (rsp r s d) := fun k h2 h15 h16 => by
  unfold rsp
  rw [if_neg h2, if_neg (by omega)]
theorem tcq.fn (e : tcq r ρ) {t : Nat} (ht : 17 ≤ t) : (fun c => ρ (t + c)) = fun c => r (t + c) := funext fun c => e _ (by omega) (by omega) (by omega)
theorem tcq.fF (e : tcq r ρ) : rF ρ = rF r ∧ rL ρ = rL r ∧ rE ρ = rE r := ⟨funext fun k => e _ (by omega) (by omega) (by omega), funext fun k => e _ (by omega) (by omega) (by omega), funext fun k => e _ (by omega) (by omega) (by omega)⟩
theorem tcq.e_rsee (e : tcq r ρ) {t : Int} {c : Nat} : rsee ρ t c = rsee r t c := by
  unfold rsee
  rw [e 8 (by decide) (by decide) (by decide), e.fF.1, e.fF.2.1, e.fF.2.2]
theorem tcq.e_fG (e : tcq r ρ) {s x y X Y : Nat} (hs : s ≤ 1) : fG ρ s x y X Y = fG r s x y X Y := by
  unfold fG
  rw [e (9 + s) (by omega) (by omega) (by omega)]
theorem tcq.e_fl (e : tcq r ρ) {s x y X Y : Nat} (hs : s ≤ 1) {t : Int} : fl ρ s x y X Y t = fl r s x y X Y t := by
  funext k
  unfold fl
  rw [e.e_fG hs, e.e_rsee, e 5 (by decide) (by decide) (by decide)]
theorem tcq.e_rdx (e : tcq r ρ) {s q : Nat} (hq : q ≤ 1) {l : Nat → Nat} : rdx W H ρ s q l = rdx W H r s q l := by
  by_cases h : okm W H l
  · rw [rdx_y h, rdx_y h, e.fn (t := 24 + 64 * q) (by omega), e.fn (t := 152 + 64 * q) (by omega), e (9 + q) (by omega) (by omega) (by omega), e (17 + q) (by omega) (by omega) (by omega), e (19 + q) (by omega) (by omega) (by omega), e (21 + q) (by omega) (by omega) (by omega)]
  · rw [rdx_n h, rdx_n h]
theorem tcq.e_frd (e : tcq r ρ) {s q x y X Y : Nat} (hs : s ≤ 1) (hq : q ≤ 1) {t : Int} : frd W H ρ s q x y X Y t = frd W H r s q x y X Y t := by
  unfold frd
  rw [e.e_fl hs, e.e_rdx hq]
theorem tcq.e_fan (e : tcq r ρ) {s q x y X Y : Nat} (hs : s ≤ 1) (hq : q ≤ 1) {t : Int} : fan W H ρ s q x y X Y t = fan W H r s q x y X Y t := by
  unfold fan
  rw [e.e_frd hs hq, e.e_fl hs, e.fn (t := 24 + 64 * q) (by omega), e.fn (t := 152 + 64 * q) (by omega)]
theorem tcq.e_flen (e : tcq r ρ) {s x y X Y : Nat} (hs : s ≤ 1) : flen ρ s x y X Y = flen r s x y X Y := by
  unfold flen
  rw [e.e_fG hs, e 5 (by decide) (by decide) (by decide)]
theorem tcq.e_fia (e : tcq r ρ) {s q x y X Y : Nat} (hs : s ≤ 1) (hq : q ≤ 1) {t : Int} : fia W H ρ s q x y X Y t = fia W H r s q x y X Y t := by
  unfold fia fsn
  rw [e.e_flen hs, e.e_fan hs hq, e.e_rsee, e.fn (t := 24 + 64 * s) (by omega)]
theorem tcq.e_ftk (e : tcq r ρ) {s q x y X Y : Nat} (hs : s ≤ 1) (hq : q ≤ 1) {t : Int} : ftk W H ρ s q x y X Y t = ftk W H r s q x y X Y t := by
  unfold ftk
  rw [e.e_flen hs, e.e_fan hs hq, e 5 (by decide) (by decide) (by decide)]
theorem pls_ge {s q x y X Y : Nat} : ∀ (n j : Nat) (r : Nat → Int), 2 ≤ j → (pls W H s q x y X Y n j r).1 ≠ 1 := by
  intro n
  induction n with
  | zero => intro j r _; show (0 : Int) ≠ 1; decide
  | succ n ih =>
    intro j r hj
    unfold pls
    generalize (if j = 1 then (0 : Int) else r 6) = w
    by_cases qc : w + ftk W H r s q x y X Y (r 2 + w) < r (15 + s)
    · rw [if_pos qc]
      by_cases qi : fia W H r s q x y X Y (r 2 + w) = true
      · rw [if_pos qi]; show ((j : Nat) : Int) ≠ 1; omega
      · rw [if_neg qi]; exact ih (j + 1) _ (by omega)
    · rw [if_neg qc]; show (-1 : Int) ≠ 1; decide
theorem pls_1 {s q x y X Y n : Nat} {r : Nat → Int} : (pls W H s q x y X Y (n + 1) 1 r).1 = 1 ↔ ftk W H r s q x y X Y (r 2) < r (15 + s) ∧ fia W H r s q x y X Y (r 2) = true := by
  unfold pls
  rw [if_pos rfl, Int.add_zero, Int.zero_add]
  by_cases qc : ftk W H r s q x y X Y (r 2) < r (15 + s)
  · rw [if_pos qc]
    by_cases qi : fia W H r s q x y X Y (r 2) = true
    · rw [if_pos qi]; exact ⟨fun _ => ⟨qc, qi⟩, fun _ => rfl⟩
    · rw [if_neg qi]
      exact ⟨fun h => absurd h (pls_ge _ _ _ (by decide)), fun h => absurd h.2 qi⟩
  · rw [if_neg qc]
    exact ⟨fun h => absurd h (by show ¬ (-1 : Int) = 1; decide), fun h => absurd h.1 qc⟩
/-- so many ticks later it would be answered at once -/
noncomputable def dlp (W H : Nat) (r : Nat → Int) (s q x y X Y : Nat) (k : Nat) : Bool := decide (ftk W H r s q x y X Y (r 2 + (k : Nat)) < r (15 + s) - (k : Nat)) && fia W H r s q x y X Y (r 2 + (k : Nat))
noncomputable def dlD (W H : Nat) (r : Nat → Int) (s q x y X Y : Nat) (N : Nat) : Int := if ff (dlp W H r s q x y X Y) (N + 1) < N + 1 then (ff (dlp W H r s q x y X Y) (N + 1) : Nat) else -1
theorem dl_at {s q x y X Y N k : Nat} (hk : k < N + 1) (h : dlp W H r s q x y X Y k = true) (h0 : ∀ j, j < k → dlp W H r s q x y X Y j = false) : dlD W H r s q x y X Y N = (k : Nat) := by
  have e : ff (dlp W H r s q x y X Y) (N + 1) = k := ff_eq h0 (by omega) (fun _ => h)
  unfold dlD
  rw [e, if_pos hk]
theorem dl_no {s q x y X Y N : Nat} (h0 : ∀ j, j < N + 1 → dlp W H r s q x y X Y j = false) : dlD W H r s q x y X Y N = -1 := by
  have e : ff (dlp W H r s q x y X Y) (N + 1) = N + 1 := ff_eq h0 (Nat.le_refl _) (fun h => absurd h (Nat.lt_irrefl _))
  unfold dlD
  rw [e, if_neg (Nat.lt_irrefl _)]
theorem c149 (hn : n ≤ 512) (hG : iGam n m r W H) {s q : Nat} (hs : s + q = 1) (h3 : r 3 = s) {x y X Y : Nat} (hx : x < W) (hy : y < H) (hX : X < W) (hY : Y < H) {N : Nat} (hN : N ≤ 200) :
    An (d_149_57 20 (zI (N : Nat)) (zI ((x + 8 * y : Nat) : Int)) (zI ((X + 8 * Y : Nat) : Int)) (zI 0) m) (fun p => p.1 = .inl (zI (dlD W H r s q x y X Y N)) ∧ ∀ a, a < 234 ∨ 236 < a → p.2 a = m a) := by
  obtain ⟨-, hrS, -⟩ := RG.iff.mp hG.2.1
  have h2 := hrS.1
  have hcl := hrS.2.2.2.2.2.2 s (by omega)
  unfold d_149_57
  refine it_inv (fun k (u : Int32 × Mm) => u.1 = zI (k : Nat) ∧ (∀ j, j < k → dlp W H r s q x y X Y j = false) ∧ ∀ a, a < 234 ∨ 236 < a → u.2 a = m a) _ (N + 1) ⟨rfl, fun j hj => absurd hj (Nat.not_lt_zero j), fun _ _ => rfl⟩ (fun k hk u hu => ?_) (fun u hu => ?_)
  · obtain ⟨z, M⟩ := u
    obtain ⟨u1, u2, u3⟩ := hu
    dsimp only at u1 u2 u3
    subst u1
    have gM : GR M 23 r W H := hG.2.2.mm (fun a a1 a2 => u3 a (by omega))
    show An (s_149_57 20 (zI (N : Nat)) (zI ((x + 8 * y : Nat) : Int)) (zI ((X + 8 * Y : Nat) : Int)) (zI (k : Nat)) M) _
    unfold s_149_57
    rw [if_neg (by rw [zI_lt (by omega) (by omega) (by omega) (by omega)]; omega), k_r1, k_r6, gM.2.2.2.2.2.1, zI_add]
    refine (c59 gA_23 (by decide) gM (k := n) (by omega) hG.2.1 hs h3 (t := r 2 + (k : Nat)) (by omega) (by omega) hx hy hX hY).bd (fun M1 h1 => ?_)
    obtain ⟨S1, f1⟩ := h1
    have g1 : GR M1 23 r W H := gM.mm (fun a a1 a2 => f1 a (by omega))
    have tk := ftk_r hG.2.1 (s := s) (q := q) (by omega) hx hy hX hY (t := r 2 + (k : Nat))
    have fr : ∀ a, a < 234 ∨ 236 < a → M1 a = m a := fun a ha => by rw [f1 a ha, u3 a ha]
    rw [g1.2.2.2.2.2.2.1, h3, c52 g1 (by omega)]
    simp only [obs]
    rw [wbs, zI_sub, S1.2.2.2.2.1, zbb, S1.2.2.2.2.2.1]
    have next : dlp W H r s q x y X Y k = false → An (wb (zI (k : Nat) + 1) fun y15 => some (Sum.inl (y15, M1) : (Int32 × Mm) ⊕ ((Int32 ⊕ Nat) × Mm))) (fun v => match v with | .inl s' => s'.1 = zI ((k + 1 : Nat) : Int) ∧ (∀ j, j < k + 1 → dlp W H r s q x y X Y j = false) ∧ ∀ a, a < 234 ∨ 236 < a → s'.2 a = m a | .inr v => v.1 = .inl (zI (dlD W H r s q x y X Y N)) ∧ ∀ a, a < 234 ∨ 236 < a → v.2 a = m a) := fun hd => by
      rw [wbs]
      refine An.so ⟨by rw [zl_1, zI_add]; rfl, fun j hj => ?_, fr⟩
      by_cases e : j = k
      · rw [e]; exact hd
      · exact u2 j (by omega)
    by_cases qi : fia W H r s q x y X Y (r 2 + (k : Nat)) = true
    · rw [if_pos qi]
      by_cases qc : ftk W H r s q x y X Y (r 2 + (k : Nat)) < r (15 + s) - (k : Nat)
      · rw [if_neg (by rw [zI_le (by omega) (by omega) (by omega) (by omega)]; omega)]
        refine An.so ⟨?_, fr⟩
        rw [dl_at hk (by unfold dlp; rw [decide_eq_true qc, qi]; rfl) u2]
      · rw [if_pos (by rw [zI_le (by omega) (by omega) (by omega) (by omega)]; omega)]
        exact (next (by unfold dlp; rw [decide_eq_false qc]; rfl)).mp (fun v hv => by cases v <;> exact hv)
    · rw [if_neg qi]
      exact (next (by unfold dlp; rw [Bool.eq_false_iff.mpr qi, Bool.and_false])).mp (fun v hv => by cases v <;> exact hv)
  · obtain ⟨z, M⟩ := u
    obtain ⟨u1, u2, u3⟩ := hu
    dsimp only at u1 u2 u3
    subst u1
    show An (s_149_57 20 (zI (N : Nat)) (zI ((x + 8 * y : Nat) : Int)) (zI ((X + 8 * Y : Nat) : Int)) (zI ((N + 1 : Nat) : Int)) M) _
    unfold s_149_57
    rw [if_pos (by rw [zI_lt (by omega) (by omega) (by omega) (by omega)]; omega)]
    refine An.so ⟨?_, u3⟩
    rw [dl_no u2, show (-1 : Int32) = zI (-1) from by decide]
theorem m269 (hn : n ≤ 512) {M : Mm} (hM : MR M r) (hR : RG (n : Nat) r W H) (h252 : ∀ k, k < 584 → M 252 k = zI (r k)) {s q : Nat} (hs : s + q = 1) (h3 : r 3 = s) {x y X Y : Nat} (hx : x < W) (hy : y < H) (hX : X < W) (hY : Y < H) (hm : ¬ (x = X ∧ y = Y)) {N : Nat} (hN : N ≤ 200) :
    An (d_269_104 249 (zI (N : Nat)) (zI ((x + W * y : Nat) : Int)) (zI ((X + W * Y : Nat) : Int)) (zI (s : Nat)) 0 M) (fun p => p.1 = zI (dlD W H r s q x y X Y N) ∧ MR p.2 r ∧ ∀ a, a ≠ 250 → a ≠ 253 → a ≠ 262 → a ≠ 263 → p.2 a = M a) := by
  obtain ⟨hWr, hrS, -⟩ := RG.iff.mp hR
  have h2 := hrS.1
  have h7 := hrS.2.2.2.2.2.1
  have hcl := hrS.2.2.2.2.2.2 s (by omega)
  obtain ⟨b1, b2, b3, b4, b5, b6⟩ := pl_b (n := n) hn hR hs
  have z15 : (15 : Int32) + zI (s : Nat) = zI ((15 + s : Nat) : Int) := z_ad 15 s
  have back : ∀ (M6 : Mm) (z : Int32), (∀ a, a ≠ 250 → a ≠ 253 → a ≠ 262 → a ≠ 263 → M6 a = M a) → An (d_267 249 z M6) (fun p => p.1 = z ∧ MR p.2 r ∧ ∀ a, a ≠ 250 → a ≠ 253 → a ≠ 262 → a ≠ 263 → p.2 a = M a) := fun M6 z f6 => by
    unfold d_267
    rw [m_r1, m_r3]
    refine (m186 (a := 252) (b := 250) (by decide) n_252 n_250).bd (fun M7 h7 => ?_)
    exact An.so ⟨rfl, fun k hk => by dsimp only; rw [h7.1 k hk, f6 252 (by decide) (by decide) (by decide) (by decide)]; exact h252 k hk, fun a a1 a2 a3 a4 => by dsimp only; rw [h7.2 a a1, f6 a a1 a2 a3 a4]⟩
  have none_ : ∀ M6 : Mm, (∀ a, a ≠ 250 → a ≠ 253 → a ≠ 262 → a ≠ 263 → M6 a = M a) → (∀ j, j < N + 1 → dlp W H r s q x y X Y j = false) → An ((d_269_200 249 M6).map Sum.inr) (fun v => match v with | .inl (s' : Int32 × Mm) => False | .inr v => v.1 = zI (dlD W H r s q x y X Y N) ∧ MR v.2 r ∧ ∀ a, a ≠ 250 → a ≠ 253 → a ≠ 262 → a ≠ 263 → v.2 a = M a) := fun M6 f6 hno => by
    unfold d_269_200
    refine An.mo ((back M6 _ f6).bd (fun p hp => An.so ⟨?_, hp.2⟩))
    rw [hp.1, dl_no hno]
    decide
  unfold d_269_104
  rw [zl_0]
  refine it_inv (fun k (u : Int32 × Mm) => u.1 = zI (k : Nat) ∧ (∀ j, j < k → dlp W H r s q x y X Y j = false) ∧ MR u.2 r ∧ ∀ a, a ≠ 250 → a ≠ 253 → a ≠ 262 → a ≠ 263 → u.2 a = M a) _ (N + 1) ⟨rfl, fun j hj => absurd hj (Nat.not_lt_zero j), hM, fun _ _ _ _ _ => rfl⟩ (fun k hk u hu => ?_) (fun u hu => ?_)
  · obtain ⟨z, M6⟩ := u
    obtain ⟨u1, u2, u3, u4⟩ := hu
    dsimp only at u1 u2 u3 u4
    subst u1
    show An (s_269_104 249 (zI (N : Nat)) (zI ((x + W * y : Nat) : Int)) (zI ((X + W * Y : Nat) : Int)) (zI (s : Nat)) (zI (k : Nat)) M6) _
    unfold s_269_104
    rw [if_neg (by rw [zI_lt (by omega) (by omega) (by omega) (by omega)]; omega), z15, m_r3, n_252, if_pos (in_k (by omega) (by decide)), show M6 252 (ix (zI ((15 + s : Nat) : Int))) = zI (r (15 + s)) by rw [z_ix (by omega), u4 252 (by decide) (by decide) (by decide) (by decide)]; exact h252 (15 + s) (by omega), z2n]
    by_cases qk : r (15 + s) ≤ (k : Nat)
    · rw [if_pos (by rw [zI_le (by omega) (by omega) (by omega) (by omega)]; exact qk)]
      refine (none_ M6 u4 (fun j hj => ?_)).mp (fun v hv => by
        cases v with
        | inl s' => exact absurd hv id
        | inr v => exact hv)
      by_cases e : j < k
      · exact u2 j e
      · have tk := ftk_r hR (s := s) (q := q) (by omega) hx hy hX hY (t := r 2 + (j : Nat))
        unfold dlp
        rw [decide_eq_false (by omega), Bool.false_and]
    · rw [if_neg (by rw [zI_le (by omega) (by omega) (by omega) (by omega)]; exact qk)]
      refine i_r (by decide) (i_r (by decide) ?_)
      rw [mr_k (by decide) u3, zI_add, wbs]
      have h1 := u3.pt (k := 2) (by decide) (v := r 2 + (k : Nat))
      refine i_r (by omega) (i_r (by omega) ?_)
      rw [mr_k (by omega) h1, rs_ne (by omega), zI_sub, wbs]
      have h2' : MR (wr (wr M6 (sh_r 249 1) (ix (zI ((2 : Nat) : Int))) (zI (r 2 + (k : Nat)))) (sh_r 249 1) (ix (zI ((15 + s : Nat) : Int))) (zI (r (15 + s) - (k : Nat)))) (rsp r s (k : Nat)) := (h1.pt (k := 15 + s) (by omega) (v := r (15 + s) - (k : Nat))).cg (fun j hj => by
        unfold rsp rs
        by_cases k2 : j = 2
        · rw [if_pos k2, if_neg (by omega), if_pos k2]
        · rw [if_neg k2]
          by_cases k15 : j = 15 + s
          · rw [if_pos k15, if_pos k15]
          · rw [if_neg k15, if_neg k15, if_neg k2])
      have f2 : ∀ a, a ≠ 250 → a ≠ 253 → a ≠ 262 → a ≠ 263 → wr (wr M6 (sh_r 249 1) (ix (zI ((2 : Nat) : Int))) (zI (r 2 + (k : Nat)))) (sh_r 249 1) (ix (zI ((15 + s : Nat) : Int))) (zI (r (15 + s) - (k : Nat))) a = M a := fun a a1 a2 a3 a4 => by rw [wr_r a1, wr_r a1, u4 a a1 a2 a3 a4]
      generalize wr (wr M6 (sh_r 249 1) (ix (zI ((2 : Nat) : Int))) (zI (r 2 + (k : Nat)))) (sh_r 249 1) (ix (zI ((15 + s : Nat) : Int))) (zI (r (15 + s) - (k : Nat))) = M7 at h2' f2 ⊢
      have e := tcq.sp (r := r) (s := s) (by omega) (d := (k : Nat))
      have eR : RG ((n + 1 : Nat) : Int) (rsp r s (k : Nat)) W H := b2.sp (by omega) (by omega) (by omega) (by omega)
      have e2 : rsp r s (k : Nat) 2 = r 2 + (k : Nat) := if_pos rfl
      have e15 : rsp r s (k : Nat) (15 + s) = r (15 + s) - (k : Nat) := by
        unfold rsp
        rw [if_neg (by omega), if_pos rfl]
      have e7 : rsp r s (k : Nat) 7 = r 7 := e 7 (by decide) (by decide) (by decide)
      obtain ⟨hp, -, p8, p9⟩ := m263 b1 hs hx hy hX hY hm (r 7).toNat 1 M7 (rsp r s (k : Nat)) h2' eR (by rw [e 3 (by decide) (by decide) (by decide)]; exact h3) (Nat.le_refl _) (by rw [e7]; exact b3) (by rw [e2, e15]; omega) (by rw [e (9 + q) (by omega) (by omega) (by omega)]; exact b5) (by rw [e (9 + s) (by omega) (by omega) (by omega)]; exact b6)
      have one : (pls W H s q x y X Y (r 7).toNat 1 (rsp r s (k : Nat))).1 = 1 ↔ dlp W H r s q x y X Y k = true := by
        obtain ⟨t, ht⟩ : ∃ t, (r 7).toNat = t + 1 := ⟨(r 7).toNat - 1, by omega⟩
        rw [ht, pls_1, e2, e15, e.e_ftk (by omega) (by omega), e.e_fia (by omega) (by omega)]
        unfold dlp
        rw [Bool.and_eq_true, decide_eq_true_eq]
      unfold d_263
      refine hp.bd (fun p hp => ?_)
      obtain ⟨p1, p2, p3⟩ := hp
      rw [p1]
      have f3 : ∀ a, a ≠ 250 → a ≠ 253 → a ≠ 262 → a ≠ 263 → p.2 a = M a := fun a a1 a2 a3 a4 => by rw [p3 a a1 a2 a3 a4, f2 a a1 a2 a3 a4]
      by_cases qd : dlp W H r s q x y X Y k = true
      · rw [if_neg (by rw [one.mpr qd]; exact fun e => e rfl)]
        unfold d_269_176
        refine An.mo ((back p.2 _ f3).bd (fun p' hp' => An.so ⟨?_, hp'.2⟩))
        rw [hp'.1, dl_at hk qd u2]
      · rw [if_pos (by rw [zl_1, zI_inj (by omega) (by omega) (by omega) (by omega)]; exact fun e => qd (one.mp e)), m_r1]
        refine (m186 (a := 252) (b := 250) (by decide) n_252 n_250).bd (fun M8 h8 => ?_)
        simp only [wbs]
        refine An.so ⟨by rw [zl_1, zI_add]; rfl, fun j hj => ?_, fun j hj => ?_, fun a a1 a2 a3 a4 => by dsimp only; rw [h8.2 a a1, f3 a a1 a2 a3 a4]⟩
        · by_cases e : j = k
          · rw [e]; exact Bool.eq_false_iff.mpr qd
          · exact u2 j (by omega)
        · dsimp only
          rw [h8.1 j hj, f3 252 (by decide) (by decide) (by decide) (by decide)]; exact h252 j hj
  · obtain ⟨z, M6⟩ := u
    obtain ⟨u1, u2, u3, u4⟩ := hu
    dsimp only at u1 u2 u3 u4
    subst u1
    show An (s_269_104 249 (zI (N : Nat)) (zI ((x + W * y : Nat) : Int)) (zI ((X + W * Y : Nat) : Int)) (zI (s : Nat)) (zI ((N + 1 : Nat) : Int)) M6) _
    unfold s_269_104
    rw [if_pos (by rw [zI_lt (by omega) (by omega) (by omega) (by omega)]; omega)]
    exact (none_ M6 u4 u2).mp (fun v hv => by cases v <;> exact hv)
theorem P_27 (hn : n ≤ 512) (hI : Inv n m) : ∀ (a1 a2 a3 a4 a5 : Int32), PR n m (d_333 20 a1 a2 a3 a4 a5 266 m) (fun m1 => d_269 249 a1 a2 a3 a4 a5 m1) := by
  intro x y X Y w
  obtain ⟨x, rfl, hx⟩ := zI_ex x
  obtain ⟨y, rfl, hy⟩ := zI_ex y
  obtain ⟨X, rfl, hX⟩ := zI_ex X
  obtain ⟨Y, rfl, hY⟩ := zI_ex Y
  obtain ⟨w, rfl, hw⟩ := zI_ex w
  obtain ⟨r, W, H, hG⟩ := hI.2.2.1
  have hW := iG_w hG
  obtain ⟨-, hrS, -⟩ := RG.iff.mp hG.2.1
  have h4 := hrS.2.2.1
  obtain ⟨s1, s2, s3⟩ := tS_f hG
  have no : ∀ M, d_269_31 249 (zI x) (zI y) (zI X) (zI Y) (zI w) 249 false M = some (0, wr M 249 0 (zI 1)) := fun M => by
    unfold d_269_31
    simp only [m183, obs, ifn, Bool.false_eq_true]
  by_cases qi : inC W H x y ∧ inC W H X Y
  · have i1 := qi.1
    have i2 := qi.2
    have hb := (iG_b hG s1).1
    by_cases qw : 0 ≤ w ∧ w ≤ 200
    · have ew : zI w = zI ((w.toNat : Nat) : Int) := congrArg zI (by omega)
      have y1 : ∀ M, MR M r → d_269 249 (zI x) (zI y) (zI X) (zI Y) (zI w) M = d_269_31 249 (zI x) (zI y) (zI X) (zI Y) (zI w) 249 true M := fun M hM => by
        unfold d_269
        rw [m253i ⟨hM, hG.mw.2⟩ hx hy hX hY qi]
        simp only [obs, ift]
        rw [zl_0, zl_200, m185 hw.1 hw.2 (by decide) (by decide) (by decide) (by decide), decide_eq_true qw]
        simp only [obs, ift]
      by_cases q4 : r 4 = 0
      · have y2 : ∀ M, MR M r → d_269_31 249 (zI x) (zI y) (zI X) (zI Y) (zI w) 249 true M = if mv W (fun c => r (24 + 64 * tS r + c)) (tS r : Nat) x.toNat y.toNat X.toNat Y.toNat = true then ((d_186 (sh_r 249 1) (sh_r 249 3) (wr M 249 0 (zI 0))).bind fun m8 => if ev_in 3 (sh_n (sh_r 249 1)) = true then (wb (m8 (sh_r 249 1) (ix 3)) fun y9 => d_269_104 249 (zI w) (zI ((x.toNat + W * y.toNat : Nat) : Int)) (zI ((X.toNat + W * Y.toNat : Nat) : Int)) y9 0 m8) else none) else (some ((-2), wr M 249 0 (zI 0))) := fun M hM => by
          have hMW : MW (wr M 249 0 (zI 0)) r W H := ⟨hM.told, hG.mw.2⟩
          unfold d_269_31
          simp only [m183, obs, ift]
          rw [m264 hM.told h4, decide_eq_true q4]
          simp only [obs, m184, ift, wr_wr]
          rw [m214n hMW i1.1 i1.2.2.1, m214n hMW i2.1 i2.2.2.1]
          simp only [obs]
          rw [m265 hMW s1 s2 hb (by omega) (by omega) (by omega) (by omega)]
          simp only [obs]
        by_cases qm : mv W (fun c => r (24 + 64 * tS r + c)) (tS r : Nat) x.toNat y.toNat X.toNat Y.toNat = true
        · refine PR_tr hI hG (v := zI (dlD W H r (tS r) (1 - tS r) x.toNat y.toNat X.toNat Y.toNat w.toNat)) ?_ (fun M hQ => ?_)
          · unfold d_333 d_149
            rw [k179i hG.2.2 hW hx hy hX hY qi, bE_l, show (200 : Int32) = zI 200 from rfl, zl_0, k177y hw.1 hw.2 (by decide) (by decide) (by decide) (by decide) qw, bE_l, k180 hG.2.2 h4, if_pos q4, bE_l, k_r1, c12 (by omega) (by omega), c12 (by omega) (by omega)]
            simp only [obs]
            rw [c56 gA_23 hG.2.2 hW s1 s2 hb (by omega) (by omega) (by omega) (by omega), qm]
            simp only [obs, ift]
            rw [ew]
            obtain ⟨p, ep, p1, p2⟩ := c149 hn hG s3 s2 (x := x.toNat) (y := y.toNat) (X := X.toNat) (Y := Y.toNat) (by omega) (by omega) (by omega) (by omega) (N := w.toNat) (by omega)
            obtain ⟨p0, pm⟩ := p
            dsimp only at p1 p2
            subst p1
            rw [ep, bE_l]
            exact lq_ok (Qe.snd p2)
          · have hG1 := hG.q hQ
            have hM := hG1.1
            show An (d_269 249 (zI x) (zI y) (zI X) (zI Y) (zI w) M) _ ∧ _
            have ref : An (d_269 249 (zI x) (zI y) (zI X) (zI Y) (zI w) M) (fun p => (p.1 = zI (dlD W H r (tS r) (1 - tS r) x.toNat y.toNat X.toNat Y.toNat w.toNat) ∧ p.2 249 0 = 0 ∧ MR p.2 r ∧ ∀ a, a ≠ 249 → a ≠ 250 → a ≠ 252 → a ≠ 253 → a ≠ 262 → a ≠ 263 → p.2 a = M a) ∧ ∀ k, k ≠ 0 → p.2 249 k = M 249 k) := by
              rw [y1 M hM, y2 M hM, if_pos qm, m_r1, m_r3]
              refine (m186 (a := 250) (b := 252) (by decide) n_250 n_252).bd (fun M5 h5 => ?_)
              have g5 : MR M5 r := hM.told.mm (h5.2 250 (by decide))
              have g252 : ∀ k, k < 584 → M5 252 k = zI (r k) := fun k hk => by rw [h5.1 k hk]; exact hM.told k hk
              rw [← m_r1, z3n]
              refine i_r (by decide) ?_
              rw [mr_k (by decide) g5, s2, wbs, ew]
              refine (m269 hn g5 hG.2.1 g252 s3 s2 (x := x.toNat) (y := y.toNat) (X := X.toNat) (Y := Y.toNat) (by omega) (by omega) (by omega) (by omega) (mv_f qm).1 (N := w.toNat) (by omega)).mp (fun p hp => ?_)
              obtain ⟨p1, p2, p3⟩ := hp
              have e249 : p.2 249 = wr M 249 0 (zI 0) 249 := by rw [p3 249 (by decide) (by decide) (by decide) (by decide), h5.2 249 (by decide)]
              exact ⟨⟨p1, by rw [e249, wr_eq]; rfl, p2, fun a a1 a2 a3 a4 a5 a6 => by rw [p3 a a2 a4 a5 a6, h5.2 a a3, wr_ne a1]⟩, fun k hk => by rw [e249, wr_nk hk]⟩
            obtain ⟨p, ep, hp1, hp2⟩ := ref
            exact ⟨⟨p, ep, hp1⟩, fun p' ep' => by rw [ep] at ep'; injection ep' with ep'; rw [← ep']; exact hp2⟩
        · refine PR_of hI (code := 0) (v := zI (-2)) (Or.inl rfl) ?_ (fun m1 qe => ?_)
          · unfold d_333 d_149
            rw [k179i hG.2.2 hW hx hy hX hY qi, bE_l, show (200 : Int32) = zI 200 from rfl, zl_0, k177y hw.1 hw.2 (by decide) (by decide) (by decide) (by decide) qw, bE_l, k180 hG.2.2 h4, if_pos q4, bE_l, k_r1, c12 (by omega) (by omega), c12 (by omega) (by omega)]
            simp only [obs]
            rw [c56 gA_23 hG.2.2 hW s1 s2 hb (by omega) (by omega) (by omega) (by omega), Bool.eq_false_iff.mpr qm]
            simp only [obs, Bool.false_eq_true, ifn]
            rw [bE_l, show (-2 : Int32) = zI (-2) from by decide]
            exact lq_ok (Qe.rf m)
          · rw [y1 m1 (hG.q qe).1, y2 m1 (hG.q qe).1, if_neg qm, show (-2 : Int32) = zI (-2) from by decide]
            exact rq_t (code := 0) (fun _ => rfl)
      · refine PR_of hI (code := 2) (v := 0) (Or.inr (Or.inr (Or.inl rfl))) ?_ (fun m1 qe => ?_)
        · unfold d_333 d_149
          rw [k179i hG.2.2 hW hx hy hX hY qi, bE_l, show (200 : Int32) = zI 200 from rfl, zl_0, k177y hw.1 hw.2 (by decide) (by decide) (by decide) (by decide) qw, bE_l, k180 hG.2.2 h4, if_neg q4, bE_r, bE_r, if_neg (by decide), if_pos rfl]
          exact lq_ex (c := 2) (by decide) (Qe.rf m)
        · have hG1 := hG.q qe
          rw [y1 m1 hG1.1]
          unfold d_269_31
          simp only [m183, obs, ift]
          rw [m264 hG1.1.told h4, decide_eq_false q4]
          simp only [obs, m184, ifn, wr_wr, Bool.false_eq_true]
          exact rq_t (code := 2) (fun e => by cases e)
    · refine PR_of hI (code := 1) (v := 0) (Or.inr (Or.inl rfl)) ?_ (fun m1 qe => ?_)
      · unfold d_333 d_149
        rw [k179i hG.2.2 hW hx hy hX hY qi, bE_l, show (200 : Int32) = zI 200 from rfl, zl_0, k177n hw.1 hw.2 (by decide) (by decide) (by decide) (by decide) qw, bE_r, bE_r, if_pos rfl]
        exact lq_ex (c := 1) (by decide) (Qe.rf m)
      · have hG1 := hG.q qe
        unfold d_269
        rw [m253i hG1.mw hx hy hX hY qi]
        simp only [obs, ift]
        rw [zl_0, zl_200, m185 hw.1 hw.2 (by decide) (by decide) (by decide) (by decide), decide_eq_false qw]
        simp only [obs, ifn, Bool.false_eq_true, no]
        exact rq_t (code := 1) (fun e => by cases e)
  · refine PR_of hI (code := 1) (v := 0) (Or.inr (Or.inl rfl)) ?_ (fun m1 qe => ?_)
    · unfold d_333 d_149
      rw [k179o hG.2.2 hW hx hy hX hY qi, bE_r, bE_r, if_pos rfl]
      exact lq_ex (c := 1) (by decide) (Qe.rf m)
    · have hG1 := hG.q qe
      unfold d_269
      rw [m253o hG1.mw hx hy hX hY qi]
      simp only [obs, ifn, Bool.false_eq_true, no]
      exact rq_t (code := 1) (fun e => by cases e)
end HG
