/-! loadGame in the reference, as a whole. -/
section TM
variable {m M u : Mm} {L : Nat} {B : Nat → Int} {A : (Nat → Int) × (Nat → Int)} {W H : Nat} {o : Int}
theorem r_n254 : sh_n 254 = 584 := by decide +kernel
theorem r_r5 : sh_r 249 5 = 254 := by decide +kernel
theorem aM_p {r : Nat → Int} : aM B L (A.1, r) = ((aM B L A).1, r) := by
  unfold aM
  by_cases q : A.1 7 = 3
  · rw [if_pos q, if_pos q]
    rfl
  · rw [if_neg q, if_neg q]
    unfold aF
    by_cases z : A.1 2 = 0
    · rw [if_pos z, if_pos z]
      rfl
    · rw [if_neg z, if_neg z]
      rfl
theorem tkK_0 {p : Nat} (hp : p ≤ L) (h : tkK B L p = 0) : tkS B L p = L := by
  have n2 := (nxt_f (B := B) (f := isS) hp).2.1
  change tkS B L p ≤ L at n2
  by_cases q : L ≤ tkS B L p
  · omega
  · exfalso
    unfold tkK at h
    rw [if_neg q] at h
    split at h
    · cases h
    · split at h
      · split at h <;> cases h
      · split at h <;> cases h
theorem aM_e (hW : WA B L A) (h : (aM B L A).1 7 = 0) : (aM B L A).1 8 = L := by
  have e : WA B L (if A.1 7 = 3 then A else aF 1 (A.1 8) A) := by split; exact hW; exact hW.f (by decide)
  unfold aM at h ⊢
  rw [aT_v.2.2.2.2.2.1] at h
  rw [aT_v.2.2.2.2.2.2.1, tkK_0 (by have := e.2.2.2.1; omega) (by omega)]
theorem nX_0 (h : A.1 2 ≠ 0) : nX B L W H A = 0 := by
  unfold nX
  have le := ff_le (fun k => !(cnd (aX B L W H A k))) 600
  by_cases q : ff (fun k => !(cnd (aX B L W H A k))) 600 = 0
  · exact q
  · have := ff_lt (p := fun k => !(cnd (aX B L W H A k))) (n := 600) (k := 0) (by omega)
    have c : cnd (aX B L W H A 0) = true := by simpa using this
    exact absurd (cnd_t c).1 h
theorem bit7 : ∀ T, T < 64 → (T &&& 48 = 48 ↔ T.testBit 4 = true ∧ T.testBit 5 = true) := by decide +kernel
/-- what loadGame of the reference comes to -/
def Fin_ (u : Mm) (E : (Nat → Int) × (Nat → Int)) (W H : Nat) (p : Int32 × Mm) : Prop :=
  (E.1 2 = 0 → p.1 = zI (E.1 4) ∧ MR p.2 E.2 ∧ p.2 249 8 = 0 ∧ p.2 249 9 = bi false ∧ LJ E W H ∧ WR E.2 W H ∧ E.1 4 ≤ 32 ∧ (E.1 5).toNat &&& 48 = 48 ∧ WA B L E) ∧
  (E.1 2 ≠ 0 → p.1 = -1 ∧ (∀ k, k < 584 → p.2 250 k = u 254 k) ∧ p.2 249 8 = u 249 8 ∧ p.2 249 9 = u 249 9) ∧
  p.2 249 25 = zI (E.1 2) ∧ p.2 249 26 = zI (E.1 3) ∧ (∀ j, (j < 20 ∨ 28 < j) → j ≠ 8 → j ≠ 9 → p.2 249 j = u 249 j) ∧ ∀ a, a ≠ 249 → a ≠ 250 → p.2 a = u a
theorem m302_150 {E : (Nat → Int) × (Nat → Int)} (hs : ST B M E) (hW : WA B L E) (hf : mf u M) (hr : E.1 2 = 0 → MR M E.2 ∧ LJ E W H ∧ WR E.2 W H ∧ E.1 4 ≤ 32 ∧ (E.1 5).toNat &&& 48 = 48) : An (d_302_150 249 M) (Fin_ (B := B) (L := L) u E W H) := by
  obtain ⟨t1, t2, t3⟩ := hs
  unfold d_302_150
  rw [m288 ⟨t1, t2, t3⟩ hW]
  simp only [obs]
  by_cases q : E.1 2 = 0
  · obtain ⟨r1, r2, r3, r4, r5⟩ := hr q
    obtain ⟨⟨u1, u2, u3, u4, u5⟩, u6, u7⟩ := t3 q
    rw [decide_eq_true q, if_pos rfl, wbs, wbs]
    refine An.so ⟨fun _ => ⟨?_, r1.mm (by dsimp only; rw [wr_ne (by decide), wr_ne (by decide)]), ?_, ?_, r2, r3, r4, r5, hW⟩, fun z => absurd q z, ?_, ?_, fun j hj j8 j9 => ?_, fun a ha hb => ?_⟩ <;> dsimp only
    · rw [wr_nk (by decide), wr_nk (by decide)]; exact u7
    · rw [wr_nk (by decide), wr_eq]
    · rw [wr_eq]
    · rw [wr_nk (by decide), wr_nk (by decide)]; exact t1
    · rw [wr_nk (by decide), wr_nk (by decide)]; exact t2
    · rw [wr_nk j9, wr_nk j8]; exact hf.1 j hj
    · rw [wr_ne ha, wr_ne ha]; exact hf.2 a ha hb
  · rw [decide_eq_false q, if_neg (by decide), r_r5, m_r1]
    refine (m186 (a := 254) (b := 250) (by decide) r_n254 n_250).bd (fun M' ⟨a, b⟩ => An.so ⟨fun z => absurd z q, fun _ => ⟨rfl, fun k hk => ?_, ?_, ?_⟩, ?_, ?_, fun j hj j8 j9 => ?_, fun c hc hd => ?_⟩) <;> dsimp only
    · rw [a k hk, hf.2 254 (by decide) (by decide)]
    · rw [b 249 (by decide)]; exact hf.1 8 (by decide)
    · rw [b 249 (by decide)]; exact hf.1 9 (by decide)
    · rw [b 249 (by decide)]; exact t1
    · rw [b 249 (by decide)]; exact t2
    · rw [b 249 (by decide)]; exact hf.1 j hj
    · rw [b c hd]; exact hf.2 c hc hd
theorem m302_117 (h : SS B M A W H) (hX : XI B L A) (hI : LI A W H) (he : A.1 2 = 0 → A.1 8 = L) (hf : mf u M) : An (d_302_117 249 M) (Fin_ (B := B) (L := L) u (aE L A) W H) := by
  obtain ⟨s1, r, s2, s3, s4⟩ := h
  have hW := hX.1
  have w5 := hW.2.2.1
  unfold d_302_117
  rw [m288 s1 hW]
  simp only [obs]
  by_cases q : A.1 2 = 0
  · have er := s4 q
    subst er
    have g := (hI q).2.2.2.2.2
    have g0 : (A.1 5).toNat.testBit 4 = kg W H A.2 0 := g 0 (by decide)
    have g1 : (A.1 5).toNat.testBit 5 = kg W H A.2 1 := g 1 (by decide)
    have b7 := bit7 (A.1 5).toNat (by omega)
    rw [g0, g1] at b7
    have go : ∀ b : Bool, (b = true ↔ (A.1 5).toNat &&& 48 = 48) → An (d_302_146 249 249 b M) (Fin_ (B := B) (L := L) u (aE L A) W H) := fun b hb => by
      unfold d_302_146
      rw [show (5 : Int32) = zI 5 from rfl]
      refine (m289b s1 hW (c := 5) (by decide) (fun _ => hb)).bd (fun M' ⟨a, c⟩ => ?_)
      rw [he q] at a
      have wE : WA B L (aE L A) := by unfold aE; split; exact hW; exact hW.f (by decide)
      refine m302_150 a wE (hf.tr c.mf) (fun z => ?_)
      unfold aE at z ⊢
      by_cases t : (A.1 5).toNat &&& 48 = 48
      · rw [if_pos t]
        exact ⟨c.mr s2, hI q, s3, hX.2 q, t⟩
      · rw [if_neg t] at z
        exact absurd z (aF_z (by decide))
    have e0 : d_297 249 0 M = some (kg W H A.2 0) := m297 s2 s3 (s := 0) (by decide)
    have e1 : d_297 249 1 M = some (kg W H A.2 1) := m297 s2 s3 (s := 1) (by decide)
    rw [decide_eq_true q, if_pos rfl, e0, e1]
    simp only [obs]
    by_cases k0 : kg W H A.2 0 = true
    · rw [if_pos k0]
      by_cases k1 : kg W H A.2 1 = true
      · rw [if_pos k1]
        exact go true ⟨fun _ => b7.mpr ⟨k0, k1⟩, fun _ => rfl⟩
      · rw [if_neg k1]
        exact go false ⟨fun e => by (cases e), fun e => absurd (b7.mp e).2 k1⟩
    · rw [if_neg k0]
      exact go false ⟨fun e => by (cases e), fun e => absurd (b7.mp e).1 k0⟩
  · rw [decide_eq_false q, if_neg (by decide)]
    have eE : aE L A = A := by
      unfold aE
      rw [aF_v.2.2.2 q]
      split <;> rfl
    rw [eE]
    exact m302_150 s1 hW hf (fun z => absurd z q)
theorem m302_96 (hB : BM M B L) (hX : TX M) (h : SS B M A W H) (hI : XI B L A) (hL : LI A W H) (he : A.1 7 = 0 → A.1 8 = L) (hf : mf u M) : An (d_302_96 249 M) (Fin_ (B := B) (L := L) u (aE L (aX B L W H A (nX B L W H A))) W H) := by
  unfold d_302_96
  refine it_inv (fun j (v : Mm) => SS B v (aX B L W H A j) W H ∧ mf M v ∧ LI (aX B L W H A j) W H) _ (nX B L W H A) ⟨h, mf.rf M, hL⟩ (fun j hj v hv => ?_) (fun v hv => ?_)
  · obtain ⟨v1, v2, v3⟩ := hv
    have c := cnd_t (nX_lt hj)
    have i := aX_I (W := W) (H := H) hI j (by omega)
    have w := i.1
    have w7 := w.2.2.2.2.1
    show An (s_302_96 249 v) _
    unfold s_302_96
    rw [m288 v1.1 w, decide_eq_true c.1]
    simp only [obs, ift]
    rw [(v1.1.2.2 c.1).1.2.2.1, if_neg (by rw [zl_0, zI_inj (by omega) (by omega) (by omega) (by omega)]; omega)]
    refine (m301 (v2.bm hB) (v2.tx hX) v1 w v3.kb c.1 (i.2 c.1)).bd (fun M2 ⟨a, b⟩ => An.so ⟨a, v2.tr b, ?_⟩)
    obtain ⟨-, r, -, r3, r4⟩ := v1
    have er := r4 c.1
    subst er
    exact (v3.st_ w r3).m_ r3.1.2.2
  · obtain ⟨v1, v2, v3⟩ := hv
    have i := aX_I (W := W) (H := H) hI _ (Nat.le_refl _)
    have w := i.1
    have w7 := w.2.2.2.2.1
    have ce := of_decide_eq_false (nX_e (W := W) (H := H) hI hB.1)
    have ee : (aX B L W H A (nX B L W H A)).1 2 = 0 → (aX B L W H A (nX B L W H A)).1 8 = L := fun z => by
      have z7 : (aX B L W H A (nX B L W H A)).1 7 = 0 := by
        by_cases x : (aX B L W H A (nX B L W H A)).1 7 = 0
        · exact x
        · exact absurd ⟨z, x⟩ ce
      cases hn : nX B L W H A with
      | zero =>
        rw [hn] at z7
        exact he z7
      | succ k =>
        rw [hn] at z7
        have ik := aX_I (W := W) (H := H) hI k (by omega)
        have ck := cnd_t (nX_lt (B := B) (L := L) (W := W) (H := H) (A := A) (k := k) (by omega))
        exact aM_e (ik.st (W := W) (H := H) ck.1).1 z7
    have fin : An ((d_302_117 249 v).map (Sum.inr (α := Mm))) (fun r => match r with | .inl _ => False | .inr p => Fin_ (B := B) (L := L) u (aE L (aX B L W H A (nX B L W H A))) W H p) := by
      refine An.mo ?_
      exact (m302_117 v1 i v3 ee (hf.tr v2)).mp (fun p hp => hp)
    show An (s_302_96 249 v) _
    unfold s_302_96
    rw [m288 v1.1 w]
    simp only [obs]
    by_cases q : (aX B L W H A (nX B L W H A)).1 2 = 0
    · have z7 : (aX B L W H A (nX B L W H A)).1 7 = 0 := by
        by_cases x : (aX B L W H A (nX B L W H A)).1 7 = 0
        · exact x
        · exact absurd ⟨q, x⟩ ce
      rw [decide_eq_true q, if_pos rfl, (v1.1.2.2 q).1.2.2.1, z7, if_pos (by decide)]
      exact fin.mp (fun v hv => by cases v <;> exact hv)
    · rw [decide_eq_false q, if_neg (by decide)]
      exact fin.mp (fun v hv => by cases v <;> exact hv)
theorem cnt_0 {b : Nat → Int} {s : Int} (hs : 0 ≤ s) (h : ∀ c, c < W * H → b c = 0) : cnt W H b s = 0 := by
  rw [cnt_cg (b := fun _ => 0) h]
  unfold cnt
  generalize W * H = N
  induction N with
  | zero => rfl
  | succ N ih =>
    rw [fo_s, ih, if_neg (by show ¬ (-1 : Int) = s; omega)]
theorem rbg_J (hw : WH W H) {f : Nat → Int} (h4 : f 4 = 0) (h5 : f 5 = 0) : LJ (f, rbg W H) W H := by
  have hN := WH_n hw
  have z : ∀ c, c < W * H → rbg W H (24 + c) = 0 := fun c hc => rbg_0 (by omega)
  refine ⟨fun _ _ _ _ _ => rfl, ⟨by show 0 ≤ rbg W H 2 ∧ rbg W H 2 ≤ 10000 * 1; rw [rbg_0 (by omega)]; decide, by show 0 ≤ rbg W H 3 ∧ rbg W H 3 ≤ 1; rw [rbg_0 (by omega)]; decide, by show 0 ≤ rbg W H 4 ∧ rbg W H 4 ≤ 2; rw [rbg_0 (by omega)]; decide, ?_, ?_, ?_, fun s hs => ?_⟩, fun c hc => ?_, fun s s1 s2 c c' hc hc' e1 e2 => ?_, ?_, fun s hs => ?_⟩
  · show 1 ≤ (2 : Int) ∧ (2 : Int) ≤ 5; decide
  · show 0 ≤ (3 : Int) ∧ (3 : Int) ≤ 9; decide
  · show 1 ≤ (4 : Int) ∧ (4 : Int) ≤ 9; decide
  · have : s = 0 ∨ s = 1 := by omega
    rcases this with rfl | rfl
    · show 0 ≤ (1000 : Int) ∧ (1000 : Int) ≤ 9999; decide
    · show 0 ≤ (1000 : Int) ∧ (1000 : Int) ≤ 9999; decide
  · show rbg W H (88 + c) = rbg W H (24 + c)
    rw [z c hc, rbg_0 (by omega)]
  · change rbg W H (24 + c) = 1 + 6 * s at e1
    rw [z c hc] at e1
    omega
  · rw [cnt_0 (b := bo (f, rbg W H)) (s := 0) (by decide) (fun c hc => z c hc), cnt_0 (b := bo (f, rbg W H)) (s := 1) (by decide) (fun c hc => z c hc)]
    exact h4.symm
  · show (f 5).toNat.testBit (4 + s) = kg W H (rbg W H) s
    rw [h5]
    have e1 : kg W H (rbg W H) s = false := by
      unfold kg
      refine decide_eq_false (fun q => ?_)
      have := of_decide_eq_true (ff_at (p := fun c => decide (rbg W H (24 + c) = 1 + 6 * (s : Nat))) (n := W * H) q)
      rw [z _ q] at this
      omega
    rw [e1]
    exact Nat.zero_testBit _
theorem aH_45 : (aH4 B L o).1 4 = 0 ∧ (aH4 B L o).1 5 = 0 := by
  have e1 : (aH1 B L o).1 4 = 0 ∧ (aH1 B L o).1 5 = 0 := by
    unfold aH1 aW
    rw [aT_v.2.2.1, aT_v.2.2.2.1]
    split
    · exact ⟨rfl, rfl⟩
    · rw [aF_v.1 4 (by decide) (by decide), aF_v.1 5 (by decide) (by decide)]; exact ⟨rfl, rfl⟩
  have e2 : (aH2 B L o).1 4 = 0 ∧ (aH2 B L o).1 5 = 0 := ⟨(aN_4 (L := L) (lo := 4) (hi := 8)).trans e1.1, (aN_5 (L := L) (lo := 4) (hi := 8)).trans e1.2⟩
  have e3 : (aH3 B L o).1 4 = 0 ∧ (aH3 B L o).1 5 = 0 := ⟨(aN_4 (L := L) (lo := 4) (hi := 8)).trans e2.1, (aN_5 (L := L) (lo := 4) (hi := 8)).trans e2.2⟩
  have e4 : (aM B L (aH3 B L o)).1 4 = 0 ∧ (aM B L (aH3 B L o)).1 5 = 0 := by
    unfold aM
    rw [aT_v.2.2.1, aT_v.2.2.2.1]
    split
    · exact e3
    · rw [aF_v.1 4 (by decide) (by decide), aF_v.1 5 (by decide) (by decide)]; exact e3
  exact e4
theorem m302 (hl : L ≤ 600) (h18 : m 249 18 = zI (L : Nat)) (hb : ∀ i, i < L → (-128 ≤ B i ∧ B i ≤ 127) ∧ m 264 i = zI (B i)) (hX : TX m) (o : Int) :
    An (d_302 249 m) (fun p => ((aZ B L o).1 2 = 0 → p.1 = zI ((aZ B L o).1 4) ∧ MR p.2 (aZ B L o).2 ∧ p.2 249 8 = 0 ∧ p.2 249 9 = bi false ∧ LJ (aZ B L o) (aHw B L o).toNat (aHh B L o).toNat ∧ WR (aZ B L o).2 (aHw B L o).toNat (aHh B L o).toNat ∧ (aZ B L o).1 4 ≤ 32 ∧ ((aZ B L o).1 5).toNat &&& 48 = 48 ∧ WA B L (aZ B L o)) ∧
      ((aZ B L o).1 2 ≠ 0 → p.1 = -1 ∧ (∀ k, k < 584 → p.2 250 k = m 250 k) ∧ p.2 249 8 = m 249 8 ∧ p.2 249 9 = m 249 9) ∧
      p.2 249 25 = zI ((aZ B L o).1 2) ∧ p.2 249 26 = zI ((aZ B L o).1 3) ∧ p.2 249 18 = 0 ∧ p.2 249 30 = m 249 30 ∧ ∀ a, a ≠ 249 → a ≠ 250 → a ≠ 254 → p.2 a = m a) := by
  unfold d_302
  rw [wbs, wbs, wbs, m_r1, r_r5]
  refine (m186 (a := 250) (b := 254) (by decide) n_250 r_n254).bd (fun m4 ⟨a1, a2⟩ => ?_)
  rw [wbs, wbs, wbs, wbs, wbs, a2 249 (by decide)]
  have e18 : wr (wr (wr m 249 0 0) 249 25 0) 249 26 (-1) 249 18 = zI (L : Nat) := by rw [wr_nk (by decide), wr_nk (by decide), wr_nk (by decide)]; exact h18
  rw [e18]
  -- the memory when the reading begins
  have q249 : ∀ j, wr (wr (wr (wr (wr m4 249 19 (zI (L : Nat))) 249 18 0) 249 20 0) 249 27 0) 249 28 0 249 j = if j = 28 then 0 else if j = 27 then 0 else if j = 20 then 0 else if j = 18 then 0 else if j = 19 then zI (L : Nat) else if j = 26 then -1 else if j = 25 then 0 else if j = 0 then 0 else m 249 j := fun j => by
    simp only [wr_at]
    rw [a2 249 (by decide)]
    simp only [wr_at]
  have q254 : ∀ k, k < 584 → wr (wr (wr (wr (wr m4 249 19 (zI (L : Nat))) 249 18 0) 249 20 0) 249 27 0) 249 28 0 254 k = m 250 k := fun k hk => by
    rw [wr_ne (by decide), wr_ne (by decide), wr_ne (by decide), wr_ne (by decide), wr_ne (by decide), a1 k hk, wr_ne (by decide), wr_ne (by decide), wr_ne (by decide)]
  have qo : ∀ a, a ≠ 249 → a ≠ 254 → wr (wr (wr (wr (wr m4 249 19 (zI (L : Nat))) 249 18 0) 249 20 0) 249 27 0) 249 28 0 a = m a := fun a h1 h2 => by
    rw [wr_ne h1, wr_ne h1, wr_ne h1, wr_ne h1, wr_ne h1, a2 a h2, wr_ne h1, wr_ne h1, wr_ne h1]
  generalize wr (wr (wr (wr (wr m4 249 19 (zI (L : Nat))) 249 18 0) 249 20 0) 249 27 0) 249 28 0 = u at *
  have hBu : BM u B L := ⟨hl, by rw [q249]; rfl, fun i hi => by rw [qo 264 (by decide) (by decide)]; exact hb i hi⟩
  have hXu : TX u := hX.mm (fun a b c => qo a (by omega) (by omega))
  refine (m286 hBu hXu (p := 0) (Nat.zero_le _) (by rw [q249]; rfl)).bd (fun m10 ⟨b1, b2⟩ => ?_)
  have f1 : sf u m10 := b1.sf
  have S1 : ST B m10 (aI B L o) := by
    refine ⟨?_, ?_, fun _ => ⟨b2, ?_, ?_⟩⟩
    · rw [b1.1 25 (by decide), q249]; rfl
    · rw [b1.1 26 (by decide), q249]; exact show (-1 : Int32) = zI (-1) from by decide
    · rw [b1.1 27 (by decide), q249]; rfl
    · rw [b1.1 28 (by decide), q249]; rfl
  obtain ⟨W1, W2, W3, X4⟩ := aH_W (B := B) (L := L) (o := o)
  have WI : WA B L (aI B L o) := aI_W
  have e291 : d_291 249 0 m10 = some (decide ((aI B L o).1 2 = 0 ∧ isw B (kk 0) (aI B L o) = true)) := m291 S1 WI (w := 0) (by decide)
  rw [e291]
  simp only [obs]
  rw [zl_1]
  refine (m289b S1 WI (c := 1) (by decide) (p := isw B 0 (aI B L o) = true) (fun _ => ⟨fun h => (of_decide_eq_true h).2, fun h => decide_eq_true ⟨rfl, h⟩⟩)).bd (fun m12 ⟨c1, c2⟩ => ?_)
  have f2 := f1.tr c2
  have w1 : WA B L (if isw B 0 (aI B L o) = true then aI B L o else aF 1 ((aI B L o).1 8) (aI B L o)) := by split; exact WI; exact WI.f (by decide)
  refine (m290 (f2.bm hBu) (f2.tx hXu) c1 w1).bd (fun m13 ⟨d1, d2⟩ => ?_)
  have f3 := f2.tr d2
  change ST B m13 (aH1 B L o) at d1
  rw [zl_4, zl_8]
  refine (m293 (f3.bm hBu) (f3.tx hXu) d1 W1 (lo := 4) (hi := 8) (by omega) (by omega) (by omega)).bd (fun q14 ⟨⟨w, g1, g2, g3, g4⟩, g5, g6⟩ => ?_)
  have f4 := f3.tr g6
  change ST B q14.2 (aH2 B L o) at g5
  change (aH2 B L o).1 2 = 0 → w = aHw B L o at g4
  refine (m293 (f4.bm hBu) (f4.tx hXu) g5 W2 (lo := 4) (hi := 8) (by omega) (by omega) (by omega)).bd (fun q15 ⟨⟨h, i1, i2, i3, i4⟩, i5, i6⟩ => ?_)
  have f5 := f4.tr i6
  change ST B q15.2 (aH3 B L o) at i5
  change (aH3 B L o).1 2 = 0 → h = aHh B L o at i4
  obtain ⟨w', rfl⟩ : ∃ w' : Nat, w = (w' : Nat) := ⟨w.toNat, by omega⟩
  obtain ⟨h', rfl⟩ : ∃ h' : Nat, h = (h' : Nat) := ⟨h.toNat, by omega⟩
  have hw : WH w' h' := by unfold WH; omega
  rw [g1, i1]
  refine (m187 (W := w') (H := h') ⟨by omega, by omega⟩).bd (fun m16 ⟨j1, j2⟩ => ?_)
  have f6 : mf u m16 := f5.mf.tr (mf.of j2)
  have k23 : sk (aH2 B L o) (aH3 B L o) := sk.n
  have k34 : sk (aH3 B L o) (aH4 B L o) := (sk.mm (B := B) (L := L)).tr sk.r
  have SS3 : SS B m16 ((aH3 B L o).1, rbg (aHw B L o).toNat (aHh B L o).toNat) w' h' := by
    refine ⟨(i5.of j2).cg rfl rfl (fun _ => ⟨rfl, rfl, rfl, rfl, rfl⟩), rbg w' h', j1, rbg_R hw, fun z => ?_⟩
    change (aH3 B L o).1 2 = 0 at z
    have ew : w' = (aHw B L o).toNat := by have := g4 (lv k23 z); omega
    have eh : h' = (aHh B L o).toNat := by have := i4 z; omega
    show rbg w' h' = rbg (aHw B L o).toNat (aHh B L o).toNat
    rw [ew, eh]
  refine (m300 (f6.bm hBu) (f6.tx hXu) SS3 W3.r).bd (fun m17 ⟨n1, n2⟩ => ?_)
  have f7 := f6.tr n2
  rw [aM_p] at n1
  change SS B m17 (aH4 B L o) w' h' at n1
  have he : (aH4 B L o).1 7 = 0 → (aH4 B L o).1 8 = L := fun z => aM_e W3 z
  have LIh : LI (aH4 B L o) w' h' := fun z => by
    have z3 := lv k34 z
    have ew : w' = (aHw B L o).toNat := by have := g4 (lv k23 z3); omega
    have eh : h' = (aHh B L o).toNat := by have := i4 z3; omega
    have := rbg_J (W := w') (H := h') hw (f := (aM B L (aH3 B L o)).1) aH_45.1 aH_45.2
    unfold aH4
    rw [← ew, ← eh]
    exact this
  have fin := m302_96 (u := u) (f7.bm hBu) (f7.tx hXu) n1 X4 LIh he f7
  refine fin.mp (fun p hp => ?_)
  have conv : aE L (aX B L w' h' (aH4 B L o) (nX B L w' h' (aH4 B L o))) = aZ B L o ∧ ((aZ B L o).1 2 = 0 → w' = (aHw B L o).toNat ∧ h' = (aHh B L o).toNat) := by
    by_cases z : (aH4 B L o).1 2 = 0
    · have z3 := lv k34 z
      have ew : w' = (aHw B L o).toNat := by have := g4 (lv k23 z3); omega
      have eh : h' = (aHh B L o).toNat := by have := i4 z3; omega
      rw [ew, eh]
      exact ⟨rfl, fun _ => ⟨rfl, rfl⟩⟩
    · have e1 : aZ B L o = aE L (aH4 B L o) := by
        unfold aZ
        rw [nX_0 z]
        rfl
      refine ⟨?_, fun x => ?_⟩
      · rw [nX_0 z, e1]
        rfl
      · exfalso
        rw [e1] at x
        unfold aE at x
        rw [aF_v.2.2.2 z] at x
        split at x <;> exact z x
  obtain ⟨cv1, cv2⟩ := conv
  rw [cv1] at hp
  obtain ⟨p1, p2, p3, p4, p5, p6⟩ := hp
  refine ⟨fun z => ?_, fun z => ?_, p3, p4, ?_, ?_, fun a b1 b2 b3 => ?_⟩
  · obtain ⟨ew, eh⟩ := cv2 z
    rw [← ew, ← eh]
    exact p1 z
  · obtain ⟨x1, x2, x3, x4⟩ := p2 z
    refine ⟨x1, fun k hk => ?_, ?_, ?_⟩
    · rw [x2 k hk]; exact q254 k hk
    · rw [x3, q249]; rfl
    · rw [x4, q249]; rfl
  · rw [p5 18 (by decide) (by decide) (by decide), q249]; rfl
  · rw [p5 30 (by decide) (by decide) (by decide), q249]; rfl
  · rw [p6 a b1 b2, qo a b1 b3]
end TM
