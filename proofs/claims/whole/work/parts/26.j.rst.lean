/-! The reference's statements: numbers, fogs, semicolons. -/
section TJ
variable {m M : Mm} {L : Nat} {B : Nat → Int} {A A' : (Nat → Int) × (Nat → Int)} {W H : Nat}
def mf (m M : Mm) : Prop := (∀ j, j < 20 ∨ 28 < j → M 249 j = m 249 j) ∧ ∀ a, a ≠ 249 → a ≠ 250 → M a = m a
theorem mf.rf (m : Mm) : mf m m := ⟨fun _ _ => rfl, fun _ _ _ => rfl⟩
theorem mf.tr {m m1 m2 : Mm} (h : mf m m1) (k : mf m1 m2) : mf m m2 := ⟨fun j hj => (k.1 j hj).trans (h.1 j hj), fun a ha hb => (k.2 a ha hb).trans (h.2 a ha hb)⟩
theorem sf.mf (h : sf m M) : mf m M := ⟨h.1, fun a ha _ => h.2 a ha⟩
theorem mf.of (h : ∀ a, a ≠ 250 → M a = m a) : mf m M := ⟨fun j _ => by rw [h 249 (by decide)], fun a _ hb => h a hb⟩
theorem mf.bm (h : mf m M) (hB : BM m B L) : BM M B L := ⟨hB.1, by rw [h.1 19 (by decide)]; exact hB.2.1, fun i hi => by rw [h.2 264 (by decide) (by decide)]; exact hB.2.2 i hi⟩
theorem mf.tx (h : mf m M) (hX : TX m) : TX M := hX.mm (fun a _ _ => h.2 a (by omega) (by omega))
theorem sf.mr {r : Nat → Int} (h : sf m M) (hr : MR m r) : MR M r := hr.mm (h.2 250 (by decide))
theorem ST.of (h : ST B m A) (e : ∀ a, a ≠ 250 → M a = m a) : ST B M A := by
  unfold ST TR at *
  rw [e 249 (by decide)]
  exact h
def SS (B : Nat → Int) (M : Mm) (A : (Nat → Int) × (Nat → Int)) (W H : Nat) : Prop := ST B M A ∧ ∃ r, MR M r ∧ WR r W H ∧ (A.1 2 = 0 → r = A.2)
theorem lv {A A' : (Nat → Int) × (Nat → Int)} (h : sk A A') (z : A'.1 2 = 0) : A.1 2 = 0 := by
  by_cases q : A.1 2 = 0
  · exact q
  · have := (h q).1
    omega
theorem aF_z {c o : Int} (hc : 1 ≤ c) : (aF c o A).1 2 ≠ 0 := by
  by_cases q : A.1 2 = 0
  · rw [(aF_v.2.2.1 q).1]; omega
  · rw [aF_v.2.2.2 q]; exact q
theorem m289b (h : ST B M A) (hW : WA B L A) {c : Int} (hc : 1 ≤ c ∧ c ≤ 5) {p : Prop} [Decidable p] {b : Bool} (hb : A.1 2 = 0 → (b = true ↔ p)) : An (d_289 249 b (zI c) M) (fun M' => ST B M' (if p then A else aF c (A.1 8) A) ∧ sf M M') := by
  by_cases q : A.1 2 = 0
  · have hb := hb q
    by_cases hp : p
    · rw [hb.mpr hp, m289t, if_pos hp]
      exact An.so ⟨h, sf.rf M⟩
    · have : b = false := by
        cases hbb : b with
        | false => rfl
        | true => exact absurd (hb.mp hbb) hp
      rw [this, if_neg hp]
      exact m289f h hW hc
  · have e : (if p then A else aF c (A.1 8) A) = A := by
      rw [aF_v.2.2.2 q]
      split <;> rfl
    rw [e]
    cases b with
    | true =>
      rw [m289t]
      exact An.so ⟨h, sf.rf M⟩
    | false =>
      have := m289f h hW hc
      rw [aF_v.2.2.2 q] at this
      exact this
/-- the error told after the token is taken, at its start -/
theorem ST.dly {p : Prop} [Decidable p] {Y : (Nat → Int) × (Nat → Int)} (h : ST B M (aT B L (if p then Y else aF 3 (Y.1 8) Y))) : ST B M (if p then aT B L Y else aF 3 ((aT B L Y).1 9) (aT B L Y)) := by
  by_cases hp : p
  · rw [if_pos hp] at h ⊢
    exact h
  · rw [if_neg hp] at h ⊢
    by_cases q : Y.1 2 = 0
    · obtain ⟨a1, a2⟩ := (aF_v (A := Y) (c := 3) (o := Y.1 8)).2.2.1 q
      have q' : (aT B L Y).1 2 = 0 := by rw [aT_v.1]; exact q
      obtain ⟨b1, b2⟩ := (aF_v (A := aT B L Y) (c := 3) (o := (aT B L Y).1 9)).2.2.1 q'
      refine h.cg ?_ ?_ (fun z => ?_)
      · rw [b1, aT_v.1, a1]
      · rw [b2, aT_v.2.1, a2, aT_v.2.2.2.2.2.2.2.1]
      · rw [aT_v.1, a1] at z
        cases z
    · have q' : (aT B L Y).1 2 ≠ 0 := by rw [aT_v.1]; exact q
      rw [aF_v.2.2.2 q] at h
      rw [aF_v.2.2.2 q']
      exact h
/-- a number of the row told -/
theorem m_pt {k : Nat} {v : Int} (hk : pS k) (h : ST B M A) {r : Nat → Int} (hr : MR M r) (hw : WR r W H) (e : A.1 2 = 0 → rs r k v = A.2) : SS B (wr M (sh_r 249 1) (ix (zI (k : Int))) (zI v)) A W H ∧ mf M (wr M (sh_r 249 1) (ix (zI (k : Int))) (zI v)) :=
  ⟨⟨h.of (fun a ha => wr_r ha), rs r k v, hr.pt (by unfold pS at hk; omega), hw.sv hk, e⟩, mf.of (fun a ha => wr_r ha)⟩
theorem s_N (hB : BM M B L) (hX : TX M) (h : SS B M A W H) (hW : WA B L A) {k : Nat} {lo hi : Int} (h0 : 0 ≤ lo) (h1 : lo ≤ hi) (h2 : hi ≤ 9999) (hk : pS k) {α : Type} {f : Mm → Option α} {P : α → Prop}
    (hf : ∀ M', SS B M' ((aT B L (aN2 B lo hi A)).1, rs (aT B L (aN2 B lo hi A)).2 k (aN1 B lo hi A)) W H → mf M M' → An (f M') P) :
    An ((d_293 249 (zI lo) (zI hi) M).bind fun r2 => if ev_in (zI (k : Int)) (sh_n (sh_r 249 1)) = true then (wb (wr r2.2 (sh_r 249 1) (ix (zI (k : Int))) r2.1) fun m3 => f m3) else none) P := by
  obtain ⟨s1, r, s2, s3, s4⟩ := h
  refine (m293 hB hX s1 hW h0 h1 h2).bd (fun q ⟨⟨v, a, b, c, d⟩, e, g⟩ => ?_)
  rw [if_pos (in_r (by unfold pS at hk; omega)), wbs, a]
  have p := m_pt (A := ((aT B L (aN2 B lo hi A)).1, rs (aT B L (aN2 B lo hi A)).2 k (aN1 B lo hi A))) (v := v) hk (e.cg rfl rfl (fun _ => ⟨rfl, rfl, rfl, rfl, rfl⟩)) (g.mr s2) s3 (fun z => by
    have z0 : A.1 2 = 0 := lv (sk.n (B := B) (L := L) (lo := lo) (hi := hi)) z
    show rs r k v = rs (aT B L (aN2 B lo hi A)).2 k (aN1 B lo hi A)
    rw [d z, s4 z0, aN_2])
  exact hf _ p.1 (g.mf.tr p.2)
theorem m296 (hB : BM M B L) (hX : TX M) (h : SS B M A W H) (hW : WA B L A) {i k : Nat} {lo hi : Int} (hi4 : i < 4) (h0 : 0 ≤ lo) (h1 : lo ≤ hi) (h2 : hi ≤ 9999) (hk : pS k) :
    An (d_296 249 (zI ((i + 1 : Nat) : Int)) (zI (k : Int)) (zI lo) (zI hi) M) (fun M' => SS B M' (aS B L i k lo hi A) W H ∧ mf M M') := by
  obtain ⟨s1, r, s2, s3, s4⟩ := h
  unfold d_296
  refine (m294 hB hX s1 hW hi4).bd (fun M1 ⟨a, b⟩ => ?_)
  refine s_N (b.bm hB) (b.tx hX) (A := aO B L i A) (W := W) (H := H) ⟨a, r, b.mr s2, s3, fun z => ?_⟩ (hW.o (by omega)) h0 h1 h2 hk (fun M' c d => An.so ⟨c, b.mf.tr d⟩)
  rw [aO_2]
  exact s4 (lv sk.o z)
theorem m295 (hB : BM M B L) (hX : TX M) (h : SS B M A W H) (hW : WA B L A) : An (d_295 249 M) (fun M' => SS B M' (aC B L A) W H ∧ mf M M') := by
  obtain ⟨s1, r, s2, s3, s4⟩ := h
  unfold d_295
  rw [show (1 : Int32) = zI ((0 + 1 : Nat) : Int) from rfl]
  refine (m294 hB hX s1 hW (i := 0) (by decide)).bd (fun M1 ⟨a, b⟩ => ?_)
  rw [show zI ((0 + 1 : Nat) : Int) = zI 1 from rfl, zl_9999, show (15 : Int32) = zI ((15 : Nat) : Int) from rfl, show (16 : Int32) = zI ((16 : Nat) : Int) from rfl]
  refine s_N (b.bm hB) (b.tx hX) (A := aO B L 0 A) (W := W) (H := H) ⟨a, r, b.mr s2, s3, fun z => ?_⟩ (hW.o (by decide)) (by decide) (by decide) (by decide) (by unfold pS; omega) (fun M' c d => ?_)
  · rw [aO_2]
    exact s4 (lv sk.o z)
  · have f1 := b.mf.tr d
    exact s_N (f1.bm hB) (f1.tx hX) c (hW.o (by decide)).nt.r (by decide) (by decide) (by decide) (by unfold pS; omega) (fun M' c d => An.so ⟨c, f1.tr d⟩)
theorem m300 (hB : BM M B L) (hX : TX M) (h : SS B M A W H) (hW : WA B L A) : An (d_300 249 M) (fun M' => SS B M' (aM B L A) W H ∧ mf M M') := by
  obtain ⟨s1, r, s2, s3, s4⟩ := h
  have w7 := hW.2.2.2.2.1
  have go : ∀ b : Bool, (A.1 2 = 0 → (b = true ↔ A.1 7 = 3)) → An (d_300_14 249 249 b M) (fun M' => SS B M' (aM B L A) W H ∧ mf M M') := fun b hb => by
    unfold d_300_14
    rw [zl_1]
    refine (m289b s1 hW (c := 1) (by decide) hb).bd (fun M1 ⟨a, c⟩ => ?_)
    have w1 : WA B L (if A.1 7 = 3 then A else aF 1 (A.1 8) A) := by split; exact hW; exact hW.f (by decide)
    refine (m290 (c.bm hB) (c.tx hX) a w1).bd (fun M2 ⟨d, e⟩ => An.so ⟨⟨d, r, (c.tr e).mr s2, s3, fun z => ?_⟩, (c.tr e).mf⟩)
    change (aM B L A).1 2 = 0 at z
    rw [aM_2]
    exact s4 (lv sk.mm z)
  unfold d_300
  by_cases q : A.1 2 = 0
  · rw [(s1.2.2 q).1.2.2.1]
    by_cases q7 : A.1 7 = 3
    · rw [q7, if_neg (fun e => e rfl)]
      exact go true (fun _ => ⟨fun _ => q7, fun _ => rfl⟩)
    · rw [if_pos (by rw [zl_3, zI_inj (by omega) (by omega) (by omega) (by omega)]; omega)]
      exact go false (fun _ => ⟨fun e => by (cases e), fun e => absurd e q7⟩)
  · split
    · exact go false (fun z => absurd z q)
    · exact go true (fun z => absurd z q)
theorem m299 (hB : BM M B L) (hX : TX M) (h : SS B M A W H) (hW : WA B L A) : An (d_299 249 M) (fun M' => SS B M' (aG B L A) W H ∧ mf M M') := by
  obtain ⟨s1, r, s2, s3, s4⟩ := h
  obtain ⟨W1, W2, W3, W4, W5⟩ := hW.g7
  obtain ⟨e1, e2, e3, e4, e5⟩ := aG_2 (A := A) (B := B) (L := L)
  have r8 := s3.2.2.1
  have h8 : 0 ≤ r 8 ∧ r 8 ≤ 8 := ⟨r8.1, s3.k.1⟩
  have hF : ∀ k : Nat, (k : Int) < r 8 → 0 ≤ r (280 + 3 * k) ∧ r (280 + 3 * k) ≤ 9999 := fun k hk => (r8.2.2 k (by omega)).1
  have k1 : sk A (aG1 B L A) := sk.g7.1
  have k12 : sk (aG1 B L A) (aG2 B L A) := sk.n
  have k23 : sk (aG2 B L A) (aG3 B L A) := by unfold aG3; exact sk.i sk.f sk.rf
  have k34 : sk (aG3 B L A) (aG4 B L A) := sk.n
  have k45 : sk (aG4 B L A) (aG5 B L A) := sk.n
  have go50 : ∀ (M2 : Mm) (f : Int) (b : Bool), mf M M2 → MR M2 r → ST B M2 (aN2 B 0 9999 (aG1 B L A)) → (0 ≤ f ∧ f ≤ 9999) → ((aN2 B 0 9999 (aG1 B L A)).1 2 = 0 → f = aGf B L A) → ((aN2 B 0 9999 (aG1 B L A)).1 2 = 0 → (b = true ↔ ¬ ff (fun k => decide (A.2 (280 + 3 * k) = aGf B L A)) (A.2 8).toNat < (A.2 8).toNat)) → An (d_299_50 249 (zI f) 249 b M2) (fun M' => SS B M' (aG B L A) W H ∧ mf M M') := fun M2 f b fr hr hs hf he hb => by
    have WY : WA B L (aN2 B 0 9999 (aG1 B L A)) := W1.n
    unfold d_299_50
    rw [zl_3]
    refine (m289b hs WY (c := 3) (by decide) hb).bd (fun M3 ⟨a, c⟩ => ?_)
    have f3 := fr.tr c.mf
    have w1 : WA B L (if ¬ ff (fun k => decide (A.2 (280 + 3 * k) = aGf B L A)) (A.2 8).toNat < (A.2 8).toNat then aN2 B 0 9999 (aG1 B L A) else aF 3 ((aN2 B 0 9999 (aG1 B L A)).1 8) (aN2 B 0 9999 (aG1 B L A))) := by split; exact WY; exact WY.f (by decide)
    refine (m290 (f3.bm hB) (f3.tx hX) a w1).bd (fun M4 ⟨d, e⟩ => ?_)
    have f4 := f3.tr e.mf
    have s_3 : ST B M4 (aG3 B L A) := by
      have := ST.dly d
      unfold aG3 aG2
      by_cases q : ff (fun k => decide (A.2 (280 + 3 * k) = aGf B L A)) (A.2 8).toNat < (A.2 8).toNat
      · rw [if_neg (fun z => z q)] at this
        rw [if_pos q]
        exact this
      · rw [if_pos q] at this
        rw [if_neg q]
        exact this
    rw [zl_1, show (999 : Int32) = zI 999 from rfl, zl_9]
    refine (m293 (f4.bm hB) (f4.tx hX) s_3 W3 (lo := 1) (hi := 999) (by omega) (by omega) (by omega)).bd (fun q7 ⟨⟨l, l1, l2, l3, l4⟩, i, j⟩ => ?_)
    have f5 := f4.tr j.mf
    change ST B q7.2 (aG4 B L A) at i
    refine (m293 (f5.bm hB) (f5.tx hX) i W4 (lo := 1) (hi := 9) (by omega) (by omega) (by omega)).bd (fun q8 ⟨⟨g, g1, g2, g3, g4⟩, n, o⟩ => ?_)
    have f6 := f5.tr o.mf
    change ST B q8.2 (aG5 B L A) at n
    change (aG5 B L A).1 2 = 0 → g = aGe B L A at g4
    change (aG4 B L A).1 2 = 0 → l = aGl B L A at l4
    have hr8 : MR q8.2 r := (((c.tr e).tr j).tr o).mr hr
    rw [m288 n W5]
    simp only [obs]
    by_cases q : (aG5 B L A).1 2 = 0
    · rw [decide_eq_true q, if_pos rfl, l1, g1]
      have z4 := lv k45 q
      have z3 := lv k34 z4
      have z2 := lv k23 z3
      have z1 := lv k12 z2
      have z0 := lv k1 z1
      have zY : (aN2 B 0 9999 (aG1 B L A)).1 2 = 0 := by
        have : (aG2 B L A).1 2 = (aN2 B 0 9999 (aG1 B L A)).1 2 := aT_v.1
        omega
      have er := s4 z0
      have l8 : A.2 8 < 8 := by
        by_cases x : A.2 8 < 8
        · exact x
        · exfalso
          unfold aG1 at z1
          rw [if_neg x, aT_v.1] at z1
          exact aF_z (by decide) z1
      rw [he zY, l4 z4, g4 q]
      subst er
      refine (m241 hr8 ⟨h8.1, l8⟩ hF (l := aGl B L A) (e := aGe B L A) (f := aGf B L A) (by rw [← he zY]; exact hf)).bd (fun q10 ⟨t1, t2, t3⟩ => An.so ?_)
      obtain ⟨p1, -, -⟩ := ip_f (F := fun k => A.2 (280 + 3 * k)) (v := aGf B L A) (N := (A.2 8).toNat)
      refine ⟨⟨?_, _, t2, ?_, fun _ => ?_⟩, f6.tr (mf.of t3)⟩
      · exact (n.of t3).cg rfl rfl (fun _ => ⟨rfl, rfl, rfl, rfl, rfl⟩)
      · rw [l4 z4] at l2 l3
        rw [g4 q] at g2 g3
        rw [he zY] at hf
        exact s3.rg l8 p1 hf ⟨l2, l3⟩ ⟨g2, g3⟩
      · unfold aG
        rw [if_pos l8]
    · rw [decide_eq_false q, if_neg (by decide)]
      refine An.so ⟨⟨?_, r, hr8, s3, fun z => absurd z q⟩, f6⟩
      exact n.cg rfl rfl (fun z => absurd z q)
  have go18 : ∀ b : Bool, (A.1 2 = 0 → (b = true ↔ A.2 8 < 8)) → An (d_299_18 249 249 b M) (fun M' => SS B M' (aG B L A) W H ∧ mf M M') := fun b hb => by
    unfold d_299_18
    rw [zl_4]
    refine (m289b s1 hW (c := 4) (by decide) hb).bd (fun M1 ⟨a, c⟩ => ?_)
    have w1 : WA B L (if A.2 8 < 8 then A else aF 4 (A.1 8) A) := by split; exact hW; exact hW.f (by decide)
    refine (m290 (c.bm hB) (c.tx hX) a w1).bd (fun M2 ⟨d, e⟩ => ?_)
    change ST B M2 (aG1 B L A) at d
    have f2 := c.tr e
    rw [zl_0, zl_9999]
    refine (m292 d W1 (lo := 0) (hi := 9999) (by omega) (by omega) (by omega)).bd (fun q3 ⟨⟨f, l1, l2, l3, l4⟩, i, j⟩ => ?_)
    have f3 := f2.tr j
    have hr3 : MR q3.2 r := f3.mr s2
    rw [l1]
    have m240 := m240x hr3 h8 hF l2 l3
    refine m240.bd (fun v hv => ?_)
    have bb : (aN2 B 0 9999 (aG1 B L A)).1 2 = 0 → (v = -1 ↔ ¬ ff (fun k => decide (A.2 (280 + 3 * k) = aGf B L A)) (A.2 8).toNat < (A.2 8).toNat) := fun z => by
      have z1 : (aG1 B L A).1 2 = 0 := by
        refine lv (A' := aG2 B L A) k12 ?_
        rw [show (aG2 B L A).1 2 = (aN2 B 0 9999 (aG1 B L A)).1 2 from aT_v.1]
        exact z
      rw [hv, l4 z, s4 (lv k1 z1)]
      rfl
    by_cases q : v = -1
    · rw [if_neg (fun z => z q)]
      exact go50 q3.2 f true f3.mf hr3 i ⟨l2, l3⟩ l4 (fun z => ⟨fun _ => (bb z).mp q, fun _ => rfl⟩)
    · rw [if_pos q]
      exact go50 q3.2 f false f3.mf hr3 i ⟨l2, l3⟩ l4 (fun z => ⟨fun e => by (cases e), fun e => absurd ((bb z).mpr e) q⟩)
  unfold d_299
  rw [show (8 : Int32) = zI ((8 : Nat) : Int) from rfl, if_pos (in_r (by decide)), mr_k (by decide) s2]
  by_cases q : r 8 < 8
  · rw [if_neg (by rw [zI_le (by omega) (by omega) (by omega) (by omega)]; omega)]
    exact go18 true (fun z => ⟨fun _ => by rw [← s4 z]; exact q, fun _ => rfl⟩)
  · rw [if_pos (by rw [zI_le (by omega) (by omega) (by omega) (by omega)]; omega)]
    exact go18 false (fun z => ⟨fun e => by (cases e), fun e => absurd (by rw [s4 z]; exact e) q⟩)
end TJ
