/-! The reference's statements: pieces; a statement. -/
section TK
variable {m M : Mm} {L : Nat} {B : Nat → Int} {A A' : (Nat → Int) × (Nat → Int)} {W H : Nat} {r : Nat → Int}
/-- a king of this side is on the row -/
def kg (W H : Nat) (r : Nat → Int) (s : Nat) : Bool := decide (ff (fun c => decide (r (24 + c) = 1 + 6 * (s : Nat))) (W * H) < W * H)
theorem m297 (hr : MR M r) (hw : WR r W H) {s : Nat} (hs : s ≤ 1) : d_297 249 (zI (s : Nat)) M = some (kg W H r s) := by
  obtain ⟨⟨a1, a2, a3⟩, b, -⟩ := hw
  have hN := WH_n a3
  have e193 : d_193 249 M = some (zI ((W * H : Nat) : Int)) := m193 ⟨hr, a1, a2, a3⟩
  have bd : ∀ c, c < W * H → 0 ≤ r (24 + c) ∧ r (24 + c) ≤ 12 := fun c hc => by
    obtain ⟨x, y, hx, hy, rfl⟩ := mxy a3 hc
    exact b x y hx hy
  have z24 : ∀ k : Nat, (24 : Int32) + zI (k : Nat) = zI ((24 + k : Nat) : Int) := fun k => z_ad 24 k
  unfold d_297 d_297_2 kg
  rw [zl_0]
  have key := it_ff (F := fun u => s_297_2 249 (zI (s : Nat)) M u) (fun c => zI (c : Nat)) (fun c => decide (r (24 + c) = 1 + 6 * (s : Nat))) (fun _ => true) false (W * H) (fun c hc hp => ?_) (fun c hc hp => ?_) ?_
  · refine key.trans (congrArg some ?_)
    by_cases q : ff (fun c => decide (r (24 + c) = 1 + 6 * (s : Nat))) (W * H) < W * H
    · rw [if_pos q, decide_eq_true q]
    · rw [if_neg q, decide_eq_false q]
  · have hp := of_decide_eq_false hp
    have := bd c hc
    unfold s_297_2
    rw [e193]
    simp only [obs]
    rw [if_neg (by rw [zI_le (by omega) (by omega) (by omega) (by omega)]; omega), z24, if_pos (in_r (by omega)), mr_k (by omega) hr, zl_1, zl_6, zI_mul, zI_add, if_pos (by rw [zI_inj (by omega) (by omega) (by omega) (by omega)]; exact hp), wbs, zI_add]
    rfl
  · have hp := of_decide_eq_true hp
    unfold s_297_2
    rw [e193]
    simp only [obs]
    rw [if_neg (by rw [zI_le (by omega) (by omega) (by omega) (by omega)]; omega), z24, if_pos (in_r (by omega)), mr_k (by omega) hr, zl_1, zl_6, zI_mul, zI_add, if_neg (fun e => e (by rw [hp]))]
  · unfold s_297_2
    rw [e193]
    simp only [obs]
    rw [if_pos (by rw [zI_le (by omega) (by omega) (by omega) (by omega)]; omega)]
theorem kow_w (hW : WA B L A) : (A.1 7 = 1 → (8 ≤ wdx B (A.1 8).toNat (A.1 6).toNat → kow B A = wdx B (A.1 8).toNat (A.1 6).toNat - 8) ∧ (wdx B (A.1 8).toNat (A.1 6).toNat < 8 → kow B A = -1)) ∧ (A.1 7 ≠ 1 → kow B A = -1) := by
  have e : ∀ w, w < 14 → (isw B (kk w) A = true ↔ (A.1 7 = 1 ∧ wdx B (A.1 8).toNat (A.1 6).toNat = (w : Nat))) := fun w hw => by
    rw [isw_w hW]
    constructor
    · intro h
      have h := of_decide_eq_true h
      exact ⟨h.1, (wdx_w hw).mpr h.2⟩
    · intro h
      exact decide_eq_true ⟨h.1, (wdx_w hw).mp h.2⟩
  have e8 : isw B 6 A = true ↔ _ := e 8 (by decide)
  have e9 : isw B 7 A = true ↔ _ := e 9 (by decide)
  have e10 : isw B 8 A = true ↔ _ := e 10 (by decide)
  have e11 : isw B 9 A = true ↔ _ := e 11 (by decide)
  have e12 : isw B 10 A = true ↔ _ := e 12 (by decide)
  have e13 : isw B 11 A = true ↔ _ := e 13 (by decide)
  have r := wdx_r (B := B) (s := (A.1 8).toNat) (e := (A.1 6).toNat)
  unfold kow
  simp only [e8, e9, e10, e11, e12, e13]
  generalize wdx B (A.1 8).toNat (A.1 6).toNat = x at *
  refine ⟨fun q => ⟨fun h => ?_, fun h => ?_⟩, fun q => ?_⟩
  · repeat' split
    all_goals omega
  · repeat' split
    all_goals omega
  · repeat' split
    all_goals omega
/-- what was told of kings is so -/
def KB (A : (Nat → Int) × (Nat → Int)) (W H : Nat) : Prop := A.1 2 = 0 → ∀ s, s ≤ 1 → (A.1 5).toNat.testBit (4 + s) = kg W H A.2 s
theorem bit4 : ∀ T, T < 64 → ∀ s, s < 2 → (T ||| 2 ^ (4 + s)) % 16 = T % 16 := by decide +kernel
theorem m298 (hB : BM M B L) (hX : TX M) (h : SS B M A W H) (hW : WA B L A) (hK : KB A W H) {s : Nat} (hs : s ≤ 1) : An (d_298 249 (zI (s : Nat)) M) (fun M' => SS B M' (aP B L s W H A) W H ∧ mf M M') := by
  obtain ⟨s1, r, s2, s3, s4⟩ := h
  obtain ⟨W4, WK, W5, W6, W7⟩ := hW.p7 (W := W) (H := H) hs
  have hw := s3.1.2.2
  have hw' := hw
  obtain ⟨w1, w2, w3, w4⟩ := hw'
  have kr := kow_r (B := B) (A := aP4 B L s A)
  have kW := kow_w W4
  have k04 : sk A (aP4 B L s A) := (sk.p7 (W := W) (H := H)).1
  have k4K : sk (aP4 B L s A) (aK B L s (aP4 B L s A)) := sk.k
  have kK5 : sk (aK B L s (aP4 B L s A)) (aP5 B L s W A) := sk.n
  have k56 : sk (aP5 B L s W A) (aP6 B L s W H A) := sk.n
  have k67 : sk (aP6 B L s W H A) (aP7 B L s W H A) := by unfold aP7; exact sk.i sk.rf sk.f
  have z24 : ∀ k : Nat, (24 : Int32) + zI (k : Nat) = zI ((24 + k : Nat) : Int) := fun k => z_ad 24 k
  have z88 : ∀ k : Nat, (88 : Int32) + zI (k : Nat) = zI ((88 + k : Nat) : Int) := fun k => z_ad 88 k
  have e42 : (aP6 B L s W H A).2 = A.2 := by
    have e5 : (aP5 B L s W A).2 = A.2 := by
      unfold aP5
      rw [aN_2, aK_2]
      unfold aP4
      rw [aT_v.2.2.2.2.2.2.2.2]
      split
      · rfl
      · exact aF_v.2.1
    unfold aP6
    rw [aN_2]
    exact e5
  -- the last: the piece is put
  have go159 : ∀ (M5 : Mm) (kv x y : Int) (b : Bool), mf M M5 → MR M5 r → ST B M5 (aN2 B 0 ((H : Int) - 1) (aP5 B L s W A)) → (1 ≤ kv ∧ kv ≤ 6) → (0 ≤ x ∧ x ≤ (W : Int) - 1) → (0 ≤ y ∧ y ≤ (H : Int) - 1) → ((aN2 B 0 ((H : Int) - 1) (aP5 B L s W A)).1 2 = 0 → kv = kow B (aP4 B L s A) + 1 ∧ x = aPx B L s W A ∧ y = aPy B L s W H A ∧ (b = true ↔ (aP6 B L s W H A).2 (24 + aPc B L s W H A) = 0)) → An (d_298_159 249 (zI (s : Nat)) (zI kv) (zI x) (zI y) 249 b M5) (fun M' => SS B M' (aP B L s W H A) W H ∧ mf M M') := fun M5 kv x y b fr hr hs5 hkv hx hy hb => by
    have WY : WA B L (aN2 B 0 ((H : Int) - 1) (aP5 B L s W A)) := W5.n
    unfold d_298_159
    rw [zl_3]
    refine (m289b hs5 WY (c := 3) (by decide) (fun z => (hb z).2.2.2)).bd (fun M6 ⟨a, c⟩ => ?_)
    have f6 := fr.tr c.mf
    have w1' : WA B L (if (aP6 B L s W H A).2 (24 + aPc B L s W H A) = 0 then aN2 B 0 ((H : Int) - 1) (aP5 B L s W A) else aF 3 ((aN2 B 0 ((H : Int) - 1) (aP5 B L s W A)).1 8) (aN2 B 0 ((H : Int) - 1) (aP5 B L s W A))) := by split; exact WY; exact WY.f (by decide)
    refine (m290 (f6.bm hB) (f6.tx hX) a w1').bd (fun M7 ⟨d, e⟩ => ?_)
    have f7 := f6.tr e.mf
    have hr7 : MR M7 r := (c.tr e).mr hr
    have s7 : ST B M7 (aP7 B L s W H A) := ST.dly d
    rw [m288 s7 W7]
    simp only [obs]
    by_cases q : (aP7 B L s W H A).1 2 = 0
    · rw [decide_eq_true q, if_pos rfl]
      have z6 := lv k67 q
      have zY : (aN2 B 0 ((H : Int) - 1) (aP5 B L s W A)).1 2 = 0 := by
        have : (aP6 B L s W H A).1 2 = (aN2 B 0 ((H : Int) - 1) (aP5 B L s W A)).1 2 := aT_v.1
        omega
      have z0 := lv k04 (lv k4K (lv kK5 (lv k56 z6)))
      have er := s4 z0
      subst er
      obtain ⟨b1, b2, b3, b4⟩ := hb zY
      have mw : ∀ {M' : Mm} {ρ : Nat → Int}, MR M' ρ → WR ρ W H → MW M' ρ W H := fun h1 h2 => ⟨h1, h2.1.1, h2.1.2.1, hw⟩
      have ec : x.toNat + W * y.toNat = aPc B L s W H A := by unfold aPc; rw [b2, b3]
      have hxx : x.toNat < W := by omega
      have hyy : y.toNat < H := by omega
      have c64 := cell_64 hw hxx hyy
      rw [m214n (mw hr7 s3) hx.1 hy.1]
      simp only [obs]
      rw [z24, if_pos (in_r (by omega)), wbs, zl_6, zI_mul, zI_add]
      have g1 : MR (wr M7 (sh_r 249 1) (ix (zI ((24 + (x.toNat + W * y.toNat) : Nat) : Int))) (zI (kv + 6 * ((s : Nat) : Int)))) (rs A.2 (24 + (x.toNat + W * y.toNat)) (kv + 6 * ((s : Nat) : Int))) := hr7.pt (by omega)
      have o1 : rs A.2 (24 + (x.toNat + W * y.toNat)) (kv + 6 * ((s : Nat) : Int)) 0 = W := by rw [rs_ne (by omega)]; exact s3.1.1
      have o2 : rs A.2 (24 + (x.toNat + W * y.toNat)) (kv + 6 * ((s : Nat) : Int)) 1 = H := by rw [rs_ne (by omega)]; exact s3.1.2.1
      have h1 : ∀ a, a ≠ 250 → wr M7 (sh_r 249 1) (ix (zI ((24 + (x.toNat + W * y.toNat) : Nat) : Int))) (zI (kv + 6 * ((s : Nat) : Int))) a = M7 a := fun a ha => wr_r ha
      generalize wr M7 (sh_r 249 1) (ix (zI ((24 + (x.toNat + W * y.toNat) : Nat) : Int))) (zI (kv + 6 * ((s : Nat) : Int))) = M8 at *
      rw [m214n ⟨g1, o1, o2, hw⟩ hx.1 hy.1]
      simp only [obs]
      rw [z88, if_pos (in_r (by omega)), wbs]
      have g2 : MR (wr M8 (sh_r 249 1) (ix (zI ((88 + (x.toNat + W * y.toNat) : Nat) : Int))) (zI (kv + 6 * ((s : Nat) : Int)))) (rs (rs A.2 (24 + (x.toNat + W * y.toNat)) (kv + 6 * ((s : Nat) : Int))) (88 + (x.toNat + W * y.toNat)) (kv + 6 * ((s : Nat) : Int))) := g1.pt (by omega)
      have h2 : ∀ a, a ≠ 250 → wr M8 (sh_r 249 1) (ix (zI ((88 + (x.toNat + W * y.toNat) : Nat) : Int))) (zI (kv + 6 * ((s : Nat) : Int))) a = M8 a := fun a ha => wr_r ha
      generalize wr M8 (sh_r 249 1) (ix (zI ((88 + (x.toNat + W * y.toNat) : Nat) : Int))) (zI (kv + 6 * ((s : Nat) : Int))) = M9 at *
      have s9 : ST B M9 (aP7 B L s W H A) := (s7.of h1).of h2
      have e : rs (rs A.2 (24 + (x.toNat + W * y.toNat)) (kv + 6 * ((s : Nat) : Int))) (88 + (x.toNat + W * y.toNat)) (kv + 6 * ((s : Nat) : Int)) = rpl A.2 (aPc B L s W H A) (kow B (aP4 B L s A) + 6 * ((s : Nat) : Int) + 1) := by
        rw [ec, b1, show kow B (aP4 B L s A) + 1 + 6 * ((s : Nat) : Int) = kow B (aP4 B L s A) + 6 * ((s : Nat) : Int) + 1 by omega]
        funext k
        unfold rs rpl
        by_cases e1 : k = 88 + aPc B L s W H A
        · rw [if_pos e1, if_pos (Or.inr e1)]
        · rw [if_neg e1]
          by_cases e2 : k = 24 + aPc B L s W H A
          · rw [if_pos e2, if_pos (Or.inl e2)]
          · rw [if_neg e2, if_neg (fun z => z.elim e2 e1)]
      rw [e] at g2
      obtain ⟨t1, t2, t3⟩ := s9
      obtain ⟨⟨u1, u2, u3, u4, u5⟩, u6, u7⟩ := t3 q
      rw [wbs, u7, zl_1, zI_add]
      refine An.so ⟨⟨⟨?_, ?_, fun _ => ?_⟩, _, g2.mm (wr_ne (by decide)), ?_, fun _ => ?_⟩, (f7.tr (mf.of (fun a ha => (h2 a ha).trans (h1 a ha)))).tr (sf.wr (by decide)).mf⟩
      · unfold aP
        dsimp only
        rw [wr_nk (by decide), rs_ne (by decide)]; exact t1
      · unfold aP
        dsimp only
        rw [wr_nk (by decide), rs_ne (by decide)]; exact t2
      · unfold aP TR
        dsimp only
        rw [rs_ne (by decide), rs_ne (by decide), rs_ne (by decide), rs_ne (by decide), rs_eq, wr_nk (by decide), wr_nk (by decide), wr_nk (by decide), wr_nk (by decide), wr_nk (by decide), wr_nk (by decide), wr_eq]
        exact ⟨⟨u1, u2, u3, u4, u5⟩, u6, rfl⟩
      · obtain ⟨⟨a1, a2, a3⟩, bb, cc', dd, ee⟩ := s3
        have hn : ∀ j, j < 24 ∨ 280 ≤ j → rpl A.2 (aPc B L s W H A) (kow B (aP4 B L s A) + 6 * ((s : Nat) : Int) + 1) j = A.2 j := fun j hj => by
          unfold rpl
          rw [if_neg (by omega)]
        refine ⟨⟨by rw [hn 0 (by omega)]; exact a1, by rw [hn 1 (by omega)]; exact a2, a3⟩, fun u w hu hw' => ?_, cc'.cg (fun j hj => hn j (by unfold pF at hj; omega)), by rw [hn 13 (by omega)]; exact dd, by rw [hn 14 (by omega)]; exact ee⟩
        dsimp only
        have c1 := cell_64 hw hu hw'
        unfold rpl
        by_cases e1 : u + W * w = aPc B L s W H A
        · rw [if_pos (by omega)]; omega
        · rw [if_neg (by omega)]; exact bb u w hu hw'
      · unfold aP
        dsimp only
        rw [aP_4.2]
    · rw [decide_eq_false q, if_neg (by decide)]
      refine An.so ⟨⟨?_, r, hr7, s3, fun z => ?_⟩, f7⟩
      · exact s7.dead q (fun _ => ⟨by unfold aP; dsimp only; rw [rs_ne (by decide)], by unfold aP; dsimp only; rw [rs_ne (by decide)]⟩)
      · exfalso
        unfold aP at z
        dsimp only at z
        rw [rs_ne (by decide)] at z
        exact q z
  -- the place
  have go102 : ∀ (M4 : Mm) (kv : Int) (X : (Nat → Int) × (Nat → Int)), mf M M4 → MR M4 r → ST B M4 X → WA B L X → aT B L X = aK B L s (aP4 B L s A) → (1 ≤ kv ∧ kv ≤ 6) → ((aK B L s (aP4 B L s A)).1 2 = 0 → kv = kow B (aP4 B L s A) + 1) → An (d_298_102 249 (zI (s : Nat)) (zI kv) M4) (fun M' => SS B M' (aP B L s W H A) W H ∧ mf M M') := fun M4 kv X fr hr hs4 wX eX hkv hk => by
    unfold d_298_102
    refine (m290 (fr.bm hB) (fr.tx hX) hs4 wX).bd (fun M5 ⟨a, c⟩ => ?_)
    rw [eX] at a
    have f5 := fr.tr c.mf
    have hr5 := c.mr hr
    rw [show (0 : Int32) = zI ((0 : Nat) : Int) from rfl, show (1 : Int32) = zI ((1 : Nat) : Int) from rfl, if_pos (in_r (by decide)), mr_k (by decide) hr5, s3.1.1, zI_sub]
    refine (m293 (f5.bm hB) (f5.tx hX) a WK (lo := ((0 : Nat) : Int)) (hi := (W : Int) - ((1 : Nat) : Int)) (by omega) (by omega) (by omega)).bd (fun q6 ⟨⟨x, x1, x2, x3, x4⟩, d, e⟩ => ?_)
    have f6 := f5.tr e.mf
    have hr6 := e.mr hr5
    change ST B q6.2 (aP5 B L s W A) at d
    change (aP5 B L s W A).1 2 = 0 → x = aPx B L s W A at x4
    rw [if_pos (in_r (by decide)), mr_k (by decide) hr6, s3.1.2.1, zI_sub]
    refine (m292 d W5 (lo := ((0 : Nat) : Int)) (hi := (H : Int) - ((1 : Nat) : Int)) (by omega) (by omega) (by omega)).bd (fun q7 ⟨⟨y, y1, y2, y3, y4⟩, i, j⟩ => ?_)
    have f7 := f6.tr j.mf
    have hr7 := j.mr hr6
    change ST B q7.2 (aN2 B 0 ((H : Int) - 1) (aP5 B L s W A)) at i
    change (aN2 B 0 ((H : Int) - 1) (aP5 B L s W A)).1 2 = 0 → y = aPy B L s W H A at y4
    have hxx : x.toNat < W := by omega
    have hyy : y.toNat < H := by omega
    have c64 := cell_64 hw hxx hyy
    rw [x1, y1, m214n ⟨hr7, s3.1.1, s3.1.2.1, hw⟩ (by omega) (by omega)]
    simp only [obs]
    rw [z24, if_pos (in_r (by omega)), mr_k (by omega) hr7]
    have bd := s3.2.1 x.toNat y.toNat hxx hyy
    dsimp only at bd
    have z4_ : (aN2 B 0 ((H : Int) - 1) (aP5 B L s W A)).1 2 = 0 → (aP5 B L s W A).1 2 = 0 := fun z => by
      refine lv k56 ?_
      rw [show (aP6 B L s W H A).1 2 = (aN2 B 0 ((H : Int) - 1) (aP5 B L s W A)).1 2 from aT_v.1]
      exact z
    have cl : ∀ b : Bool, (b = true ↔ r (24 + (x.toNat + W * y.toNat)) = 0) → ((aN2 B 0 ((H : Int) - 1) (aP5 B L s W A)).1 2 = 0 → kv = kow B (aP4 B L s A) + 1 ∧ x = aPx B L s W A ∧ y = aPy B L s W H A ∧ (b = true ↔ (aP6 B L s W H A).2 (24 + aPc B L s W H A) = 0)) := fun b hb z => by
      have z5 := z4_ z
      have zK := lv kK5 z5
      have z0 := lv k04 (lv k4K zK)
      refine ⟨hk zK, x4 z5, y4 z, ?_⟩
      rw [hb, s4 z0, e42]
      unfold aPc
      rw [x4 z5, y4 z]
    by_cases q : r (24 + (x.toNat + W * y.toNat)) = 0
    · rw [q, if_neg (fun e => e rfl)]
      exact go159 q7.2 kv x y true f7 hr7 i hkv ⟨x2, by omega⟩ ⟨y2, by omega⟩ (cl true ⟨fun _ => q, fun _ => rfl⟩)
    · rw [if_pos (by rw [zI_inj (by omega) (by omega) (by omega) (by omega)]; exact q)]
      exact go159 q7.2 kv x y false f7 hr7 i hkv ⟨x2, by omega⟩ ⟨y2, by omega⟩ (cl false ⟨fun e => by (cases e), fun e => absurd e q⟩)
  -- the king
  have eZ : ∀ X : (Nat → Int) × (Nat → Int), X = (if kow B (aP4 B L s A) = -1 then aF 1 ((aP4 B L s A).1 8) (aP4 B L s A) else aP4 B L s A) → sk (aP4 B L s A) X ∧ WA B L X ∧ X.1 5 = A.1 5 ∧ aK B L s (aP4 B L s A) = (if kow B (aP4 B L s A) = 0 then aO B L (4 + s) X else aT B L X) := fun X e => by
    refine ⟨by rw [e]; exact sk.i sk.f sk.rf, by rw [e]; split; exact W4.f (by decide); exact W4, ?_, by rw [e]; rfl⟩
    have e5 : (aP4 B L s A).1 5 = A.1 5 := by
      unfold aP4
      rw [aT_v.2.2.2.1]
      split
      · rfl
      · exact aF_v.1 5 (by decide) (by decide)
    rw [e]
    split
    · rw [aF_v.1 5 (by decide) (by decide)]; exact e5
    · exact e5
  have go78 : ∀ (M3 : Mm) (kv : Int) (Z : (Nat → Int) × (Nat → Int)), Z = (if kow B (aP4 B L s A) = -1 then aF 1 ((aP4 B L s A).1 8) (aP4 B L s A) else aP4 B L s A) → mf M M3 → MR M3 r → ST B M3 Z → (1 ≤ kv ∧ kv ≤ 6) → (Z.1 2 = 0 → kv = kow B (aP4 B L s A) + 1) → An (d_298_78 249 (zI (s : Nat)) (zI kv) M3) (fun M' => SS B M' (aP B L s W H A) W H ∧ mf M M') := fun M3 kv Z e fr hr hs3 hkv hk => by
    obtain ⟨kZ, WZ, Z5, eK⟩ := eZ Z e
    have kZX : sk Z (if kow B (aP4 B L s A) = 0 then aO1 (4 + s) Z else Z) := by
      refine sk.i ?_ sk.rf
      unfold aO1
      refine sk.tr (A' := if (Z.1 5).toNat.testBit (4 + s) = true then aF 3 (Z.1 8) Z else Z) (sk.i sk.f sk.rf) (fun _ => ⟨?_, ?_⟩)
      · dsimp only
        rw [rs_ne (by decide)]
      · dsimp only
        rw [rs_ne (by decide)]
    have WX : WA B L (if kow B (aP4 B L s A) = 0 then aO1 (4 + s) Z else Z) := by split; exact WZ.o1 (by omega); exact WZ
    have eX : aT B L (if kow B (aP4 B L s A) = 0 then aO1 (4 + s) Z else Z) = aK B L s (aP4 B L s A) := by
      rw [eK]
      split <;> rfl
    have kXK : sk (if kow B (aP4 B L s A) = 0 then aO1 (4 + s) Z else Z) (aK B L s (aP4 B L s A)) := by rw [← eX]; exact sk.t
    have hkK : (aK B L s (aP4 B L s A)).1 2 = 0 → kv = kow B (aP4 B L s A) + 1 := fun z => hk (lv kZX (lv kXK z))
    unfold d_298_78
    by_cases q1 : kv = 1
    · rw [q1, if_neg (fun e => e rfl), m297 hr s3 hs]
      simp only [obs]
      have go98 : ∀ b : Bool, (Z.1 2 = 0 → (b = true ↔ ¬ (Z.1 5).toNat.testBit (4 + s) = true)) → An (d_298_98 249 (zI (s : Nat)) (zI 1) 249 b M3) (fun M' => SS B M' (aP B L s W H A) W H ∧ mf M M') := fun b hb => by
        unfold d_298_98
        rw [zl_3]
        refine (m289b hs3 WZ (c := 3) (by decide) hb).bd (fun M4 ⟨a, c⟩ => ?_)
        refine go102 M4 1 _ (fr.tr c.mf) (c.mr hr) ?_ WX eX (by decide) (fun z => by rw [← hkK z, q1])
        by_cases q : Z.1 2 = 0
        · have k0 : kow B (aP4 B L s A) = 0 := by have := hk q; omega
          rw [if_pos k0]
          have w5 := WZ.2.2.1
          have b4 := bit4 (Z.1 5).toNat (by omega) s (by omega)
          unfold aO1
          by_cases qb : (Z.1 5).toNat.testBit (4 + s) = true
          · rw [if_neg (fun z => z qb)] at a
            rw [if_pos qb]
            obtain ⟨a1, a2, a3⟩ := a
            refine ⟨?_, ?_, fun z => ?_⟩
            · dsimp only; rw [rs_ne (by decide)]; exact a1
            · dsimp only; rw [rs_ne (by decide)]; exact a2
            · exfalso
              dsimp only at z
              rw [rs_ne (by decide)] at z
              exact aF_z (by decide) z
          · rw [if_pos qb] at a
            rw [if_neg qb]
            obtain ⟨a1, a2, a3⟩ := a
            refine ⟨?_, ?_, fun z => ?_⟩
            · dsimp only; rw [rs_ne (by decide)]; exact a1
            · dsimp only; rw [rs_ne (by decide)]; exact a2
            · obtain ⟨t1, t2, t3⟩ := a3 q
              dsimp only
              rw [rs_ne (by decide), rs_ne (by decide), rs_ne (by decide), rs_eq, rs_ne (by decide), Int.toNat_natCast, b4]
              exact ⟨t1, t2, t3⟩
        · have : (if ¬ (Z.1 5).toNat.testBit (4 + s) = true then Z else aF 3 (Z.1 8) Z) = Z := by
            rw [aF_v.2.2.2 q]
            split <;> rfl
          rw [this] at a
          exact a.dead q kZX
      have kb : Z.1 2 = 0 → (Z.1 5).toNat.testBit (4 + s) = kg W H r s := fun z => by
        have z0 := lv k04 (lv kZ z)
        rw [Z5, hK z0 s hs, s4 z0]
      by_cases qg : kg W H r s = true
      · rw [if_pos qg]
        exact go98 false (fun z => ⟨fun e => by (cases e), fun e => absurd (by rw [kb z]; exact qg) e⟩)
      · rw [if_neg qg]
        exact go98 true (fun z => ⟨fun _ => by rw [kb z]; exact qg, fun _ => rfl⟩)
    · rw [if_pos (by rw [zl_1, zI_inj (by omega) (by omega) (by omega) (by omega)]; exact q1)]
      refine go102 M3 kv _ fr hr ?_ WX eX hkv hkK
      by_cases q : Z.1 2 = 0
      · rw [if_neg (by have := hk q; omega)]
        exact hs3
      · exact hs3.dead q kZX
  have go54 : ∀ (M2 : Mm) (b : Bool), mf M M2 → MR M2 r → ST B M2 (aP4 B L s A) → ((aP4 B L s A).1 2 = 0 → (b = true ↔ ¬ kow B (aP4 B L s A) = -1)) → An (d_298_54 249 (zI (s : Nat)) 249 b M2) (fun M' => SS B M' (aP B L s W H A) W H ∧ mf M M') := fun M2 b fr hr hs2 hb => by
    unfold d_298_54
    rw [zl_1]
    refine (m289b hs2 W4 (c := 1) (by decide) hb).bd (fun M3 ⟨a, c⟩ => ?_)
    have e : (if ¬ kow B (aP4 B L s A) = -1 then aP4 B L s A else aF 1 ((aP4 B L s A).1 8) (aP4 B L s A)) = (if kow B (aP4 B L s A) = -1 then aF 1 ((aP4 B L s A).1 8) (aP4 B L s A) else aP4 B L s A) := by
      by_cases q : kow B (aP4 B L s A) = -1
      · rw [if_neg (fun z => z q), if_pos q]
      · rw [if_pos q, if_neg q]
    rw [e] at a
    have WZ := (eZ _ rfl).2.1
    rw [m288 a WZ]
    simp only [obs]
    have f3 := fr.tr c.mf
    have hr3 := c.mr hr
    by_cases q : (if kow B (aP4 B L s A) = -1 then aF 1 ((aP4 B L s A).1 8) (aP4 B L s A) else aP4 B L s A).1 2 = 0
    · have kn : ¬ kow B (aP4 B L s A) = -1 := fun z => by
        rw [if_pos z] at q
        exact aF_z (by decide) q
      rw [decide_eq_true q, if_pos rfl]
      rw [if_neg kn] at q
      have a' := a
      rw [if_neg kn] at a'
      have q7 : (aP4 B L s A).1 7 = 1 := by
        by_cases z : (aP4 B L s A).1 7 = 1
        · exact z
        · exact absurd (kW.2 z) kn
      have k8 := kW.1 q7
      have e23 := (a'.2.2 q).1.2.2.2.1 (by rw [q7]; rfl)
      have kv : kow B (aP4 B L s A) = wdx B ((aP4 B L s A).1 8).toNat ((aP4 B L s A).1 6).toNat - 8 := by
        by_cases z : 8 ≤ wdx B ((aP4 B L s A).1 8).toNat ((aP4 B L s A).1 6).toNat
        · exact k8.1 z
        · exact absurd (k8.2 (by omega)) kn
      rw [e23, zl_8, zI_sub, zI_add, ← kv]
      exact go78 M3 _ _ rfl f3 hr3 a ⟨by omega, by omega⟩ (fun _ => rfl)
    · rw [decide_eq_false q, if_neg (by decide)]
      exact go78 M3 1 _ rfl f3 hr3 a (by decide) (fun z => absurd z q)
  have go15 : ∀ b : Bool, (A.1 2 = 0 → (b = true ↔ A.1 4 < 32)) → An (d_298_15 249 (zI (s : Nat)) 249 b M) (fun M' => SS B M' (aP B L s W H A) W H ∧ mf M M') := fun b hb => by
    unfold d_298_15
    rw [zl_4]
    refine (m289b s1 hW (c := 4) (by decide) hb).bd (fun M1 ⟨a, c⟩ => ?_)
    have w1 : WA B L (if A.1 4 < 32 then A else aF 4 (A.1 8) A) := by split; exact hW; exact hW.f (by decide)
    refine (m290 (c.bm hB) (c.tx hX) a w1).bd (fun M2 ⟨d, e⟩ => ?_)
    change ST B M2 (aP4 B L s A) at d
    have f2 := (c.tr e).mf
    have hr2 := (c.tr e).mr s2
    by_cases q : (aP4 B L s A).1 2 = 0
    · obtain ⟨⟨t1, t2, t3, t4, t5⟩, -, -⟩ := d.2.2 q
      have w7 := W4.2.2.2.2.1
      rw [t3]
      by_cases q7 : (aP4 B L s A).1 7 = 1
      · have rr := wdx_r (B := B) (s := ((aP4 B L s A).1 8).toNat) (e := ((aP4 B L s A).1 6).toNat)
        have k8 := kW.1 q7
        rw [if_neg (by rw [q7]; exact fun e => e rfl), t4 (by rw [q7]; rfl), zl_8, show (13 : Int32) = zI 13 from rfl, m185 (by omega) (by omega) (by omega) (by omega) (by omega) (by omega)]
        simp only [obs]
        by_cases qw : 8 ≤ wdx B ((aP4 B L s A).1 8).toNat ((aP4 B L s A).1 6).toNat
        · rw [decide_eq_true (show 8 ≤ wdx B ((aP4 B L s A).1 8).toNat ((aP4 B L s A).1 6).toNat ∧ wdx B ((aP4 B L s A).1 8).toNat ((aP4 B L s A).1 6).toNat ≤ 13 from ⟨qw, rr.2⟩), if_pos rfl]
          exact go54 M2 true f2 hr2 d (fun _ => ⟨fun _ z => by have := k8.1 qw; omega, fun _ => rfl⟩)
        · rw [decide_eq_false (show ¬ (8 ≤ wdx B ((aP4 B L s A).1 8).toNat ((aP4 B L s A).1 6).toNat ∧ wdx B ((aP4 B L s A).1 8).toNat ((aP4 B L s A).1 6).toNat ≤ 13) from fun z => qw z.1), if_neg (by decide)]
          exact go54 M2 false f2 hr2 d (fun _ => ⟨fun e => by (cases e), fun e => absurd (k8.2 (by omega)) e⟩)
      · rw [if_pos (by rw [zl_1, zI_inj (by omega) (by omega) (by omega) (by omega)]; omega)]
        exact go54 M2 false f2 hr2 d (fun _ => ⟨fun e => by (cases e), fun e => absurd (kW.2 q7) e⟩)
    · split
      · exact go54 M2 false f2 hr2 d (fun z => absurd z q)
      · obtain ⟨v, ev, v1, v2⟩ := zI_ex (M2 249 23)
        rw [ev, zl_8, show (13 : Int32) = zI 13 from rfl, m185 (by omega) (by omega) (by omega) (by omega) (by omega) (by omega)]
        simp only [obs]
        split
        · exact go54 M2 true f2 hr2 d (fun z => absurd z q)
        · exact go54 M2 false f2 hr2 d (fun z => absurd z q)
  unfold d_298
  have w4' := hW.2.1
  by_cases q : A.1 2 = 0
  · rw [(s1.2.2 q).2.2]
    by_cases q4 : A.1 4 < 32
    · rw [if_neg (by rw [show (32 : Int32) = zI 32 from rfl, zI_le (by omega) (by omega) (by omega) (by omega)]; omega)]
      exact go15 true (fun _ => ⟨fun _ => q4, fun _ => rfl⟩)
    · rw [if_pos (by rw [show (32 : Int32) = zI 32 from rfl, zI_le (by omega) (by omega) (by omega) (by omega)]; omega)]
      exact go15 false (fun _ => ⟨fun e => by (cases e), fun e => absurd e q4⟩)
  · split
    · exact go15 false (fun z => absurd z q)
    · exact go15 true (fun z => absurd z q)
/-- a statement -/
theorem m301 (hB : BM M B L) (hX : TX M) (h : SS B M A W H) (hW : WA B L A) (hK : KB A W H) (h2 : A.1 2 = 0) (h4 : A.1 4 ≤ 32) : An (d_301 249 M) (fun M' => SS B M' (aM B L (aSt B L W H A)) W H ∧ mf M M') := by
  have e : ∀ w, w < 14 → d_291 249 (zI (w : Nat)) M = some (isw B (kk w) A) := fun w hw => by
    rw [m291 h.1 hW hw]
    refine congrArg some ?_
    cases hb : isw B (kk w) A with
    | true => exact decide_eq_true ⟨h2, rfl⟩
    | false => exact decide_eq_false (fun z => by cases z.2)
  have e1 : d_291 249 1 M = some (isw B 1 A) := e 1 (by decide)
  have e2 : d_291 249 2 M = some (isw B 2 A) := e 2 (by decide)
  have e3 : d_291 249 3 M = some (isw B 3 A) := e 3 (by decide)
  have e4 : d_291 249 4 M = some (isw B 4 A) := e 4 (by decide)
  have e5 : d_291 249 5 M = some (isw B 5 A) := e 5 (by decide)
  have e6 : d_291 249 6 M = some (isw B 12 A) := e 6 (by decide)
  have e7 : d_291 249 7 M = some (isw B 13 A) := e 7 (by decide)
  have WS : WA B L (aSt B L W H A) := hW.st h4
  have fin : ∀ M1, SS B M1 (aSt B L W H A) W H → mf M M1 → An (d_301_131 249 M1) (fun M' => SS B M' (aM B L (aSt B L W H A)) W H ∧ mf M M') := fun M1 a b => by
    unfold d_301_131
    exact (m300 (b.bm hB) (b.tx hX) a WS).bd (fun M2 ⟨c, d⟩ => An.so ⟨c, b.tr d⟩)
  unfold d_301
  rw [e1, e2, e3, e4, e5, e6, e7]
  simp only [obs]
  by_cases q1 : isw B 1 A = true
  · have es : aSt B L W H A = aC B L A := by unfold aSt; rw [if_pos q1]
    rw [if_pos q1]
    exact (m295 hB hX h hW).bd (fun M1 ⟨a, b⟩ => fin M1 (by rw [es]; exact a) b)
  rw [if_neg q1]
  by_cases q2 : isw B 2 A = true
  · have es : aSt B L W H A = aS B L 1 5 1 5 A := by unfold aSt; rw [if_neg q1, if_pos q2]
    rw [if_pos q2]
    exact (m296 hB hX h hW (i := 1) (k := 5) (lo := 1) (hi := 5) (by decide) (by decide) (by decide) (by decide) (by unfold pS; omega)).bd (fun M1 ⟨a, b⟩ => fin M1 (by rw [es]; exact a) b)
  rw [if_neg q2]
  by_cases q3 : isw B 3 A = true
  · have es : aSt B L W H A = aS B L 2 6 0 9 A := by unfold aSt; rw [if_neg q1, if_neg q2, if_pos q3]
    rw [if_pos q3]
    exact (m296 hB hX h hW (i := 2) (k := 6) (lo := 0) (hi := 9) (by decide) (by decide) (by decide) (by decide) (by unfold pS; omega)).bd (fun M1 ⟨a, b⟩ => fin M1 (by rw [es]; exact a) b)
  rw [if_neg q3]
  by_cases q4 : isw B 4 A = true
  · have es : aSt B L W H A = aS B L 3 7 1 9 A := by unfold aSt; rw [if_neg q1, if_neg q2, if_neg q3, if_pos q4]
    rw [if_pos q4]
    exact (m296 hB hX h hW (i := 3) (k := 7) (lo := 1) (hi := 9) (by decide) (by decide) (by decide) (by decide) (by unfold pS; omega)).bd (fun M1 ⟨a, b⟩ => fin M1 (by rw [es]; exact a) b)
  rw [if_neg q4]
  by_cases q5 : isw B 5 A = true
  · have es : aSt B L W H A = aP B L 0 W H A := by unfold aSt; rw [if_neg q1, if_neg q2, if_neg q3, if_neg q4, if_pos q5]
    rw [if_pos q5]
    exact (m298 hB hX h hW hK (s := 0) (by decide)).bd (fun M1 ⟨a, b⟩ => fin M1 (by rw [es]; exact a) b)
  rw [if_neg q5]
  by_cases q6 : isw B 12 A = true
  · have es : aSt B L W H A = aP B L 1 W H A := by unfold aSt; rw [if_neg q1, if_neg q2, if_neg q3, if_neg q4, if_neg q5, if_pos q6]
    rw [if_pos q6]
    exact (m298 hB hX h hW hK (s := 1) (by decide)).bd (fun M1 ⟨a, b⟩ => fin M1 (by rw [es]; exact a) b)
  rw [if_neg q6]
  by_cases q7 : isw B 13 A = true
  · have es : aSt B L W H A = aG B L A := by unfold aSt; rw [if_neg q1, if_neg q2, if_neg q3, if_neg q4, if_neg q5, if_neg q6, if_pos q7]
    rw [if_pos q7]
    exact (m299 hB hX h hW).bd (fun M1 ⟨a, b⟩ => fin M1 (by rw [es]; exact a) b)
  have es : aSt B L W H A = aF 1 (A.1 8) A := by unfold aSt; rw [if_neg q1, if_neg q2, if_neg q3, if_neg q4, if_neg q5, if_neg q6, if_neg q7]
  rw [if_neg q7, zl_1]
  obtain ⟨s1, r, s2, s3, s4⟩ := h
  refine (m289f s1 hW (c := 1) (by decide)).bd (fun M1 ⟨a, b⟩ => fin M1 ?_ b.mf)
  rw [es]
  exact ⟨a, r, b.mr s2, s3, fun z => absurd z (aF_z (by decide))⟩
end TK
