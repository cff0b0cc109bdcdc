/-! What the reference does with tokens: in step with the class while there is no error. -/
section TI
variable {m M : Mm} {L : Nat} {B : Nat → Int} {A A' : (Nat → Int) × (Nat → Int)}
def ST (B : Nat → Int) (M : Mm) (A : (Nat → Int) × (Nat → Int)) : Prop := M 249 25 = zI (A.1 2) ∧ M 249 26 = zI (A.1 3) ∧ (A.1 2 = 0 → TR B M (A.1 8).toNat (A.1 6).toNat (A.1 7).toNat ∧ M 249 27 = zI ((2 * ((A.1 5).toNat % 16) : Nat) : Int) ∧ M 249 28 = zI (A.1 4))
def sf (m M : Mm) : Prop := (∀ j, j < 20 ∨ 28 < j → M 249 j = m 249 j) ∧ ∀ a, a ≠ 249 → M a = m a
theorem sf.rf (m : Mm) : sf m m := ⟨fun _ _ => rfl, fun _ _ => rfl⟩
theorem sf.tr {m m1 m2 : Mm} (h : sf m m1) (k : sf m1 m2) : sf m m2 := ⟨fun j hj => (k.1 j hj).trans (h.1 j hj), fun a ha => (k.2 a ha).trans (h.2 a ha)⟩
theorem r6.sf (h : r6 m M) : sf m M := ⟨fun j hj => h.1 j (by omega), h.2⟩
theorem sf.bm (h : sf m M) (hB : BM m B L) : BM M B L := ⟨hB.1, by rw [h.1 19 (by decide)]; exact hB.2.1, fun i hi => by rw [h.2 264 (by decide)]; exact hB.2.2 i hi⟩
theorem sf.tx (h : sf m M) (hX : TX m) : TX M := hX.mm (fun a _ _ => h.2 a (by omega))
theorem sf.wr {k : Nat} {v : Int32} (hk : 20 ≤ k ∧ k ≤ 28) : sf m (wr m 249 k v) := ⟨fun j hj => wr_nk (by omega), fun a ha => wr_ne ha⟩
theorem ST.cg (h : ST B M A) (e2 : A'.1 2 = A.1 2) (e3 : A'.1 3 = A.1 3) (e : A.1 2 = 0 → A'.1 4 = A.1 4 ∧ A'.1 5 = A.1 5 ∧ A'.1 6 = A.1 6 ∧ A'.1 7 = A.1 7 ∧ A'.1 8 = A.1 8) : ST B M A' := by
  obtain ⟨h1, h2, h3⟩ := h
  refine ⟨by rw [e2]; exact h1, by rw [e3]; exact h2, fun z => ?_⟩
  rw [e2] at z
  obtain ⟨a, b, c, d, f⟩ := e z
  rw [a, b, c, d, f]
  exact h3 z
theorem ST.dead (h : ST B M A) (z : A.1 2 ≠ 0) (k : sk A A') : ST B M A' := by
  obtain ⟨k1, k2⟩ := k z
  exact h.cg k1 k2 (fun e => absurd e z)
theorem m288 (h : ST B M A) (hW : WA B L A) : d_288 249 M = some (decide (A.1 2 = 0)) := by
  have w2 := hW.1
  unfold d_288
  rw [h.1]
  by_cases q : A.1 2 = 0
  · rw [q, if_neg (fun e => e rfl)]; rfl
  · rw [if_pos (by rw [zl_0, zI_inj (by omega) (by omega) (by omega) (by omega)]; exact q), decide_eq_false q]
theorem m289t {x : Int32} : d_289 249 true x M = some M := by
  unfold d_289
  split <;> rfl
theorem m289f (h : ST B M A) (hW : WA B L A) {c : Int} (hc : 1 ≤ c ∧ c ≤ 5) : An (d_289 249 false (zI c) M) (fun M' => ST B M' (aF c (A.1 8) A) ∧ sf M M') := by
  have w2 := hW.1
  have w8 := hW.2.2.2.1
  unfold d_289
  rw [h.1]
  by_cases q : A.1 2 = 0
  · rw [q, if_neg (fun e => e rfl), if_neg (by decide), wbs, wr_nk (by decide), (h.2.2 q).1.2.1, wbs]
    obtain ⟨f1, f2⟩ := (aF_v (A := A) (c := c) (o := A.1 8)).2.2.1 q
    refine An.so ⟨⟨?_, ?_, fun z => ?_⟩, (sf.wr (by decide)).tr (sf.wr (by decide))⟩
    · rw [f1, wr_nk (by decide), wr_eq]
    · rw [f2, wr_eq]; exact congrArg zI (by omega)
    · rw [f1] at z; omega
  · rw [if_pos (by rw [zl_0, zI_inj (by omega) (by omega) (by omega) (by omega)]; exact q), aF_v.2.2.2 q]
    exact An.so ⟨h, sf.rf M⟩
theorem m290 (hB : BM M B L) (hX : TX M) (h : ST B M A) (hW : WA B L A) : An (d_290 249 M) (fun M' => ST B M' (aT B L A) ∧ sf M M') := by
  have w8 := hW.2.2.2.1
  obtain ⟨v2, v3, v4, v5, v6, v7, v8, v9, -⟩ := aT_v (B := B) (L := L) (A := A)
  unfold d_290
  rw [m288 h hW]
  simp only [obs]
  by_cases q : A.1 2 = 0
  · rw [decide_eq_true q, if_pos rfl]
    obtain ⟨h1, h2, h3⟩ := h
    obtain ⟨t1, t2, t3⟩ := h3 q
    refine (m286 hB hX (p := (A.1 6).toNat) (by omega) t1.1).bd (fun M' ⟨a, b⟩ => An.so ⟨⟨?_, ?_, fun _ => ⟨?_, ?_, ?_⟩⟩, a.sf⟩)
    · rw [a.1 25 (by decide), v2]; exact h1
    · rw [a.1 26 (by decide), v3]; exact h2
    · rw [v6, v7, v8]; exact b
    · rw [a.1 27 (by decide), v5]; exact t2
    · rw [a.1 28 (by decide), v4]; exact t3
  · rw [decide_eq_false q, if_neg (by decide)]
    exact An.so ⟨h.dead q sk.t, sf.rf M⟩
theorem isw_w (hW : WA B L A) {k : Nat} : isw B k A = decide (A.1 7 = 1 ∧ wm B (A.1 8).toNat (A.1 6).toNat k = true) := by
  have w8 := hW.2.2.2.1
  unfold isw wm
  by_cases q : A.1 7 = 1
  · by_cases q2 : ((A.1 6).toNat : Int) - ((A.1 8).toNat : Nat) = ((ev_tb k).length : Nat) ∧ ff (fun i => !(decide (zI (B ((A.1 8).toNat + i)) = (ev_tb k).getD i 0))) (ev_tb k).length = (ev_tb k).length
    · rw [decide_eq_true q2, decide_eq_true ⟨q, by omega, q2.2⟩, decide_eq_true ⟨q, rfl⟩]
    · rw [decide_eq_false q2, decide_eq_false (fun z => q2 ⟨by omega, z.2.2⟩), decide_eq_false (fun z => by cases z.2)]
  · rw [decide_eq_false (fun z => q z.1), decide_eq_false (fun z => q z.1)]
theorem wdx_w {s e w : Nat} (hw : w < 14) : wdx B s e = (w : Nat) ↔ wm B s e (kk w) = true := by
  unfold wdx
  constructor
  · intro h
    by_cases q : wdn B s e < 14
    · rw [if_pos q] at h
      have e1 : wdn B s e = w := by omega
      have := ff_at (p := fun w => wm B s e (kk w)) (n := 14) q
      change wm B s e (kk (wdn B s e)) = true at this
      rw [e1] at this
      exact this
    · rw [if_neg q] at h; omega
  · intro h
    have e1 := wdn_u hw h
    rw [e1, if_pos hw]
theorem wdx_r {s e : Nat} : -1 ≤ wdx B s e ∧ wdx B s e ≤ 13 := by
  unfold wdx
  split <;> omega
theorem m291 (h : ST B M A) (hW : WA B L A) {w : Nat} (hw : w < 14) : d_291 249 (zI (w : Nat)) M = some (decide (A.1 2 = 0 ∧ isw B (kk w) A = true)) := by
  have w7 := hW.2.2.2.2.1
  unfold d_291
  rw [m288 h hW, isw_w hW]
  simp only [obs]
  by_cases q : A.1 2 = 0
  · obtain ⟨⟨t1, t2, t3, t4, t5⟩, -, -⟩ := h.2.2 q
    rw [decide_eq_true q, if_pos rfl, t3]
    by_cases q7 : A.1 7 = 1
    · rw [if_neg (by rw [q7]; exact fun e => e rfl), t4 (by rw [q7]; rfl)]
      have r := wdx_r (B := B) (s := (A.1 8).toNat) (e := (A.1 6).toNat)
      by_cases qw : wm B (A.1 8).toNat (A.1 6).toNat (kk w) = true
      · rw [(wdx_w hw).mpr qw, if_neg (fun e => e rfl), qw, decide_eq_true (show A.1 7 = 1 ∧ true = true from ⟨q7, rfl⟩), decide_eq_true ⟨q, rfl⟩]
      · rw [if_pos (by rw [zI_inj (by omega) (by omega) (by omega) (by omega)]; exact fun e => qw ((wdx_w hw).mp e)), decide_eq_false (show ¬ (A.1 7 = 1 ∧ wm B (A.1 8).toNat (A.1 6).toNat (kk w) = true) from fun z => qw z.2), decide_eq_false (fun z => by cases z.2)]
    · rw [if_pos (by rw [zl_1, zI_inj (by omega) (by omega) (by omega) (by omega)]; omega), decide_eq_false (show ¬ (A.1 7 = 1 ∧ wm B (A.1 8).toNat (A.1 6).toNat (kk w) = true) from fun z => q7 z.1), decide_eq_false (fun z => by cases z.2)]
  · rw [decide_eq_false q, if_neg (by decide), decide_eq_false (fun z => q z.1)]
/-- a number -/
theorem m292 (h : ST B M A) (hW : WA B L A) {lo hi : Int} (h0 : 0 ≤ lo) (h1 : lo ≤ hi) (h2 : hi ≤ 9999) : An (d_292 249 (zI lo) (zI hi) M) (fun q => (∃ v, q.1 = zI v ∧ lo ≤ v ∧ v ≤ hi ∧ ((aN2 B lo hi A).1 2 = 0 → v = aN1 B lo hi A)) ∧ ST B q.2 (aN2 B lo hi A) ∧ sf M q.2) := by
  have w7 := hW.2.2.2.2.1
  have w2 := hW.1
  -- the end, once there is an error
  have bad : ∀ (M' : Mm) (A' : (Nat → Int) × (Nat → Int)), ST B M' A' → WA B L A' → A'.1 2 ≠ 0 → sf M M' → aN2 B lo hi A = A' → An (d_292_42 249 (zI lo) M') (fun q => (∃ v, q.1 = zI v ∧ lo ≤ v ∧ v ≤ hi ∧ ((aN2 B lo hi A).1 2 = 0 → v = aN1 B lo hi A)) ∧ ST B q.2 (aN2 B lo hi A) ∧ sf M q.2) := fun M' A' a b c d e => by
    unfold d_292_42
    rw [m288 a b, decide_eq_false c]
    simp only [obs, ifn, Bool.false_eq_true]
    exact An.so ⟨⟨lo, rfl, Int.le_refl _, h1, fun z => absurd (by rw [← e]; exact z) c⟩, by rw [e]; exact a, d⟩
  by_cases q : A.1 2 = 0
  · obtain ⟨⟨t1, t2, t3, t4, t5⟩, -, -⟩ := h.2.2 q
    unfold d_292
    rw [t3]
    by_cases q7 : A.1 7 = 2
    · have nr := nvA_r hW q7
      have ev : M 249 24 = zI (nvA B A) := by
        rw [t5 (by rw [q7]; rfl)]
        unfold nvA
        have w8 := hW.2.2.2.1
        rw [show (A.1 6).toNat - (A.1 8).toNat = (A.1 6 - A.1 8).toNat by omega]
      rw [if_neg (by rw [q7]; exact fun e => e rfl)]
      unfold d_292_14
      rw [m289t]
      simp only [obs]
      rw [m288 h hW, decide_eq_true q, ev, m185 (by omega) (by omega) (by omega) (by omega) (by omega) (by omega)]
      simp only [obs, ift]
      by_cases ql : lo ≤ nvA B A ∧ nvA B A ≤ hi
      · have e1 : aN1 B lo hi A = nvA B A := by unfold aN1; rw [if_pos q7, if_pos ql]
        have e2 : aN2 B lo hi A = A := by unfold aN2; rw [if_pos q7, if_pos ql]
        rw [decide_eq_true ql, m289t]
        simp only [obs]
        unfold d_292_42
        rw [m288 h hW, decide_eq_true q]
        simp only [obs, ift]
        exact An.so ⟨⟨nvA B A, ev, ql.1, ql.2, fun _ => e1.symm⟩, by rw [e2]; exact h, sf.rf M⟩
      · have e2 : aN2 B lo hi A = aF 2 (A.1 8) A := by unfold aN2; rw [if_pos q7, if_neg ql]
        rw [decide_eq_false ql, zl_2]
        refine (m289f h hW (c := 2) (by decide)).bd (fun M' ⟨a, b⟩ => ?_)
        exact bad M' _ a (hW.f (by decide)) (by rw [(aF_v.2.2.1 q).1]; decide) b e2
    · have e2 : aN2 B lo hi A = aF 1 (A.1 8) A := by unfold aN2; rw [if_neg q7]
      rw [if_pos (by rw [zl_2, zI_inj (by omega) (by omega) (by omega) (by omega)]; omega)]
      unfold d_292_14
      rw [zl_1]
      refine (m289f h hW (c := 1) (by decide)).bd (fun M' ⟨a, b⟩ => ?_)
      have z : (aF 1 (A.1 8) A).1 2 ≠ 0 := by rw [(aF_v.2.2.1 q).1]; decide
      rw [m288 a (hW.f (by decide)), decide_eq_false z]
      simp only [obs, ifn, Bool.false_eq_true]
      exact bad M' _ a (hW.f (by decide)) z b e2
  · have e2 : aN2 B lo hi A = A := by
      unfold aN2
      rw [aF_v.2.2.2 q, aF_v.2.2.2 q]
      split
      · split <;> rfl
      · rfl
    have no : ∀ x : Bool, d_289 249 x 1 M = some M := fun x => by
      unfold d_289
      rw [h.1, if_pos (by rw [zl_0, zI_inj (by omega) (by omega) (by omega) (by omega)]; exact q)]
    have all : ∀ x : Bool, An (d_292_14 249 (zI lo) (zI hi) 249 x M) (fun q => (∃ v, q.1 = zI v ∧ lo ≤ v ∧ v ≤ hi ∧ ((aN2 B lo hi A).1 2 = 0 → v = aN1 B lo hi A)) ∧ ST B q.2 (aN2 B lo hi A) ∧ sf M q.2) := fun x => by
      unfold d_292_14
      rw [no]
      simp only [obs]
      rw [m288 h hW, decide_eq_false q]
      simp only [obs, ifn, Bool.false_eq_true]
      exact bad M A h hW q (sf.rf M) e2
    unfold d_292
    split
    · exact all false
    · exact all true
theorem m293 (hB : BM M B L) (hX : TX M) (h : ST B M A) (hW : WA B L A) {lo hi : Int} (h0 : 0 ≤ lo) (h1 : lo ≤ hi) (h2 : hi ≤ 9999) : An (d_293 249 (zI lo) (zI hi) M) (fun q => (∃ v, q.1 = zI v ∧ lo ≤ v ∧ v ≤ hi ∧ ((aT B L (aN2 B lo hi A)).1 2 = 0 → v = aN1 B lo hi A)) ∧ ST B q.2 (aT B L (aN2 B lo hi A)) ∧ sf M q.2) := by
  unfold d_293
  refine (m292 h hW h0 h1 h2).bd (fun q ⟨⟨v, a, b, c, d⟩, e, f⟩ => ?_)
  refine (m290 (f.bm hB) (f.tx hX) e hW.n).bd (fun M' ⟨g, k⟩ => An.so ⟨⟨v, a, b, c, fun z => d ?_⟩, g, f.tr k⟩)
  rw [aT_v.1] at z
  exact z
theorem bit3 : ∀ T, T < 64 → ∀ i, i < 4 → ((zI ((2 * (T % 16) : Nat) : Int) >>> (zI ((i + 1 : Nat) : Int) &&& (31 : Int32))) &&& (1 : Int32) = 0 ↔ T.testBit i = false) ∧ zI ((2 * (T % 16) : Nat) : Int) ||| ((1 : Int32) <<< (zI ((i + 1 : Nat) : Int) &&& (31 : Int32))) = zI ((2 * ((T ||| 2 ^ i) % 16) : Nat) : Int) := by decide +kernel
theorem m294 (hB : BM M B L) (hX : TX M) (h : ST B M A) (hW : WA B L A) {i : Nat} (hi : i < 4) : An (d_294 249 (zI ((i + 1 : Nat) : Int)) M) (fun M' => ST B M' (aO B L i A) ∧ sf M M') := by
  have w5 := hW.2.2.1
  have tail : ∀ (M1 : Mm) (A1 : (Nat → Int) × (Nat → Int)), ST B M1 A1 → WA B L A1 → sf M M1 → A1.1 5 = A.1 5 → (rs A1.1 5 (((A1.1 5).toNat ||| 2 ^ i : Nat) : Int), A1.2) = aO1 i A → An (wb (wr M1 249 27 ((M1 249 27) ||| ((1 : Int32) <<< (zI ((i + 1 : Nat) : Int) &&& (31 : Int32))))) fun m2 => (d_290 249 m2).bind fun m3 => some m3) (fun M' => ST B M' (aO B L i A) ∧ sf M M') := fun M1 A1 a b c e5 e => by
    have b3 := bit3 (A1.1 5).toNat (by omega) i hi
    have w := hW.o1 (i := i) (by omega)
    rw [wbs]
    have s1 : ST B (wr M1 249 27 ((M1 249 27) ||| ((1 : Int32) <<< (zI ((i + 1 : Nat) : Int) &&& (31 : Int32))))) (aO1 i A) := by
      rw [← e]
      obtain ⟨a1, a2, a3⟩ := a
      refine ⟨?_, ?_, fun z => ?_⟩
      · rw [wr_nk (by decide)]; dsimp only; rw [rs_ne (by decide)]; exact a1
      · rw [wr_nk (by decide)]; dsimp only; rw [rs_ne (by decide)]; exact a2
      · dsimp only at z ⊢
        rw [rs_ne (by decide)] at z
        obtain ⟨⟨t1, t2, t3, t4, t5⟩, t6, t7⟩ := a3 z
        rw [rs_ne (by decide), rs_ne (by decide), rs_ne (by decide), rs_eq, rs_ne (by decide)]
        refine ⟨⟨?_, ?_, ?_, ?_, ?_⟩, ?_, ?_⟩
        · rw [wr_nk (by decide)]; exact t1
        · rw [wr_nk (by decide)]; exact t2
        · rw [wr_nk (by decide)]; exact t3
        · rw [wr_nk (by decide)]; exact t4
        · rw [wr_nk (by decide)]; exact t5
        · rw [wr_eq, t6, b3.2, Int.toNat_natCast]
        · rw [wr_nk (by decide)]; exact t7
    have f1 := c.tr (sf.wr (m := M1) (k := 27) (v := ((M1 249 27) ||| ((1 : Int32) <<< (zI ((i + 1 : Nat) : Int) &&& (31 : Int32))))) (by decide))
    exact (m290 (f1.bm hB) (f1.tx hX) s1 w).bd (fun M' ⟨g, k⟩ => An.so ⟨g, f1.tr k⟩)
  have bad : An (d_294_17 249 (zI ((i + 1 : Nat) : Int)) 249 false M) (fun M' => (A.1 2 ≠ 0 ∨ (A.1 5).toNat.testBit i = true) → ST B M' (aO B L i A) ∧ sf M M') := by
    unfold d_294_17
    rw [zl_3]
    refine (m289f h hW (c := 3) (by decide)).bd (fun M1 ⟨a, b⟩ => ?_)
    by_cases q : (A.1 5).toNat.testBit i = true
    · exact (tail M1 _ a (hW.f (by decide)) b (aF_v.1 5 (by decide) (by decide)) (by unfold aO1; rw [if_pos q])).mp (fun _ hv _ => hv)
    · by_cases q2 : A.1 2 = 0
      · rw [wbs]
        have f1 := b.tr (sf.wr (m := M1) (k := 27) (v := ((M1 249 27) ||| ((1 : Int32) <<< (zI ((i + 1 : Nat) : Int) &&& (31 : Int32))))) (by decide))
        have s1 : ST B (wr M1 249 27 ((M1 249 27) ||| ((1 : Int32) <<< (zI ((i + 1 : Nat) : Int) &&& (31 : Int32))))) (aF 3 (A.1 8) A) := by
          obtain ⟨a1, a2, a3⟩ := a
          refine ⟨by rw [wr_nk (by decide)]; exact a1, by rw [wr_nk (by decide)]; exact a2, fun z => ?_⟩
          rw [(aF_v.2.2.1 q2).1] at z
          cases z
        exact (m290 (f1.bm hB) (f1.tx hX) s1 (hW.f (by decide))).bd (fun M' _ => An.so (fun z => absurd z (fun z => z.elim (fun y => y q2) q)))
      · rw [aF_v.2.2.2 q2] at a
        exact (tail M1 A a hW b rfl (by unfold aO1; rw [if_neg q])).mp (fun _ hv _ => hv)
  have good : (A.1 2 ≠ 0 ∨ (A.1 5).toNat.testBit i = false) → An (d_294_17 249 (zI ((i + 1 : Nat) : Int)) 249 true M) (fun M' => ST B M' (aO B L i A) ∧ sf M M') := fun hq => by
    unfold d_294_17
    rw [m289t]
    simp only [obs]
    by_cases q : (A.1 5).toNat.testBit i = true
    · have q2 : A.1 2 ≠ 0 := hq.elim id (fun z => by rw [q] at z; cases z)
      exact tail M A h hW (sf.rf M) rfl (by unfold aO1; rw [if_pos q, aF_v.2.2.2 q2])
    · exact tail M A h hW (sf.rf M) rfl (by unfold aO1; rw [if_neg q])
  unfold d_294
  by_cases q2 : A.1 2 = 0
  · have b3 := bit3 (A.1 5).toNat (by omega) i hi
    rw [(h.2.2 q2).2.1]
    by_cases q : (A.1 5).toNat.testBit i = true
    · rw [if_pos (fun z => by rw [b3.1.mp z] at q; cases q)]
      exact bad.mp (fun _ hv => hv (Or.inr q))
    · rw [if_neg (fun z => z (b3.1.mpr (Bool.eq_false_iff.mpr q)))]
      exact good (Or.inr (Bool.eq_false_iff.mpr q))
  · split
    · exact bad.mp (fun _ hv => hv (Or.inl q2))
    · exact good (Or.inl q2)
end TI
