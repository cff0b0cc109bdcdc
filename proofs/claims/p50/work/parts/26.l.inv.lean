/-! What is so of the row while a text is read. -/
section TL
variable {m M : Mm} {L : Nat} {B : Nat → Int} {A A' : (Nat → Int) × (Nat → Int)} {W H : Nat}
def bo (A : (Nat → Int) × (Nat → Int)) : Nat → Int := fun c => A.2 (24 + c)
def LJ (A : (Nat → Int) × (Nat → Int)) (W H : Nat) : Prop := (∀ k, k < 584 → ¬ (k = 5 ∨ k = 6 ∨ k = 7 ∨ k = 15 ∨ k = 16) → ¬ pF k → ¬ (24 ≤ k ∧ k < 152) → A.2 k = rbg W H k) ∧ rS 1 A.2 ∧ (∀ c, c < W * H → A.2 (88 + c) = A.2 (24 + c)) ∧ KU W H (bo A) ∧ ((cnt W H (bo A) 0 + cnt W H (bo A) 1 : Nat) : Int) = A.1 4 ∧ ∀ s, s ≤ 1 → (A.1 5).toNat.testBit (4 + s) = kg W H A.2 s
def LI (A : (Nat → Int) × (Nat → Int)) (W H : Nat) : Prop := A.1 2 = 0 → LJ A W H
theorem LI.kb (h : LI A W H) : KB A W H := fun z => (h z).2.2.2.2.2
theorem kg_cg {r r' : Nat → Int} {s : Nat} (e : ∀ c, c < W * H → r' (24 + c) = r (24 + c)) : kg W H r' s = kg W H r s := by
  unfold kg
  rw [ff_congr (p' := fun c => decide (r (24 + c) = 1 + 6 * (s : Nat))) (fun c hc => by rw [e c hc])]
theorem cnt_cg {b b' : Nat → Int} {s : Int} (e : ∀ c, c < W * H → b' c = b c) : cnt W H b' s = cnt W H b s := by
  unfold cnt
  exact fo_congr (fun k hk v => by rw [e k hk])
theorem LI.cg (hw : WH W H) (h : LI A W H) (k : sk A A') (e4 : A'.1 2 = 0 → A'.1 4 = A.1 4) (e5 : A'.1 2 = 0 → ∀ s, s ≤ 1 → (A'.1 5).toNat.testBit (4 + s) = (A.1 5).toNat.testBit (4 + s)) (e : A'.1 2 = 0 → ∀ j, ¬ (j = 5 ∨ j = 6 ∨ j = 7 ∨ j = 15 ∨ j = 16) → ¬ pF j → A'.2 j = A.2 j) (hs : A'.1 2 = 0 → rS 1 A.2 → rS 1 A'.2) : LI A' W H := fun z => by
  obtain ⟨a, b, c, d, f, g⟩ := h (lv k z)
  have hN := WH_n hw
  have eb : ∀ c, c < W * H → A'.2 (24 + c) = A.2 (24 + c) := fun c hc => e z _ (by omega) (by unfold pF; omega)
  refine ⟨fun j j0 j1 j2 j3 => by rw [e z j j1 j2]; exact a j j0 j1 j2 j3, hs z b, fun c' hc => ?_, fun s s1 s2 c c' hc hc' h1 h2 => ?_, ?_, fun s hs => ?_⟩
  · rw [eb c' hc, e z (88 + c') (by omega) (by unfold pF; omega)]
    exact c c' hc
  · unfold bo at h1 h2
    rw [eb c hc] at h1
    rw [eb c' hc'] at h2
    exact d s s1 s2 c c' hc hc' h1 h2
  · rw [e4 z, cnt_cg (b := bo A) (b' := bo A') (fun c hc => eb c hc), cnt_cg (b := bo A) (b' := bo A') (fun c hc => eb c hc)]
    exact f
  · rw [e5 z s hs, kg_cg (r := A.2) eb]
    exact g s hs
theorem LI.m_ (hw : WH W H) (h : LI A W H) : LI (aM B L A) W H := by
  refine h.cg hw sk.mm (fun _ => ?_) (fun _ s hs => ?_) (fun _ j _ _ => by rw [aM_2]) (fun _ x => by rw [aM_2]; exact x)
  · unfold aM
    rw [aT_v.2.2.1]
    split
    · rfl
    · exact aF_v.1 4 (by decide) (by decide)
  · have : (aM B L A).1 5 = A.1 5 := by
      unfold aM
      rw [aT_v.2.2.2.1]
      split
      · rfl
      · exact aF_v.1 5 (by decide) (by decide)
    rw [this]
theorem bit5 : ∀ T, T < 64 → ∀ i, i < 4 → ∀ s, s < 2 → (T ||| 2 ^ i).testBit (4 + s) = T.testBit (4 + s) := by decide +kernel
theorem bit6 : ∀ T, T < 64 → ∀ t, t < 2 → ∀ s, s < 2 → (T ||| 2 ^ (4 + t)).testBit (4 + s) = (decide (s = t) || T.testBit (4 + s)) := by decide +kernel
theorem aO_5 {i : Nat} : (aO B L i A).1 5 = (((A.1 5).toNat ||| 2 ^ i : Nat) : Int) := by
  unfold aO
  rw [aT_v.2.2.2.1, aO1_v.2.2]
theorem aN_5 {lo hi : Int} : (aT B L (aN2 B lo hi A)).1 5 = A.1 5 := by rw [aT_v.2.2.2.1, aN2_v.1 5 (by decide) (by decide)]
theorem rS_s {r : Nat → Int} (h : rS 1 r) {k : Nat} {v : Int} (hk : (k = 5 ∧ 1 ≤ v ∧ v ≤ 5) ∨ (k = 6 ∧ 0 ≤ v ∧ v ≤ 9) ∨ (k = 7 ∧ 1 ≤ v ∧ v ≤ 9) ∨ (k = 15 ∧ 0 ≤ v ∧ v ≤ 9999) ∨ (k = 16 ∧ 0 ≤ v ∧ v ≤ 9999)) : rS 1 (rs r k v) := by
  obtain ⟨a, b, c, d, e, f, g⟩ := h
  have n : ∀ j, j ≠ k → rs r k v j = r j := fun j hj => rs_ne hj
  have y : rs r k v k = v := rs_eq
  refine ⟨by rw [n 2 (by omega)]; exact a, by rw [n 3 (by omega)]; exact b, by rw [n 4 (by omega)]; exact c, ?_, ?_, ?_, fun s hs => ?_⟩
  · by_cases q : 5 = k
    · subst q; rw [y]; omega
    · rw [n 5 q]; exact d
  · by_cases q : 6 = k
    · subst q; rw [y]; omega
    · rw [n 6 q]; exact e
  · by_cases q : 7 = k
    · subst q; rw [y]; omega
    · rw [n 7 q]; exact f
  · by_cases q : 15 + s = k
    · rw [q, y]; omega
    · rw [n _ q]; exact g s hs
theorem LI.s_ (hw : WH W H) (hW : WA B L A) (h : LI A W H) {i k : Nat} {lo hi : Int} (hi4 : i < 4) (h1 : lo ≤ hi) (hk : (k = 5 ∧ 1 ≤ lo ∧ hi ≤ 5) ∨ (k = 6 ∧ 0 ≤ lo ∧ hi ≤ 9) ∨ (k = 7 ∧ 1 ≤ lo ∧ hi ≤ 9) ∨ (k = 15 ∧ 0 ≤ lo ∧ hi ≤ 9999) ∨ (k = 16 ∧ 0 ≤ lo ∧ hi ≤ 9999)) : LI (aS B L i k lo hi A) W H := by
  have w5 := hW.2.2.1
  have r := aN1_r (B := B) (A := aO B L i A) h1
  refine h.cg hw sk.s (fun _ => aS_4) (fun _ s hs => ?_) (fun _ j j1 _ => ?_) (fun _ x => ?_)
  · have : (aS B L i k lo hi A).1 5 = (((A.1 5).toNat ||| 2 ^ i : Nat) : Int) := by
      unfold aS
      dsimp only
      rw [aN_5, aO_5]
    rw [this, Int.toNat_natCast]
    exact bit5 _ (by omega) i hi4 s (by omega)
  · unfold aS
    dsimp only
    rw [rs_ne (by omega), aN_2, aO_2]
  · unfold aS
    dsimp only
    rw [aN_2, aO_2]
    exact rS_s x (by omega)
theorem LI.c_ (hw : WH W H) (hW : WA B L A) (h : LI A W H) : LI (aC B L A) W H := by
  have h1 := h.s_ (B := B) (L := L) hw hW (i := 0) (k := 15) (lo := 1) (hi := 9999) (by decide) (by decide) (by omega)
  have r := aN1_r (B := B) (A := aS B L 0 15 1 9999 A) (lo := 1) (hi := 9999) (by decide)
  have e : aC B L A = ((aT B L (aN2 B 1 9999 (aS B L 0 15 1 9999 A))).1, rs (aT B L (aN2 B 1 9999 (aS B L 0 15 1 9999 A))).2 16 (aN1 B 1 9999 (aS B L 0 15 1 9999 A))) := rfl
  rw [e]
  refine h1.cg hw (sk.n.tr sk.r) (fun _ => aN_4 (L := L)) (fun _ s hs => ?_) (fun _ j j1 _ => ?_) (fun _ x => ?_)
  · dsimp only
    rw [aN_5]
  · dsimp only
    rw [rs_ne (by omega), aN_2]
  · dsimp only
    rw [aN_2]
    exact rS_s x (by omega)
theorem LI.g_ (hw : WH W H) (hR : WR A.2 W H) (h : LI A W H) : LI (aG B L A) W H := by
  have h0 := hR.2.2.1.1
  have n : ∀ j, ¬ pF j → (aG B L A).2 j = A.2 j := fun j hj => by
    unfold aG
    dsimp only
    split
    · exact raf_n hj (by omega)
    · rfl
  refine h.cg hw sk.g (fun _ => aG_4) (fun _ s hs => ?_) (fun _ j _ j2 => n j j2) (fun _ x => x.cg (fun j hj => n j (by unfold pS at hj; unfold pF; omega)))
  have e1 : (aG1 B L A).1 5 = A.1 5 := by
    unfold aG1
    rw [aT_v.2.2.2.1]
    split
    · rfl
    · exact aF_v.1 5 (by decide) (by decide)
  have e2 : (aG2 B L A).1 5 = A.1 5 := (aN_5 (L := L) (lo := 0) (hi := 9999)).trans e1
  have e3 : (aG3 B L A).1 5 = A.1 5 := by
    unfold aG3
    split
    · rw [aF_v.1 5 (by decide) (by decide)]; exact e2
    · exact e2
  have e4 : (aG4 B L A).1 5 = A.1 5 := (aN_5 (L := L) (lo := 1) (hi := 999)).trans e3
  have e5 : (aG B L A).1 5 = A.1 5 := (aN_5 (L := L) (lo := 1) (hi := 9)).trans e4
  rw [e5]
theorem LI.p_ (hW : WA B L A) (hR : WR A.2 W H) (h : LI A W H) {s : Nat} (hs : s ≤ 1) : LI (aP B L s W H A) W H := fun z => by
  have hw := hR.1.2.2
  have hw' := hw
  obtain ⟨w1, w2, w3, w4⟩ := hw'
  obtain ⟨W4, WK, W5, W6, W7⟩ := hW.p7 (W := W) (H := H) hs
  have kr := kow_r (B := B) (A := aP4 B L s A)
  have k04 : sk A (aP4 B L s A) := (sk.p7 (W := W) (H := H)).1
  have k4K : sk (aP4 B L s A) (aK B L s (aP4 B L s A)) := sk.k
  have kK5 : sk (aK B L s (aP4 B L s A)) (aP5 B L s W A) := sk.n
  have k56 : sk (aP5 B L s W A) (aP6 B L s W H A) := sk.n
  have k67 : sk (aP6 B L s W H A) (aP7 B L s W H A) := by unfold aP7; exact sk.i sk.rf sk.f
  have z7 : (aP7 B L s W H A).1 2 = 0 := by
    unfold aP at z
    dsimp only at z
    rw [rs_ne (by decide)] at z
    exact z
  have z6 := lv k67 z7
  have z5 := lv k56 z6
  have zK := lv kK5 z5
  have z4 := lv k4K zK
  have z0 := lv k04 z4
  obtain ⟨a, b, c, d, f, g⟩ := h z0
  have e42 : (aP7 B L s W H A).2 = A.2 := aP_4.2
  have e62 : (aP6 B L s W H A).2 = A.2 := by
    have : (aP7 B L s W H A).2 = (aP6 B L s W H A).2 := by
      unfold aP7
      split
      · rfl
      · exact aF_v.2.1
    rw [← this]; exact e42
  have e0 : A.2 (24 + aPc B L s W H A) = 0 := by
    by_cases q : (aP6 B L s W H A).2 (24 + aPc B L s W H A) = 0
    · rw [e62] at q; exact q
    · exfalso
      unfold aP7 at z7
      rw [if_neg q] at z7
      exact aF_z (by decide) z7
  have kn : ¬ kow B (aP4 B L s A) = -1 := fun q => by
    have : sk (aF 1 ((aP4 B L s A).1 8) (aP4 B L s A)) (aK B L s (aP4 B L s A)) := by
      unfold aK
      rw [if_pos q]
      exact sk.i sk.o sk.t
    exact aF_z (by decide) (lv this zK)
  have e45 : (aP4 B L s A).1 5 = A.1 5 := by
    unfold aP4
    rw [aT_v.2.2.2.1]
    split
    · rfl
    · exact aF_v.1 5 (by decide) (by decide)
  have eK5 : (aK B L s (aP4 B L s A)).1 5 = if kow B (aP4 B L s A) = 0 then (((A.1 5).toNat ||| 2 ^ (4 + s) : Nat) : Int) else A.1 5 := by
    unfold aK
    rw [if_neg kn]
    by_cases q : kow B (aP4 B L s A) = 0
    · rw [if_pos q, if_pos q, aO_5, e45]
    · rw [if_neg q, if_neg q, aT_v.2.2.2.1, e45]
  have eP5 : (aP B L s W H A).1 5 = if kow B (aP4 B L s A) = 0 then (((A.1 5).toNat ||| 2 ^ (4 + s) : Nat) : Int) else A.1 5 := by
    have e5 : (aP5 B L s W A).1 5 = (aK B L s (aP4 B L s A)).1 5 := aN_5 (L := L) (lo := 0) (hi := (W : Int) - 1)
    have e6 : (aP6 B L s W H A).1 5 = (aP5 B L s W A).1 5 := aN_5 (L := L) (lo := 0) (hi := (H : Int) - 1)
    have e7 : (aP7 B L s W H A).1 5 = (aP6 B L s W H A).1 5 := by
      unfold aP7
      split
      · rfl
      · exact aF_v.1 5 (by decide) (by decide)
    unfold aP
    dsimp only
    rw [rs_ne (by decide), e7, e6, e5, eK5]
  have nt : kow B (aP4 B L s A) = 0 → (A.1 5).toNat.testBit (4 + s) = false := fun q => by
    cases hb : (A.1 5).toNat.testBit (4 + s) with
    | false => rfl
    | true =>
      exfalso
      unfold aK at zK
      rw [if_neg kn, if_pos q] at zK
      have : sk (aF 3 ((aP4 B L s A).1 8) (aP4 B L s A)) (aO B L (4 + s) (aP4 B L s A)) := by
        refine sk.tr ?_ sk.t
        unfold aO1
        rw [e45, if_pos hb]
        exact fun _ => ⟨by dsimp only; rw [rs_ne (by decide)], by dsimp only; rw [rs_ne (by decide)]⟩
      exact aF_z (by decide) (lv this zK)
  have rx := aN1_r (B := B) (A := aK B L s (aP4 B L s A)) (lo := 0) (hi := (W : Int) - 1) (by omega)
  have ry := aN1_r (B := B) (A := aP5 B L s W A) (lo := 0) (hi := (H : Int) - 1) (by omega)
  change 0 ≤ aPx B L s W A ∧ aPx B L s W A ≤ (W : Int) - 1 at rx
  change 0 ≤ aPy B L s W H A ∧ aPy B L s W H A ≤ (H : Int) - 1 at ry
  have hx : (aPx B L s W A).toNat < W := by omega
  have hy : (aPy B L s W H A).toNat < H := by omega
  have cN : aPc B L s W H A < W * H := cell_lt hx hy
  have hN := WH_n hw
  have e2 : (aP B L s W H A).2 = rpl A.2 (aPc B L s W H A) (kow B (aP4 B L s A) + 6 * (s : Nat) + 1) := by
    unfold aP
    dsimp only
    rw [e42]
  have e4 : (aP B L s W H A).1 4 = A.1 4 + 1 := by
    unfold aP
    dsimp only
    rw [rs_eq, aP_4.1]
  generalize hv : kow B (aP4 B L s A) + 6 * (s : Nat) + 1 = v at *
  generalize aPc B L s W H A = pc at *
  have eb : ∀ j, j < W * H → rpl A.2 pc v (24 + j) = if j = pc then v else A.2 (24 + j) := fun j hj => by
    unfold rpl
    by_cases q : j = pc
    · rw [if_pos q, if_pos (Or.inl (by omega))]
    · rw [if_neg q, if_neg (by omega)]
  have ebo : ∀ j, j < W * H → bo (aP B L s W H A) j = (fun j => if j = pc then v else bo A j) j := fun j hj => by
    unfold bo
    rw [e2]
    exact eb j hj
  refine ⟨fun j j0 j1 j2 j3 => ?_, ?_, fun j hj => ?_, fun t t1 t2 u u' hu hu' h1 h2 => ?_, ?_, fun t ht => ?_⟩
  · rw [e2]
    unfold rpl
    rw [if_neg (by omega)]
    exact a j j0 j1 j2 j3
  · rw [e2]
    exact b.cg (fun j hj => by unfold rpl; unfold pS at hj; rw [if_neg (by omega)])
  · rw [e2, eb j hj]
    unfold rpl
    by_cases q : j = pc
    · rw [if_pos q, if_pos (Or.inr (by omega))]
    · rw [if_neg q, if_neg (by omega)]
      exact c j hj
  · rw [ebo u hu] at h1
    rw [ebo u' hu'] at h2
    dsimp only at h1 h2
    have nk : v = 1 + 6 * t → ∀ j, j < W * H → ¬ bo A j = 1 + 6 * t := fun e j hj hb => by
      have k0 : kow B (aP4 B L s A) = 0 := by omega
      have ts : t = (s : Nat) := by omega
      have := g s hs
      rw [nt k0] at this
      unfold kg at this
      have := of_decide_eq_false this.symm
      have le := ff_le (fun c => decide (A.2 (24 + c) = 1 + 6 * (s : Nat))) (W * H)
      have := ff_lt (p := fun c => decide (A.2 (24 + c) = 1 + 6 * (s : Nat))) (n := W * H) (k := j) (by omega)
      have := of_decide_eq_false this
      unfold bo at hb
      exact this (by rw [hb, ts])
    by_cases q : u = pc
    · rw [if_pos q] at h1
      by_cases q' : u' = pc
      · rw [q, q']
      · rw [if_neg q'] at h2
        exact absurd h2 (nk h1 u' hu')
    · rw [if_neg q] at h1
      by_cases q' : u' = pc
      · rw [if_pos q'] at h2
        exact absurd h1 (nk h2 u hu)
      · rw [if_neg q'] at h2
        exact d t t1 t2 u u' hu hu' h1 h2
  · rw [e4, cnt_cg ebo, cnt_cg ebo]
    have p0 := ct_put (b := bo A) (d := pc) (v := v) (s := 0) (W * H)
    have p1 := ct_put (b := bo A) (d := pc) (v := v) (s := 1) (W * H)
    have b0 : bo A pc = 0 := e0
    have s0 : sd (bo A pc) = -1 := by rw [b0]; rfl
    rw [s0, if_neg (fun x => by cases x.2)] at p0 p1
    unfold cnt at f ⊢
    have sv : sd v = (s : Nat) := by
      unfold sd
      rw [if_neg (by omega)]
      by_cases q : v ≤ 6
      · rw [if_pos q]; omega
      · rw [if_neg q]; omega
    rw [sv] at p0 p1
    have : s = 0 ∨ s = 1 := by omega
    rcases this with rfl | rfl
    · rw [if_pos ⟨cN, rfl⟩] at p0
      rw [if_neg (fun x => by cases x.2)] at p1
      omega
    · rw [if_neg (fun x => by cases x.2)] at p0
      rw [if_pos ⟨cN, rfl⟩] at p1
      omega
  · rw [eP5, e2]
    have w5 := hW.2.2.1
    have kk_ : kg W H (rpl A.2 pc v) t = (decide (v = 1 + 6 * (t : Nat)) || kg W H A.2 t) := by
      unfold kg
      have l1 := ff_le (fun c => decide (A.2 (24 + c) = 1 + 6 * (t : Nat))) (W * H)
      have l2 := ff_le (fun c => decide (rpl A.2 pc v (24 + c) = 1 + 6 * (t : Nat))) (W * H)
      by_cases q : v = 1 + 6 * (t : Nat)
      · rw [decide_eq_true q, Bool.true_or]
        refine decide_eq_true ?_
        by_cases x : ff (fun c => decide (rpl A.2 pc v (24 + c) = 1 + 6 * (t : Nat))) (W * H) < W * H
        · exact x
        · have := ff_lt (p := fun c => decide (rpl A.2 pc v (24 + c) = 1 + 6 * (t : Nat))) (n := W * H) (k := pc) (by omega)
          have := of_decide_eq_false this
          rw [eb pc cN, if_pos rfl] at this
          exact absurd q this
      · rw [decide_eq_false q, Bool.false_or]
        rw [ff_congr (p' := fun c => decide (A.2 (24 + c) = 1 + 6 * (t : Nat))) (fun j hj => ?_)]
        rw [eb j hj]
        by_cases x : j = pc
        · rw [if_pos x, x, e0, decide_eq_false q, decide_eq_false (by omega)]
        · rw [if_neg x]
    rw [kk_, ← g t ht]
    by_cases q : kow B (aP4 B L s A) = 0
    · rw [if_pos q, Int.toNat_natCast, bit6 _ (by omega) s (by omega) t (by omega)]
      by_cases x : t = s
      · rw [decide_eq_true x, decide_eq_true (show v = 1 + 6 * (t : Nat) by omega)]
      · rw [decide_eq_false x, decide_eq_false (show ¬ v = 1 + 6 * (t : Nat) by omega)]
    · rw [if_neg q, decide_eq_false (show ¬ v = 1 + 6 * (t : Nat) by omega), Bool.false_or]
theorem LI.st_ (hW : WA B L A) (hR : WR A.2 W H) (h : LI A W H) : LI (aSt B L W H A) W H := by
  have hw := hR.1.2.2
  unfold aSt
  split; exact h.c_ hw hW
  split; exact h.s_ hw hW (by decide) (by decide) (by omega)
  split; exact h.s_ hw hW (by decide) (by decide) (by omega)
  split; exact h.s_ hw hW (by decide) (by decide) (by omega)
  split; exact h.p_ hW hR (by decide)
  split; exact h.p_ hW hR (by decide)
  split; exact h.g_ hw hR
  exact fun z => absurd z (aF_z (by decide))
end TL
