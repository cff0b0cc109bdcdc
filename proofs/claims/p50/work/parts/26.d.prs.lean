/-! A setup text read: the fogs, a statement; the class. -/
section TD
variable {m M : Mm} {L : Nat} {B : Nat → Int} {A A' A'' : (Nat → Int) × (Nat → Int)} {W H : Nat}
/-- an error stays -/
def sk (A A' : (Nat → Int) × (Nat → Int)) : Prop := A.1 2 ≠ 0 → A'.1 2 = A.1 2 ∧ A'.1 3 = A.1 3
theorem sk.rf : sk A A := fun _ => ⟨rfl, rfl⟩
theorem sk.tr (h : sk A A') (k : sk A' A'') : sk A A'' := fun z => by
  obtain ⟨h1, h2⟩ := h z
  obtain ⟨k1, k2⟩ := k (by rw [h1]; exact z)
  exact ⟨k1.trans h1, k2.trans h2⟩
theorem sk.f {c o : Int} : sk A (aF c o A) := fun z => by rw [aF_v.2.2.2 z]; exact ⟨rfl, rfl⟩
theorem sk.t : sk A (aT B L A) := fun _ => ⟨aT_v.1, aT_v.2.1⟩
theorem sk.i {p : Prop} [Decidable p] {X Y : (Nat → Int) × (Nat → Int)} (h : sk A X) (k : sk A Y) : sk A (if p then X else Y) := by split; exact h; exact k
theorem sk.n {lo hi : Int} : sk A (aT B L (aN2 B lo hi A)) := by
  refine sk.tr ?_ sk.t
  unfold aN2
  exact sk.i (sk.i sk.rf sk.f) sk.f
theorem sk.o {i : Nat} : sk A (aO B L i A) := by
  refine sk.tr ?_ sk.t
  unfold aO1
  refine sk.tr (A' := if (A.1 5).toNat.testBit i = true then aF 3 (A.1 8) A else A) (sk.i sk.f sk.rf) (fun _ => ⟨?_, ?_⟩)
  · dsimp only
    rw [rs_ne (by decide)]
  · dsimp only
    rw [rs_ne (by decide)]
theorem sk.mm : sk A (aM B L A) := sk.tr (sk.i sk.rf sk.f) sk.t
theorem sk.w {k : Nat} : sk A (aW B L k A) := sk.tr (sk.i sk.rf sk.f) sk.t
theorem sk.r {r : Nat → Int} : sk A (A.1, r) := fun _ => ⟨rfl, rfl⟩
theorem sk.s {i k : Nat} {lo hi : Int} : sk A (aS B L i k lo hi A) := (sk.o.tr sk.n).tr sk.r
theorem sk.c : sk A (aC B L A) := sk.s.tr (sk.n.tr sk.r)
theorem sk.k {s : Nat} : sk A (aK B L s A) := by
  unfold aK
  have e : sk A (if kow B A = -1 then aF 1 (A.1 8) A else A) := sk.i sk.f sk.rf
  exact sk.i (e.tr sk.o) (e.tr sk.t)
theorem sk.p7 {s : Nat} : sk A (aP4 B L s A) ∧ sk A (aK B L s (aP4 B L s A)) ∧ sk A (aP5 B L s W A) ∧ sk A (aP6 B L s W H A) ∧ sk A (aP7 B L s W H A) := by
  have h4 : sk A (aP4 B L s A) := (sk.i sk.rf sk.f).tr sk.t
  have hk := h4.tr (sk.k (B := B) (L := L) (s := s))
  have h5 : sk A (aP5 B L s W A) := hk.tr sk.n
  have h6 : sk A (aP6 B L s W H A) := h5.tr sk.n
  exact ⟨h4, hk, h5, h6, h6.tr (sk.i sk.rf sk.f)⟩
theorem sk.p {s : Nat} : sk A (aP B L s W H A) := (sk.p7 (s := s) (W := W) (H := H)).2.2.2.2.tr (fun _ => ⟨by unfold aP; dsimp only; rw [rs_ne (by decide)], by unfold aP; dsimp only; rw [rs_ne (by decide)]⟩)
/-- a fog -/
def aG1 (B : Nat → Int) (L : Nat) (A : (Nat → Int) × (Nat → Int)) : (Nat → Int) × (Nat → Int) := aT B L (if A.2 8 < 8 then A else aF 4 (A.1 8) A)
def aGf (B : Nat → Int) (L : Nat) (A : (Nat → Int) × (Nat → Int)) : Int := aN1 B 0 9999 (aG1 B L A)
def aG2 (B : Nat → Int) (L : Nat) (A : (Nat → Int) × (Nat → Int)) : (Nat → Int) × (Nat → Int) := aT B L (aN2 B 0 9999 (aG1 B L A))
def aG3 (B : Nat → Int) (L : Nat) (A : (Nat → Int) × (Nat → Int)) : (Nat → Int) × (Nat → Int) := if ff (fun k => decide (A.2 (280 + 3 * k) = aGf B L A)) (A.2 8).toNat < (A.2 8).toNat then aF 3 ((aG2 B L A).1 9) (aG2 B L A) else aG2 B L A
def aGl (B : Nat → Int) (L : Nat) (A : (Nat → Int) × (Nat → Int)) : Int := aN1 B 1 999 (aG3 B L A)
def aG4 (B : Nat → Int) (L : Nat) (A : (Nat → Int) × (Nat → Int)) : (Nat → Int) × (Nat → Int) := aT B L (aN2 B 1 999 (aG3 B L A))
def aGe (B : Nat → Int) (L : Nat) (A : (Nat → Int) × (Nat → Int)) : Int := aN1 B 1 9 (aG4 B L A)
def aG5 (B : Nat → Int) (L : Nat) (A : (Nat → Int) × (Nat → Int)) : (Nat → Int) × (Nat → Int) := aT B L (aN2 B 1 9 (aG4 B L A))
def aG (B : Nat → Int) (L : Nat) (A : (Nat → Int) × (Nat → Int)) : (Nat → Int) × (Nat → Int) := ((aG5 B L A).1, if A.2 8 < 8 then raf A.2 (ip (fun k => A.2 (280 + 3 * k)) (aGf B L A) (A.2 8).toNat) (aGf B L A) (aGl B L A) (aGe B L A) else A.2)
theorem aG_2 : (aG1 B L A).2 = A.2 ∧ (aG2 B L A).2 = A.2 ∧ (aG3 B L A).2 = A.2 ∧ (aG4 B L A).2 = A.2 ∧ (aG5 B L A).2 = A.2 := by
  have h1 : (aG1 B L A).2 = A.2 := by
    unfold aG1
    rw [aT_v.2.2.2.2.2.2.2.2]
    split
    · rfl
    · exact aF_v.2.1
  have h2 : (aG2 B L A).2 = A.2 := (aN_2 (lo := 0) (hi := 9999)).trans h1
  have h3 : (aG3 B L A).2 = A.2 := by
    unfold aG3
    split
    · rw [aF_v.2.1]; exact h2
    · exact h2
  have h4 : (aG4 B L A).2 = A.2 := (aN_2 (lo := 1) (hi := 999)).trans h3
  exact ⟨h1, h2, h3, h4, (aN_2 (lo := 1) (hi := 9)).trans h4⟩
theorem sk.g7 : sk A (aG1 B L A) ∧ sk A (aG2 B L A) ∧ sk A (aG3 B L A) ∧ sk A (aG4 B L A) ∧ sk A (aG5 B L A) := by
  have h1 : sk A (aG1 B L A) := (sk.i sk.rf sk.f).tr sk.t
  have h2 : sk A (aG2 B L A) := h1.tr sk.n
  have h3 : sk A (aG3 B L A) := h2.tr (sk.i sk.f sk.rf)
  have h4 : sk A (aG4 B L A) := h3.tr sk.n
  exact ⟨h1, h2, h3, h4, h4.tr sk.n⟩
theorem sk.g : sk A (aG B L A) := sk.g7.2.2.2.2.tr sk.r
theorem WA.g7 (h : WA B L A) : WA B L (aG1 B L A) ∧ WA B L (aG2 B L A) ∧ WA B L (aG3 B L A) ∧ WA B L (aG4 B L A) ∧ WA B L (aG5 B L A) := by
  have h1 : WA B L (aG1 B L A) := by
    have e : WA B L (if A.2 8 < 8 then A else aF 4 (A.1 8) A) := by split; exact h; exact h.f (by decide)
    exact e.tt
  have h2 : WA B L (aG2 B L A) := h1.nt
  have h3 : WA B L (aG3 B L A) := by
    unfold aG3
    split
    · exact h2.f (by decide)
    · exact h2
  have h4 : WA B L (aG4 B L A) := h3.nt
  exact ⟨h1, h2, h3, h4, h4.nt⟩
theorem WA.g (h : WA B L A) : WA B L (aG B L A) := h.g7.2.2.2.2.r
theorem raf_F {r : Nat → Int} {p : Nat} {f l e : Int} (h : rF_ r) (h8 : r 8 < 8) (p1 : p ≤ (r 8).toNat) (q1 : 0 ≤ f ∧ f ≤ 9999) (q2 : 1 ≤ l ∧ l ≤ 999) (q3 : 1 ≤ e ∧ e ≤ 9) : rF_ (raf r p f l e) := by
  have h0 := h.1
  have e8 : raf r p f l e 8 = r 8 + 1 := if_pos rfl
  unfold rF_ FB
  rw [e8]
  refine ⟨by omega, by omega, fun k hk2 => ?_⟩
  dsimp only
  obtain ⟨o1, o2, o3⟩ := raf_0 (r := r) (p := p) (k := k) (f := f) (l := l) (e := e) p1 (by omega)
  rw [o1, o2, o3]
  unfold ins
  by_cases qa : k < p
  · simp only [if_pos qa]
    exact h.2.2 k (by omega)
  · simp only [if_neg qa]
    by_cases qb : k = p
    · simp only [if_pos qb]
      exact ⟨q1, q2, q3⟩
    · simp only [if_neg qb]
      exact h.2.2 (k - 1) (by omega)
theorem WR.rg {r : Nat → Int} {p : Nat} {f l e : Int} (h : WR r W H) (h8 : r 8 < 8) (p1 : p ≤ (r 8).toNat) (q1 : 0 ≤ f ∧ f ≤ 9999) (q2 : 1 ≤ l ∧ l ≤ 999) (q3 : 1 ≤ e ∧ e ≤ 9) : WR (raf r p f l e) W H := by
  obtain ⟨⟨a1, a2, a3⟩, b, c, d, e'⟩ := h
  have h0 := c.1
  have n : ∀ j, ¬ pF j → raf r p f l e j = r j := fun j hj => raf_n hj (by omega)
  refine ⟨⟨by rw [n 0 (by unfold pF; omega)]; exact a1, by rw [n 1 (by unfold pF; omega)]; exact a2, a3⟩, fun x y hx hy => ?_, raf_F c h8 p1 q1 q2 q3, by rw [n 13 (by unfold pF; omega)]; exact d, by rw [n 14 (by unfold pF; omega)]; exact e'⟩
  dsimp only
  have := cell_64 a3 hx hy
  rw [n _ (by unfold pF; omega)]
  exact b x y hx hy
theorem g101 (hB : BT m B L) (h : CG m A W H) (hW : WA B L A) : An (d_101 21 42 m) (fun M => CG M (aG B L A) W H ∧ gt m M) := by
  have F := gA_F gA_42
  have ho : oA 53 := F.2.2.2.2.2.2.2.1
  obtain ⟨W1, W2, W3, W4, W5⟩ := hW.g7
  obtain ⟨e1, e2, e3, e4, e5⟩ := aG_2 (A := A) (B := B) (L := L)
  have hR := h.2.2
  have hw := hR.1.2.2
  have hk := hR.k
  have f2 := hR.2.2.1.2
  have h0 := hR.2.2.1.1
  have h8 : 0 ≤ A.2 8 ∧ A.2 8 ≤ 8 := ⟨h0, hk.1⟩
  have fv : ∀ (M : Mm) (A' : (Nat → Int) × (Nat → Int)), CG M A' W H → A'.2 = A.2 → FV M 53 (((A.2 8).toNat : Nat) : Int) (fun k => A.2 (280 + 3 * k)) (fun k => A.2 (281 + 3 * k)) (fun k => A.2 (282 + 3 * k)) := fun M A' hM e => by
    have := hM.2.1.2.2.1
    rw [e] at this
    rw [show (((A.2 8).toNat : Nat) : Int) = A.2 8 by omega]
    exact this
  have rf : 0 ≤ aGf B L A ∧ aGf B L A ≤ 9999 := aN1_r (B := B) (A := aG1 B L A) (lo := 0) (hi := 9999) (by omega)
  have rl := aN1_r (B := B) (A := aG3 B L A) (lo := 1) (hi := 999) (by omega)
  have re := aN1_r (B := B) (A := aG4 B L A) (lo := 1) (hi := 9) (by omega)
  have last : ∀ M, CG M (aG3 B L A) W H → ft m M → An (d_101_52 21 42 (zI (aGf B L A)) M) (fun M => CG M (aG B L A) W H ∧ gt m M) := fun M hM hf => by
    unfold d_101_52
    rw [zl_1, zl_999]
    refine (g107 (hf.bt hB) hM W3 (lo := 1) (hi := 999) (by omega) (by omega) (by omega)).bd (fun q5 ⟨b1, b2, b3⟩ => ?_)
    have f1 := hf.tr b3
    rw [zl_9]
    refine (g107 (f1.bt hB) b2 W4 (lo := 1) (hi := 9) (by omega) (by omega) (by omega)).bd (fun q6 ⟨c1, c2, c3⟩ => ?_)
    have f2' := f1.tr c3
    rw [b1, c1, F.2.2.1]
    have v := fv _ _ c2 e5
    change CG q6.2 (aG5 B L A) W H at c2
    by_cases q : A.2 8 < 8
    · have c := c41 (φ := 53) (m := q6.2) ho v (by omega) (fun k hk2 => (f2.2 k hk2).1) (f := aGf B L A) (l := aGl B L A) (e := aGe B L A) rf
      refine c.bd (fun q7 ⟨t1, t2, t3⟩ => An.so ?_)
      obtain ⟨p1, -, -⟩ := ip_f (F := fun k => A.2 (280 + 3 * k)) (v := aGf B L A) (N := (A.2 8).toNat)
      unfold aG
      rw [if_pos q]
      generalize ip (fun k => A.2 (280 + 3 * k)) (aGf B L A) (A.2 8).toNat = p at *
      refine ⟨⟨fun j a b => by rw [t3 21 (by decide)]; exact c2.1 j a b, ?_, ?_⟩, ?_⟩
      · have g := c2.2.1
        rw [e5] at g
        refine g.cF hw hk.2.1 hk.2.2 (fun a a1 a2 a3 => t3 a (by omega)) (fun j _ hj => raf_n hj (by omega)) ?_
        have ecast : (((A.2 8).toNat + 1 : Nat) : Int) = A.2 8 + 1 := by omega
        rw [ecast] at t2
        dsimp only
        rw [show raf A.2 p (aGf B L A) (aGl B L A) (aGe B L A) 8 = A.2 8 + 1 from if_pos rfl]
        exact FV.cg t2 (fun k hk => (raf_0 (r := A.2) (p := p) (k := k) (f := aGf B L A) (l := aGl B L A) (e := aGe B L A) p1 (by omega)).1) (fun k hk => (raf_0 (r := A.2) (p := p) (k := k) (f := aGf B L A) (l := aGl B L A) (e := aGe B L A) p1 (by omega)).2.1) (fun k hk => (raf_0 (r := A.2) (p := p) (k := k) (f := aGf B L A) (l := aGl B L A) (e := aGe B L A) p1 (by omega)).2.2)
      · exact hR.rg q p1 rf rl re
      · exact f2'.gt.tr ⟨by rw [t3 21 (by decide)], fun a ha hb => t3 a (by omega)⟩
    · unfold d_41
      rw [v.1, if_neg (by rw [zl_0, zI_lt (by omega) (by omega) (by omega) (by omega)]; omega), if_neg (by rw [zl_8, zI_lt (by omega) (by omega) (by omega) (by omega)]; omega)]
      simp only [obs]
      refine An.so ⟨?_, f2'.gt⟩
      unfold aG
      rw [if_neg q]
      have c2' := c2
      unfold CG at c2' ⊢
      rw [e5] at c2'
      exact c2'
  have body : ∀ M A', CG M A' W H → ft m M → WA B L A' → aT B L A' = aG1 B L A → An (d_101_19 21 42 M) (fun M => CG M (aG B L A) W H ∧ gt m M) := fun M A' hM hf hw' e4' => by
    unfold d_101_19
    refine (g111 (hf.bt hB) hM hw').bd (fun m1 ⟨a1, a2⟩ => ?_)
    rw [e4'] at a1
    have f1 := hf.tr a2
    rw [zl_0, zl_9999]
    refine (g107 (f1.bt hB) a1 W1 (lo := 0) (hi := 9999) (by omega) (by omega) (by omega)).bd (fun q3 ⟨b1, b2, b3⟩ => ?_)
    have f2' := f1.tr b3
    change CG q3.2 (aG2 B L A) W H at b2
    change q3.1 = zI (aGf B L A) at b1
    rw [b1, F.2.2.1, c40 ho (fv _ _ b2 e2) f2 rf.1 rf.2]
    simp only [obs]
    by_cases q : ff (fun k => decide (A.2 (280 + 3 * k) = aGf B L A)) (A.2 8).toNat < (A.2 8).toNat
    · rw [decide_eq_true q, if_pos rfl, b2.1 9 (by decide) (by decide), zl_3]
      refine (g110 b2 W2).bd (fun M ⟨a, b⟩ => last M ?_ (f2'.tr b))
      unfold aG3
      rw [if_pos q]
      exact a
    · rw [decide_eq_false q, if_neg (by decide)]
      refine last q3.2 ?_ f2'
      unfold aG3
      rw [if_neg q]
      exact b2
  unfold d_101 d_39
  have v0 := fv m A h rfl
  rw [F.2.2.1, v0.1]
  by_cases q : A.2 8 < 8
  · rw [if_pos (by rw [zl_8, zI_lt (by omega) (by omega) (by omega) (by omega)]; omega)]
    simp only [obs, ifn, Bool.false_eq_true]
    exact body m A h (ft.rf m) hW (by unfold aG1; rw [if_pos q])
  · rw [if_neg (by rw [zl_8, zI_lt (by omega) (by omega) (by omega) (by omega)]; omega)]
    simp only [obs, ift]
    rw [h.1 8 (by decide) (by decide), zl_4]
    refine (g110 h hW).bd (fun M ⟨a, b⟩ => ?_)
    exact body M _ a b (hW.f (by decide)) (by unfold aG1; rw [if_neg q])
/-- a statement -/
def aSt (B : Nat → Int) (L W H : Nat) (A : (Nat → Int) × (Nat → Int)) : (Nat → Int) × (Nat → Int) :=
  if isw B 1 A = true then aC B L A else if isw B 2 A = true then aS B L 1 5 1 5 A else if isw B 3 A = true then aS B L 2 6 0 9 A else if isw B 4 A = true then aS B L 3 7 1 9 A else if isw B 5 A = true then aP B L 0 W H A else if isw B 12 A = true then aP B L 1 W H A else if isw B 13 A = true then aG B L A else aF 1 (A.1 8) A
theorem g99 (hB : BT m B L) (hX : TX m) (h : CG m A W H) (hW : WA B L A) (h4 : A.1 4 ≤ 32) : An (d_99 21 42 m) (fun M => CG M (aSt B L W H A) W H ∧ gt m M) := by
  have e : ∀ k, k < 17 → d_109 21 (3 + k) m = some (isw B k A) := fun k hk => c109 hB hX h.1 hW hk
  unfold d_99 aSt
  rw [e 1 (by decide), e 2 (by decide), e 3 (by decide), e 4 (by decide), e 5 (by decide), e 12 (by decide), e 13 (by decide)]
  simp only [obs]
  by_cases q1 : isw B 1 A = true
  · rw [if_pos q1, if_pos q1]
    refine (g104 hB h hW (i := 0) (by decide)).bd (fun m1 ⟨a1, a2⟩ => ?_)
    rw [zl_1, zl_9999]
    refine (g107 (a2.bt hB) a1 (hW.o (by decide)) (lo := 1) (hi := 9999) (by omega) (by omega) (by omega)).bd (fun q2 ⟨b1, b2, b3⟩ => ?_)
    have p1 := gput b2 (k := 15) (f := 11) (v := aN1 B 1 9999 (aO B L 0 A)) (by decide)
    have f1 := (a2.gt.tr b3.gt).tr p1.2
    have e0 : ∀ v M, d_53 42 (zI 0) v M = some (wr M 42 11 v) := fun v M => c53 (s := 0) (by decide)
    have e1 : ∀ v M, d_53 42 (zI 1) v M = some (wr M 42 12 v) := fun v M => c53 (s := 1) (by decide)
    rw [b1, zl_0, e0]
    simp only [obs]
    have wS : WA B L (aS B L 0 15 1 9999 A) := hW.s (by decide)
    refine (g107 (f1.bt hB) p1.1 wS (lo := 1) (hi := 9999) (by omega) (by omega) (by omega)).bd (fun q3 ⟨c1, c2, c3⟩ => ?_)
    have p2 := gput c2 (k := 16) (f := 12) (v := aN1 B 1 9999 (aS B L 0 15 1 9999 A)) (by decide)
    rw [c1, e1]
    simp only [obs]
    exact An.so ⟨p2.1, (f1.tr c3.gt).tr p2.2⟩
  rw [if_neg q1, if_neg q1]
  by_cases q2 : isw B 2 A = true
  · rw [if_pos q2, if_pos q2]
    exact (g_S hB h hW (i := 1) (k := 5) (f := 8) (lo := 1) (hi' := 5) (by decide) (by decide) (by decide) (by decide) (by decide))
  rw [if_neg q2, if_neg q2]
  by_cases q3 : isw B 3 A = true
  · rw [if_pos q3, if_pos q3]
    exact (g_S hB h hW (i := 2) (k := 6) (f := 9) (lo := 0) (hi' := 9) (by decide) (by decide) (by decide) (by decide) (by decide))
  rw [if_neg q3, if_neg q3]
  by_cases q4 : isw B 4 A = true
  · rw [if_pos q4, if_pos q4]
    exact (g_S hB h hW (i := 3) (k := 7) (f := 10) (lo := 1) (hi' := 9) (by decide) (by decide) (by decide) (by decide) (by decide))
  rw [if_neg q4, if_neg q4]
  by_cases q5 : isw B 5 A = true
  · rw [if_pos q5, if_pos q5]
    exact (g100 hB hX h hW h4 (s := 0) (by decide)).bd (fun M hM => An.so hM)
  rw [if_neg q5, if_neg q5]
  by_cases q12 : isw B 12 A = true
  · rw [if_pos q12, if_pos q12]
    exact (g100 hB hX h hW h4 (s := 1) (by decide)).bd (fun M hM => An.so hM)
  rw [if_neg q12, if_neg q12]
  by_cases q13 : isw B 13 A = true
  · rw [if_pos q13, if_pos q13]
    exact (g101 hB h hW).bd (fun M hM => An.so hM)
  rw [if_neg q13, if_neg q13, h.1 8 (by decide) (by decide), zl_1]
  exact (g110 h hW).bd (fun M hM => An.so ⟨hM.1, hM.2.gt⟩)
theorem WA.st (h : WA B L A) (h4 : A.1 4 ≤ 32) : WA B L (aSt B L W H A) := by
  unfold aSt
  split; exact h.c
  split; exact h.s (by decide)
  split; exact h.s (by decide)
  split; exact h.s (by decide)
  split; exact h.p (by decide) h4
  split; exact h.p (by decide) h4
  split; exact h.g
  exact h.f (by decide)
theorem sk.st : sk A (aSt B L W H A) := by
  unfold aSt
  exact sk.i sk.c (sk.i sk.s (sk.i sk.s (sk.i sk.s (sk.i sk.p (sk.i sk.p (sk.i sk.g sk.f))))))
end TD
