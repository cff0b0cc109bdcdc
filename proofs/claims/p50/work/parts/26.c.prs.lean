/-! A setup text read: the statements; the class. -/
section TC
variable {m M : Mm} {L : Nat} {B : Nat → Int} {A : (Nat → Int) × (Nat → Int)} {W H : Nat}
/-- a row while a text is read -/
def WR (r : Nat → Int) (W H : Nat) : Prop := (r 0 = W ∧ r 1 = H ∧ WH W H) ∧ BD W H (fun c => r (24 + c)) ∧ rF_ r ∧ r 13 ≤ 20 ∧ r 14 ≤ 20
theorem WR.k {r : Nat → Int} (h : WR r W H) : rok r := ⟨by have := h.2.2.1.1; have := h.2.2.1.2.1; omega, h.2.2.2.1, h.2.2.2.2⟩
def CG (m : Mm) (A : (Nat → Int) × (Nat → Int)) (W H : Nat) : Prop := CT m A ∧ GR m 42 A.2 W H ∧ WR A.2 W H
def gt (m M : Mm) : Prop := M 21 1 = m 21 1 ∧ ∀ a, a ≠ 21 → ¬ (42 ≤ a ∧ a ≤ 60) → M a = m a
theorem gt.rf (m : Mm) : gt m m := ⟨rfl, fun _ _ _ => rfl⟩
theorem gt.tr {m m1 m2 : Mm} (h : gt m m1) (k : gt m1 m2) : gt m m2 := ⟨k.1.trans h.1, fun a ha hb => (k.2 a ha hb).trans (h.2 a ha hb)⟩
theorem ft.gt (h : ft m M) : gt m M := ⟨h.1, fun a ha _ => h.2 a ha⟩
theorem gt.bt (h : gt m M) (hB : BT m B L) : BT M B L := ⟨hB.1, by rw [h.1]; exact hB.2.1, fun i hi => by rw [h.2 22 (by decide) (by decide)]; exact hB.2.2 i hi⟩
theorem gt.tx (h : gt m M) (hX : TX m) : TX M := hX.mm (fun a _ _ => h.2 a (by omega) (by omega))
theorem CG.up (h : CG m A W H) {A' : (Nat → Int) × (Nat → Int)} (hf : ft m M) (hc : CT M A') (e : A'.2 = A.2) : CG M A' W H := ⟨hc, by rw [e]; exact h.2.1.mm (fun a _ _ => hf.2 a (by omega)), by rw [e]; exact h.2.2⟩
/-- one of the other numbers put -/
theorem GR.sv {g : Nat} {r : Nat → Int} (h : GR m g r W H) (hw : WH W H) (hk : rok r) {k f : Nat} {v : Int} (hkf : (k = 5 ∧ f = 8) ∨ (k = 6 ∧ f = 9) ∨ (k = 7 ∧ f = 10) ∨ (k = 15 ∧ f = 11) ∨ (k = 16 ∧ f = 12)) : GR (wr m g f (zI v)) g (rs r k v) W H := by
  refine h.cS hw hk.1 hk.2.1 hk.2.2 (fun a a1 a2 => wr_ne (by omega)) (rs_n (by unfold pS; omega)) ?_
  obtain ⟨u1, u2, u3, u4, u5, u6, u7, u8⟩ := h.2.2.2.2.2
  unfold SV
  rcases hkf with ⟨rfl, rfl⟩ | ⟨rfl, rfl⟩ | ⟨rfl, rfl⟩ | ⟨rfl, rfl⟩ | ⟨rfl, rfl⟩
  · exact ⟨by rw [wr_nk (by decide), rs_ne (by decide)]; exact u1, by rw [wr_nk (by decide), rs_ne (by decide)]; exact u2, by rw [wr_nk (by decide), rs_ne (by decide)]; exact u3, wr_eq.trans (congrArg zI rs_eq.symm), by rw [wr_nk (by decide), rs_ne (by decide)]; exact u5, by rw [wr_nk (by decide), rs_ne (by decide)]; exact u6, by rw [wr_nk (by decide), rs_ne (by decide)]; exact u7, by rw [wr_nk (by decide), rs_ne (by decide)]; exact u8⟩
  · exact ⟨by rw [wr_nk (by decide), rs_ne (by decide)]; exact u1, by rw [wr_nk (by decide), rs_ne (by decide)]; exact u2, by rw [wr_nk (by decide), rs_ne (by decide)]; exact u3, by rw [wr_nk (by decide), rs_ne (by decide)]; exact u4, wr_eq.trans (congrArg zI rs_eq.symm), by rw [wr_nk (by decide), rs_ne (by decide)]; exact u6, by rw [wr_nk (by decide), rs_ne (by decide)]; exact u7, by rw [wr_nk (by decide), rs_ne (by decide)]; exact u8⟩
  · exact ⟨by rw [wr_nk (by decide), rs_ne (by decide)]; exact u1, by rw [wr_nk (by decide), rs_ne (by decide)]; exact u2, by rw [wr_nk (by decide), rs_ne (by decide)]; exact u3, by rw [wr_nk (by decide), rs_ne (by decide)]; exact u4, by rw [wr_nk (by decide), rs_ne (by decide)]; exact u5, wr_eq.trans (congrArg zI rs_eq.symm), by rw [wr_nk (by decide), rs_ne (by decide)]; exact u7, by rw [wr_nk (by decide), rs_ne (by decide)]; exact u8⟩
  · exact ⟨by rw [wr_nk (by decide), rs_ne (by decide)]; exact u1, by rw [wr_nk (by decide), rs_ne (by decide)]; exact u2, by rw [wr_nk (by decide), rs_ne (by decide)]; exact u3, by rw [wr_nk (by decide), rs_ne (by decide)]; exact u4, by rw [wr_nk (by decide), rs_ne (by decide)]; exact u5, by rw [wr_nk (by decide), rs_ne (by decide)]; exact u6, wr_eq.trans (congrArg zI rs_eq.symm), by rw [wr_nk (by decide), rs_ne (by decide)]; exact u8⟩
  · exact ⟨by rw [wr_nk (by decide), rs_ne (by decide)]; exact u1, by rw [wr_nk (by decide), rs_ne (by decide)]; exact u2, by rw [wr_nk (by decide), rs_ne (by decide)]; exact u3, by rw [wr_nk (by decide), rs_ne (by decide)]; exact u4, by rw [wr_nk (by decide), rs_ne (by decide)]; exact u5, by rw [wr_nk (by decide), rs_ne (by decide)]; exact u6, by rw [wr_nk (by decide), rs_ne (by decide)]; exact u7, wr_eq.trans (congrArg zI rs_eq.symm)⟩
theorem WR.sv {r : Nat → Int} (h : WR r W H) {k : Nat} {v : Int} (hk : pS k) : WR (rs r k v) W H := by
  obtain ⟨⟨a1, a2, a3⟩, b, c, d, e⟩ := h
  unfold pS at hk
  have hn : ∀ j, ¬ (j = 2 ∨ j = 3 ∨ j = 4 ∨ j = 5 ∨ j = 6 ∨ j = 7 ∨ j = 15 ∨ j = 16) → rs r k v j = r j := fun j hj => rs_ne (by omega)
  refine ⟨⟨by rw [hn 0 (by decide)]; exact a1, by rw [hn 1 (by decide)]; exact a2, a3⟩, fun x y hx hy => ?_, c.cg (fun j hj => hn j (by unfold pF at hj; omega)), by rw [hn 13 (by decide)]; exact d, by rw [hn 14 (by decide)]; exact e⟩
  dsimp only
  rw [hn (24 + (x + W * y)) (by omega)]
  exact b x y hx hy
/-- a number of the game told: pause, wait, tries -/
def aS (B : Nat → Int) (L i k : Nat) (lo hi : Int) (A : (Nat → Int) × (Nat → Int)) : (Nat → Int) × (Nat → Int) := ((aT B L (aN2 B lo hi (aO B L i A))).1, rs (aT B L (aN2 B lo hi (aO B L i A))).2 k (aN1 B lo hi (aO B L i A)))
/-- the clocks -/
def aC (B : Nat → Int) (L : Nat) (A : (Nat → Int) × (Nat → Int)) : (Nat → Int) × (Nat → Int) :=
  (fun A3 : (Nat → Int) × (Nat → Int) => ((aT B L (aN2 B 1 9999 A3)).1, rs (aT B L (aN2 B 1 9999 A3)).2 16 (aN1 B 1 9999 A3))) (aS B L 0 15 1 9999 A)
theorem aO_2 {i : Nat} : (aO B L i A).2 = A.2 := by
  unfold aO
  rw [aT_v.2.2.2.2.2.2.2.2]
  exact aO1_v.2.1
theorem aN_2 {lo hi : Int} : (aT B L (aN2 B lo hi A)).2 = A.2 := by
  rw [aT_v.2.2.2.2.2.2.2.2]
  exact aN2_v.2
theorem WA.o (h : WA B L A) {i : Nat} (hi : i < 6) : WA B L (aO B L i A) := (h.o1 hi).tt
theorem WA.nt (h : WA B L A) {lo hi : Int} : WA B L (aT B L (aN2 B lo hi A)) := h.n.tt
theorem WA.r (h : WA B L A) {r : Nat → Int} : WA B L (A.1, r) := h
theorem WA.s (h : WA B L A) {i k : Nat} {lo hi : Int} (hi6 : i < 6) : WA B L (aS B L i k lo hi A) := (h.o hi6).nt
theorem WA.c (h : WA B L A) : WA B L (aC B L A) := (h.s (by decide)).nt
/-- a number taken and put -/
theorem g107 (hB : BT m B L) (h : CG m A W H) (hW : WA B L A) {lo hi : Int} (h0 : 0 ≤ lo) (h1 : lo ≤ hi) (h2 : hi ≤ 9999) : An (d_107 21 (zI lo) (zI hi) m) (fun q => q.1 = zI (aN1 B lo hi A) ∧ CG q.2 (aT B L (aN2 B lo hi A)) W H ∧ ft m q.2) :=
  (c107 hB h.1 hW h0 h1 h2).mp (fun q ⟨a, b, c⟩ => ⟨a, h.up c b aN_2, c⟩)
theorem g104 (hB : BT m B L) (h : CG m A W H) (hW : WA B L A) {i : Nat} (hi : i < 6) : An (d_104 21 (zI ((2 ^ i : Nat) : Int)) m) (fun M => CG M (aO B L i A) W H ∧ ft m M) :=
  (c104 hB h.1 hW hi).mp (fun M ⟨a, b⟩ => ⟨h.up b a aO_2, b⟩)
theorem g111 (hB : BT m B L) (h : CG m A W H) (hW : WA B L A) : An (d_111 21 m) (fun M => CG M (aT B L A) W H ∧ ft m M) :=
  (c111a hB h.1 (by have := hW.2.2.2.1; omega)).mp (fun M ⟨a, b⟩ => ⟨h.up b a aT_v.2.2.2.2.2.2.2.2, b⟩)
theorem g110 (h : CG m A W H) (hW : WA B L A) {c o : Int} : An (d_110 21 (zI c) (zI o) m) (fun M => CG M (aF c o A) W H ∧ ft m M) :=
  (c110 h.1 hW.1).mp (fun M ⟨a, b⟩ => ⟨h.up b a aF_v.2.1, b⟩)
theorem gput (h : CG m A W H) {k f : Nat} {v : Int} (hkf : (k = 5 ∧ f = 8) ∨ (k = 6 ∧ f = 9) ∨ (k = 7 ∧ f = 10) ∨ (k = 15 ∧ f = 11) ∨ (k = 16 ∧ f = 12)) : CG (wr m 42 f (zI v)) (A.1, rs A.2 k v) W H ∧ gt m (wr m 42 f (zI v)) :=
  ⟨⟨fun j a b => by rw [wr_ne (by decide)]; exact h.1 j a b, h.2.1.sv h.2.2.1.2.2 h.2.2.k hkf, h.2.2.sv (by unfold pS; omega)⟩, by rw [wr_ne (by decide)], fun a ha hb => by rw [wr_ne (by omega)]⟩
theorem g_S (hB : BT m B L) (h : CG m A W H) (hW : WA B L A) {i k f : Nat} (hi : i < 6) {lo hi' : Int} (h0 : 0 ≤ lo) (h1 : lo ≤ hi') (h2 : hi' ≤ 9999) (hkf : (k = 5 ∧ f = 8) ∨ (k = 6 ∧ f = 9) ∨ (k = 7 ∧ f = 10) ∨ (k = 15 ∧ f = 11) ∨ (k = 16 ∧ f = 12)) :
    An ((d_104 21 (zI ((2 ^ i : Nat) : Int)) m).bind fun m18 => (d_107 21 (zI lo) (zI hi') m18).bind fun r19 => some (wr r19.2 42 f r19.1)) (fun M => CG M (aS B L i k lo hi' A) W H ∧ gt m M) := by
  refine (g104 hB h hW hi).bd (fun m1 ⟨a1, a2⟩ => ?_)
  refine (g107 (a2.bt hB) a1 (hW.o hi) h0 h1 h2).bd (fun q ⟨b1, b2, b3⟩ => ?_)
  rw [b1]
  have p := gput b2 (v := aN1 B lo hi' (aO B L i A)) hkf
  exact An.so ⟨p.1, (a2.gt.tr b3.gt).tr p.2⟩
/-- the kind that a word names, -1 for none -/
def kow (B : Nat → Int) (A : (Nat → Int) × (Nat → Int)) : Int := if isw B 6 A = true then 0 else if isw B 7 A = true then 1 else if isw B 8 A = true then 2 else if isw B 9 A = true then 3 else if isw B 10 A = true then 4 else if isw B 11 A = true then 5 else -1
theorem kow_r : -1 ≤ kow B A ∧ kow B A ≤ 5 := by
  unfold kow
  repeat' split
  all_goals omega
theorem c103 (hB : BT m B L) (hX : TX m) (h : CT m A) (hW : WA B L A) : d_103 21 m = some (zI (kow B A)) := by
  have e : ∀ k, k < 17 → d_109 21 (3 + k) m = some (isw B k A) := fun k hk => c109 hB hX h hW hk
  unfold d_103 kow
  rw [e 6 (by decide), e 7 (by decide), e 8 (by decide), e 9 (by decide), e 10 (by decide), e 11 (by decide)]
  simp only [obs]
  by_cases q6 : isw B 6 A = true
  · rw [if_pos q6, if_pos q6]; rfl
  · rw [if_neg q6, if_neg q6]
    by_cases q7 : isw B 7 A = true
    · rw [if_pos q7, if_pos q7]; rfl
    · rw [if_neg q7, if_neg q7]
      by_cases q8 : isw B 8 A = true
      · rw [if_pos q8, if_pos q8]; rfl
      · rw [if_neg q8, if_neg q8]
        by_cases q9 : isw B 9 A = true
        · rw [if_pos q9, if_pos q9]; rfl
        · rw [if_neg q9, if_neg q9]
          by_cases q10 : isw B 10 A = true
          · rw [if_pos q10, if_pos q10]; rfl
          · rw [if_neg q10, if_neg q10]
            by_cases q11 : isw B 11 A = true
            · rw [if_pos q11, if_pos q11]; rfl
            · rw [if_neg q11, if_neg q11, show (-1 : Int32) = zI (-1) from by decide]
def aK (B : Nat → Int) (L s : Nat) (A : (Nat → Int) × (Nat → Int)) : (Nat → Int) × (Nat → Int) := if kow B A = 0 then aO B L (4 + s) (if kow B A = -1 then aF 1 (A.1 8) A else A) else aT B L (if kow B A = -1 then aF 1 (A.1 8) A else A)
theorem aK_2 {s : Nat} : (aK B L s A).2 = A.2 := by
  have e : (if kow B A = -1 then aF 1 (A.1 8) A else A).2 = A.2 := by split; exact aF_v.2.1; rfl
  unfold aK
  split
  · rw [aO_2, e]
  · rw [aT_v.2.2.2.2.2.2.2.2, e]
theorem WA.kk (h : WA B L A) {s : Nat} (hs : s ≤ 1) : WA B L (aK B L s A) := by
  have e : WA B L (if kow B A = -1 then aF 1 (A.1 8) A else A) := by split; exact h.f (by decide); exact h
  unfold aK
  split
  · exact e.o (by omega)
  · exact e.tt
theorem g102 (hB : BT m B L) (hX : TX m) (h : CG m A W H) (hW : WA B L A) {s : Nat} (hs : s ≤ 1) : An (d_102 21 (zI (s : Nat)) m) (fun q => q.1 = zI (kow B A) ∧ CG q.2 (aK B L s A) W H ∧ ft m q.2) := by
  have kr := kow_r (B := B) (A := A)
  have tail : ∀ (M : Mm) (A' : (Nat → Int) × (Nat → Int)), CG M A' W H → ft m M → WA B L A' → A' = (if kow B A = -1 then aF 1 (A.1 8) A else A) → An (d_102_19 21 (zI (s : Nat)) (zI (kow B A)) M) (fun q => q.1 = zI (kow B A) ∧ CG q.2 (aK B L s A) W H ∧ ft m q.2) := fun M A' hM hf hw e => by
    unfold d_102_19 d_102_35 aK
    rw [← e]
    by_cases q0 : kow B A = 0
    · rw [if_neg (by rw [q0]; exact fun e => e rfl), if_pos q0]
      have : s = 0 ∨ s = 1 := by omega
      rcases this with rfl | rfl
      · rw [if_neg (by decide)]
        exact (g104 (hf.bt hB) hM hw (i := 4) (by decide)).bd (fun M2 h2 => An.so ⟨rfl, h2.1, hf.tr h2.2⟩)
      · rw [if_pos (by decide)]
        exact (g104 (hf.bt hB) hM hw (i := 5) (by decide)).bd (fun M2 h2 => An.so ⟨rfl, h2.1, hf.tr h2.2⟩)
    · rw [if_pos (by rw [zl_0, zI_inj (by omega) (by omega) (by omega) (by omega)]; exact q0), if_neg q0]
      exact (g111 (hf.bt hB) hM hw).bd (fun M2 h2 => An.so ⟨rfl, h2.1, hf.tr h2.2⟩)
  unfold d_102
  rw [c103 hB hX h.1 hW]
  simp only [obs]
  by_cases q : kow B A = -1
  · rw [if_neg (by rw [q]; decide), h.1 8 (by decide) (by decide), zl_1]
    refine (g110 h hW).bd (fun M ⟨a, b⟩ => ?_)
    exact tail M _ a b (hW.f (by decide)) (by rw [if_pos q])
  · rw [if_pos (by rw [show (-1 : Int32) = zI (-1) from by decide, zI_inj (by omega) (by omega) (by omega) (by omega)]; exact q)]
    exact tail m A h (ft.rf m) hW (by rw [if_neg q])
/-- a piece put on both boards -/
def rpl (r : Nat → Int) (c : Nat) (v : Int) : Nat → Int := fun k => if k = 24 + c ∨ k = 88 + c then v else r k
theorem g50 {A : (Nat → Int) × (Nat → Int)} (h : CG m A W H) {x y : Nat} (hx : x < W) (hy : y < H) {v : Int} (v0 : 0 ≤ v) (v1 : v ≤ 12) : An (d_50 42 (zI ((x + 8 * y : Nat) : Int)) (zI (v - 1)) m) (fun M => CG M (A.1, rpl A.2 (x + W * y) v) W H ∧ gt m M) := by
  have F := gA_F gA_42
  obtain ⟨hC, hG, hR⟩ := h
  have hw := hR.1.2.2
  have hk := hR.k
  have hw' := hw
  obtain ⟨w1, w2, w3, w4⟩ := hw'
  have cc := cell_64 hw hx hy
  unfold d_50
  rw [F.1, F.2.1, F.2.2.2.2.2.1.1, F.2.2.2.2.2.2.1.1, c18 F.2.2.2.2.2.1.2.2.1 (by omega)]
  simp only [obs]
  rw [c18 F.2.2.2.2.2.2.1.2.2.1 (by omega)]
  refine An.so ⟨⟨fun j a b => by rw [wr_ne (by decide), wr_ne (by decide)]; exact hC j a b, ?_, ?_⟩, by rw [wr_ne (by decide), wr_ne (by decide)], fun a ha hb => by rw [wr_ne (by omega), wr_ne (by omega)]⟩
  · have g1 : GR (wr m (42 + 1 + 1 + 1) (x + 8 * y) (zI (v - 1))) 42 (rs A.2 (24 + (x + W * y)) v) W H := by
      refine hG.cB hw hk.1 hk.2.1 hk.2.2 (s := 0) (by decide) (fun a a1 a2 a3 => wr_ne (by omega)) (fun j _ hj => rs_ne (fun e => hj (by unfold pB; omega))) ?_
      have b0 := hG.bd (s := 0) (by decide)
      refine ⟨(b0.1.put hw hx hy (p := v)).bb (fun u w hu hw' => ?_), (b0.2.1.mm (wr_ne (by decide)) (wr_ne (by decide))).bb (fun u w hu hw' => ?_), ?_, ?_, fun z => ⟨?_, ?_⟩⟩
      · show (if u + W * w = x + W * y then v else A.2 (24 + 64 * 0 + (u + W * w))) = rs A.2 (24 + (x + W * y)) v (24 + 64 * 0 + (u + W * w))
        unfold rs
        by_cases e : u + W * w = x + W * y
        · rw [if_pos e, if_pos (by omega)]
        · rw [if_neg e, if_neg (by omega)]
      · have := cell_64 hw hu hw'
        exact (rs_ne (by omega)).symm
      · rw [wr_ne (by decide), rs_ne (by omega)]; exact b0.2.2.1
      · rw [wr_ne (by decide), rs_ne (by omega)]; exact b0.2.2.2.1
      · rw [wr_ne (by decide), rs_ne (by omega)]
        rw [rs_ne (by omega)] at z
        exact (b0.2.2.2.2 z).1
      · rw [wr_ne (by decide), rs_ne (by omega)]
        rw [rs_ne (by omega)] at z
        exact (b0.2.2.2.2 z).2
    have g2 : GR (wr (wr m (42 + 1 + 1 + 1) (x + 8 * y) (zI (v - 1))) (42 + 6 + 1 + 1) (x + 8 * y) (zI (v - 1))) 42 (rs (rs A.2 (24 + (x + W * y)) v) (88 + (x + W * y)) v) W H := by
      refine g1.cB hw (by rw [rs_ne (by omega)]; exact hk.1) (by rw [rs_ne (by omega)]; exact hk.2.1) (by rw [rs_ne (by omega)]; exact hk.2.2) (s := 1) (by decide) (fun a a1 a2 a3 => wr_ne (by omega)) (fun j _ hj => rs_ne (fun e => hj (by unfold pB; omega))) ?_
      have b0 := g1.bd (s := 1) (by decide)
      refine ⟨(b0.1.put hw hx hy (p := v)).bb (fun u w hu hw' => ?_), (b0.2.1.mm (wr_ne (by decide)) (wr_ne (by decide))).bb (fun u w hu hw' => ?_), ?_, ?_, fun z => ⟨?_, ?_⟩⟩
      · show (if u + W * w = x + W * y then v else rs A.2 (24 + (x + W * y)) v (24 + 64 * 1 + (u + W * w))) = rs (rs A.2 (24 + (x + W * y)) v) (88 + (x + W * y)) v (24 + 64 * 1 + (u + W * w))
        have c1 := cell_64 hw hu hw'
        by_cases e : u + W * w = x + W * y
        · rw [if_pos e]
          unfold rs
          rw [if_pos (by omega)]
        · rw [if_neg e]
          conv => rhs; unfold rs
          rw [if_neg (by omega)]
          rfl
      · have := cell_64 hw hu hw'
        exact (rs_ne (by omega)).symm
      · rw [wr_ne (by decide), rs_ne (by omega)]; exact b0.2.2.1
      · rw [wr_ne (by decide), rs_ne (by omega)]; exact b0.2.2.2.1
      · rw [wr_ne (by decide), rs_ne (by omega)]
        rw [rs_ne (by omega)] at z
        exact (b0.2.2.2.2 z).1
      · rw [wr_ne (by decide), rs_ne (by omega)]
        rw [rs_ne (by omega)] at z
        exact (b0.2.2.2.2 z).2
    have e : rs (rs A.2 (24 + (x + W * y)) v) (88 + (x + W * y)) v = rpl A.2 (x + W * y) v := by
      funext k
      unfold rs rpl
      by_cases e1 : k = 88 + (x + W * y)
      · rw [if_pos e1, if_pos (Or.inr e1)]
      · rw [if_neg e1]
        by_cases e2 : k = 24 + (x + W * y)
        · rw [if_pos e2, if_pos (Or.inl e2)]
        · rw [if_neg e2, if_neg (fun z => z.elim e2 e1)]
    rw [← e]
    exact g2
  · obtain ⟨⟨a1, a2, a3⟩, b, c, d, e⟩ := hR
    have hn : ∀ j, j < 24 ∨ 280 ≤ j → rpl A.2 (x + W * y) v j = A.2 j := fun j hj => by
      unfold rpl
      rw [if_neg (by omega)]
    refine ⟨⟨by dsimp only; rw [hn 0 (by omega)]; exact a1, by dsimp only; rw [hn 1 (by omega)]; exact a2, a3⟩, fun u w hu hw' => ?_, c.cg (fun j hj => hn j (by unfold pF at hj; omega)), by dsimp only; rw [hn 13 (by omega)]; exact d, by dsimp only; rw [hn 14 (by omega)]; exact e⟩
    dsimp only
    have c1 := cell_64 hw hu hw'
    unfold rpl
    by_cases e1 : u + W * w = x + W * y
    · rw [if_pos (by omega)]; exact ⟨v0, v1⟩
    · rw [if_neg (by omega)]; exact b u w hu hw'
/-- a piece -/
def aP4 (B : Nat → Int) (L s : Nat) (A : (Nat → Int) × (Nat → Int)) : (Nat → Int) × (Nat → Int) := aT B L (if A.1 4 < 32 then A else aF 4 (A.1 8) A)
def aPx (B : Nat → Int) (L s W : Nat) (A : (Nat → Int) × (Nat → Int)) : Int := aN1 B 0 ((W : Int) - 1) (aK B L s (aP4 B L s A))
def aP5 (B : Nat → Int) (L s W : Nat) (A : (Nat → Int) × (Nat → Int)) : (Nat → Int) × (Nat → Int) := aT B L (aN2 B 0 ((W : Int) - 1) (aK B L s (aP4 B L s A)))
def aPy (B : Nat → Int) (L s W H : Nat) (A : (Nat → Int) × (Nat → Int)) : Int := aN1 B 0 ((H : Int) - 1) (aP5 B L s W A)
def aP6 (B : Nat → Int) (L s W H : Nat) (A : (Nat → Int) × (Nat → Int)) : (Nat → Int) × (Nat → Int) := aT B L (aN2 B 0 ((H : Int) - 1) (aP5 B L s W A))
def aPc (B : Nat → Int) (L s W H : Nat) (A : (Nat → Int) × (Nat → Int)) : Nat := (aPx B L s W A).toNat + W * (aPy B L s W H A).toNat
def aP7 (B : Nat → Int) (L s W H : Nat) (A : (Nat → Int) × (Nat → Int)) : (Nat → Int) × (Nat → Int) := if (aP6 B L s W H A).2 (24 + aPc B L s W H A) = 0 then aP6 B L s W H A else aF 3 ((aP6 B L s W H A).1 9) (aP6 B L s W H A)
def aP (B : Nat → Int) (L s W H : Nat) (A : (Nat → Int) × (Nat → Int)) : (Nat → Int) × (Nat → Int) := (rs (aP7 B L s W H A).1 4 ((aP7 B L s W H A).1 4 + 1), rpl (aP7 B L s W H A).2 (aPc B L s W H A) (kow B (aP4 B L s A) + 6 * (s : Nat) + 1))
theorem aP_4 {s : Nat} : (aP7 B L s W H A).1 4 = A.1 4 ∧ (aP7 B L s W H A).2 = A.2 := by
  have e4 : (aP4 B L s A).1 4 = A.1 4 ∧ (aP4 B L s A).2 = A.2 := by
    unfold aP4
    rw [aT_v.2.2.1, aT_v.2.2.2.2.2.2.2.2]
    split
    · exact ⟨rfl, rfl⟩
    · exact ⟨aF_v.1 4 (by decide) (by decide), aF_v.2.1⟩
  have ek : (aK B L s (aP4 B L s A)).1 4 = (aP4 B L s A).1 4 := by
    have e : (if kow B (aP4 B L s A) = -1 then aF 1 ((aP4 B L s A).1 8) (aP4 B L s A) else aP4 B L s A).1 4 = (aP4 B L s A).1 4 := by
      split
      · exact aF_v.1 4 (by decide) (by decide)
      · rfl
    unfold aK
    split
    · unfold aO
      rw [aT_v.2.2.1, aO1_v.1 4 (by decide) (by decide) (by decide), e]
    · rw [aT_v.2.2.1, e]
  have e5 : (aP5 B L s W A).1 4 = A.1 4 ∧ (aP5 B L s W A).2 = A.2 := by
    unfold aP5
    rw [aT_v.2.2.1, aN_2, aN2_v.1 4 (by decide) (by decide), ek, aK_2]
    exact e4
  have e6 : (aP6 B L s W H A).1 4 = A.1 4 ∧ (aP6 B L s W H A).2 = A.2 := by
    unfold aP6
    rw [aT_v.2.2.1, aN_2, aN2_v.1 4 (by decide) (by decide)]
    exact e5
  unfold aP7
  split
  · exact e6
  · rw [aF_v.1 4 (by decide) (by decide), aF_v.2.1]
    exact e6
theorem WA.p7 (h : WA B L A) {s : Nat} (hs : s ≤ 1) : WA B L (aP4 B L s A) ∧ WA B L (aK B L s (aP4 B L s A)) ∧ WA B L (aP5 B L s W A) ∧ WA B L (aP6 B L s W H A) ∧ WA B L (aP7 B L s W H A) := by
  have h4 : WA B L (aP4 B L s A) := by
    have e : WA B L (if A.1 4 < 32 then A else aF 4 (A.1 8) A) := by split; exact h; exact h.f (by decide)
    exact e.tt
  have hk := h4.kk hs
  have h5 : WA B L (aP5 B L s W A) := hk.nt
  have h6 : WA B L (aP6 B L s W H A) := h5.nt
  refine ⟨h4, hk, h5, h6, ?_⟩
  unfold aP7
  split
  · exact h6
  · exact h6.f (by decide)
theorem WA.p (h : WA B L A) {s : Nat} (hs : s ≤ 1) (h4 : A.1 4 ≤ 32) : WA B L (aP B L s W H A) := by
  have h7 := (h.p7 (W := W) (H := H) hs).2.2.2.2
  have e := (aP_4 (B := B) (L := L) (A := A) (W := W) (H := H) (s := s)).1
  unfold aP WA
  dsimp only
  rw [rs_ne (by decide), rs_eq, rs_ne (by decide), rs_ne (by decide), rs_ne (by decide), rs_ne (by decide)]
  exact ⟨h7.1, by rw [e]; have := h.2.1; omega, h7.2.2⟩
theorem g100 (hB : BT m B L) (hX : TX m) (h : CG m A W H) (hW : WA B L A) (h4 : A.1 4 ≤ 32) {s : Nat} (hs : s ≤ 1) : An (d_100 21 42 (zI (s : Nat)) m) (fun M => CG M (aP B L s W H A) W H ∧ gt m M) := by
  have hw := h.2.2.1.2.2
  have hw' := hw
  obtain ⟨w1, w2, w3, w4⟩ := hw'
  obtain ⟨W4, WK, W5, W6, W7⟩ := hW.p7 (W := W) (H := H) hs
  have F := gA_F gA_42
  have wd : ∀ (M : Mm) (A' : (Nat → Int) × (Nat → Int)), CG M A' W H → M (sh_r (sh_r 42 0) 0) 1 = zI (W : Nat) ∧ M (sh_r (sh_r 42 0) 0) 2 = zI (H : Nat) := fun M A' hM => by
    rw [F.1, F.2.2.2.2.2.1.1]
    exact ⟨hM.2.1.1.1.1, hM.2.1.1.1.2.1⟩
  have body : ∀ (M : Mm) (A' : (Nat → Int) × (Nat → Int)), CG M A' W H → ft m M → WA B L A' → aT B L A' = aP4 B L s A → An (d_100_18 21 42 (zI (s : Nat)) M) (fun M => CG M (aP B L s W H A) W H ∧ gt m M) := fun M A' hM hf hw' e4 => by
    unfold d_100_18
    refine (g111 (hf.bt hB) hM hw').bd (fun m1 ⟨a1, a2⟩ => ?_)
    rw [e4] at a1
    have f1 := hf.tr a2
    refine (g102 (f1.bt hB) (f1.tx hX) a1 W4 hs).bd (fun q2 ⟨b1, b2, b3⟩ => ?_)
    have f2 := f1.tr b3
    rw [(wd _ _ b2).1, zl_1, zl_0, zI_sub]
    refine (g107 (f2.bt hB) b2 WK (lo := 0) (hi := (W : Int) - 1) (by omega) (by omega) (by omega)).bd (fun q3 ⟨c1, c2, c3⟩ => ?_)
    have f3 := f2.tr c3
    rw [(wd _ _ c2).2, zI_sub]
    refine (g107 (f3.bt hB) c2 W5 (lo := 0) (hi := (H : Int) - 1) (by omega) (by omega) (by omega)).bd (fun q4 ⟨d1, d2, d3⟩ => ?_)
    have f4 := f3.tr d3
    have rx := aN1_r (B := B) (A := aK B L s (aP4 B L s A)) (lo := 0) (hi := (W : Int) - 1) (by omega)
    have ry := aN1_r (B := B) (A := aP5 B L s W A) (lo := 0) (hi := (H : Int) - 1) (by omega)
    change 0 ≤ aPx B L s W A ∧ aPx B L s W A ≤ (W : Int) - 1 at rx
    change 0 ≤ aPy B L s W H A ∧ aPy B L s W H A ≤ (H : Int) - 1 at ry
    change q3.1 = zI (aPx B L s W A) at c1
    change q4.1 = zI (aPy B L s W H A) at d1
    change CG q4.2 (aP6 B L s W H A) W H at d2
    have hx : (aPx B L s W A).toNat < W := by omega
    have hy : (aPy B L s W H A).toNat < H := by omega
    have kr := kow_r (B := B) (A := aP4 B L s A)
    rw [c1, d1, c12 rx.1 ry.1, b1]
    simp only [obs]
    have F2 := (d2.2.1.bd (s := 0) (by decide)).1
    have bp : 0 ≤ (aP6 B L s W H A).2 (24 + aPc B L s W H A) ∧ (aP6 B L s W H A).2 (24 + aPc B L s W H A) ≤ 12 := d2.2.2.2.1 _ _ hx hy
    rw [F.1, F.2.2.2.2.2.1.1, c17 F.2.2.2.2.2.1.2.2.1 (by omega), F2.on hw hx hy]
    simp only [obs]
    have last : ∀ (M : Mm), CG M (aP7 B L s W H A) W H → ft m M → An (d_100_100 21 42 (zI (s : Nat)) (zI (kow B (aP4 B L s A))) (zI (((aPx B L s W A).toNat + 8 * (aPy B L s W H A).toNat : Nat) : Int)) M) (fun M => CG M (aP B L s W H A) W H ∧ gt m M) := fun M hM hf => by
      unfold d_100_100
      rw [zl_6, zI_mul, zI_add, show kow B (aP4 B L s A) + 6 * ((s : Nat) : Int) = (kow B (aP4 B L s A) + 6 * (s : Nat) + 1) - 1 by omega]
      refine (g50 hM hx hy (v := kow B (aP4 B L s A) + 6 * (s : Nat) + 1) (by omega) (by omega)).bd (fun M7 ⟨e1, e2⟩ => ?_)
      rw [wbs, e1.1 4 (by decide) (by decide), zl_1, zI_add]
      refine An.so ⟨⟨e1.1.st, ?_, e1.2.2⟩, (hf.gt.tr e2).tr (ft.st (by decide)).gt⟩
      exact e1.2.1.mm (fun a _ _ => wr_ne (by omega))
    by_cases q0 : (aP6 B L s W H A).2 (24 + aPc B L s W H A) = 0
    · have e7 : aP7 B L s W H A = aP6 B L s W H A := if_pos q0
      rw [show (aP6 B L s W H A).2 (24 + 64 * 0 + ((aPx B L s W A).toNat + W * (aPy B L s W H A).toNat)) = 0 from q0, if_pos (by decide)]
      exact last q4.2 (by rw [e7]; exact d2) f4
    · have e7 : aP7 B L s W H A = aF 3 ((aP6 B L s W H A).1 9) (aP6 B L s W H A) := if_neg q0
      have q0' : ¬ (aP6 B L s W H A).2 (24 + 64 * 0 + ((aPx B L s W A).toNat + W * (aPy B L s W H A).toNat)) = 0 := q0
      have bp' : 0 ≤ (aP6 B L s W H A).2 (24 + 64 * 0 + ((aPx B L s W A).toNat + W * (aPy B L s W H A).toNat)) ∧ (aP6 B L s W H A).2 (24 + 64 * 0 + ((aPx B L s W A).toNat + W * (aPy B L s W H A).toNat)) ≤ 12 := bp
      rw [if_neg (by rw [zI_neg, zI_inj (by omega) (by omega) (by omega) (by omega)]; omega), d2.1 9 (by decide) (by decide), zl_3]
      refine (g110 d2 W6).bd (fun M ⟨a, b⟩ => ?_)
      exact last M (by rw [e7]; exact a) (f4.tr b)
  have w4' := hW.2.1
  unfold d_100
  rw [h.1 4 (by decide) (by decide)]
  by_cases q : A.1 4 < 32
  · rw [if_pos (by rw [show (32 : Int32) = zI 32 from rfl, zI_lt (by omega) (by omega) (by omega) (by omega)]; exact q)]
    exact body m A h (ft.rf m) hW (by unfold aP4; rw [if_pos q])
  · rw [if_neg (by rw [show (32 : Int32) = zI 32 from rfl, zI_lt (by omega) (by omega) (by omega) (by omega)]; exact q), h.1 8 (by decide) (by decide), zl_4]
    refine (g110 h hW).bd (fun M ⟨a, b⟩ => ?_)
    exact body M _ a b (hW.f (by decide)) (by unfold aP4; rw [if_neg q])
end TC
