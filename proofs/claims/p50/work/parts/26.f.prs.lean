/-! A setup text read as a whole by the class. -/
section TF
variable {m M : Mm} {L : Nat} {B : Nat → Int} {A A' A'' : (Nat → Int) × (Nat → Int)} {W H : Nat}
theorem WA.tu (h : WA B L A) : A.1 8 ≤ A.1 6 ∧ A.1 6 ≤ (aT B L A).1 8 := by
  have h6 := h.2.2.2.1
  have t := (tk_f (B := B) (L := L) (p := (A.1 6).toNat) (by omega)).1
  rw [aT_v.2.2.2.2.2.2.1]
  omega
theorem u_t (h : WA B L A) : A.1 8 ≤ (aT B L A).1 8 := by have := h.tu; omega
theorem u_n (h : WA B L A) {lo hi : Int} : A.1 8 ≤ (aT B L (aN2 B lo hi A)).1 8 := by
  have := u_t (h.n (lo := lo) (hi := hi))
  rw [aN2_v.1 8 (by decide) (by decide)] at this
  exact this
theorem u_o (h : WA B L A) {i : Nat} (hi : i < 6) : A.1 8 ≤ (aO B L i A).1 8 := by
  have := u_t (h.o1 hi)
  rw [aO1_v.1 8 (by decide) (by decide) (by decide)] at this
  exact this
theorem u_f {p : Prop} [Decidable p] {c o : Int} : (if p then A else aF c o A).1 8 = A.1 8 ∧ (if p then aF c o A else A).1 8 = A.1 8 := by
  constructor <;> split <;> first | rfl | exact aF_v.1 8 (by decide) (by decide)
theorem u_s (h : WA B L A) {i k : Nat} {lo hi : Int} (hi6 : i < 6) : A.1 8 ≤ (aS B L i k lo hi A).1 8 := Int.le_trans (u_o h hi6) (u_n (h.o hi6))
theorem u_c (h : WA B L A) : A.1 8 ≤ (aC B L A).1 8 := Int.le_trans (u_s h (by decide)) (u_n (h.s (by decide)))
theorem u_k (h : WA B L A) {s : Nat} (hs : s ≤ 1) : A.1 8 ≤ (aK B L s A).1 8 := by
  have e : WA B L (if kow B A = -1 then aF 1 (A.1 8) A else A) := by split; exact h.f (by decide); exact h
  have u := (u_f (A := A) (p := kow B A = -1) (c := 1) (o := A.1 8)).2
  unfold aK
  split
  · have := u_o e (i := 4 + s) (by omega)
    rw [u] at this; exact this
  · have := u_t e
    rw [u] at this; exact this
theorem u_p (h : WA B L A) {s : Nat} (hs : s ≤ 1) : A.1 8 ≤ (aP B L s W H A).1 8 := by
  obtain ⟨h4, hk, h5, h6, h7⟩ := h.p7 (W := W) (H := H) hs
  have e1 : A.1 8 ≤ (aP4 B L s A).1 8 := by
    have e : WA B L (if A.1 4 < 32 then A else aF 4 (A.1 8) A) := by split; exact h; exact h.f (by decide)
    have := u_t e
    rw [u_f.1] at this
    exact this
  have e2 := u_k h4 hs
  have e3 : (aK B L s (aP4 B L s A)).1 8 ≤ (aP5 B L s W A).1 8 := u_n hk
  have e4 : (aP5 B L s W A).1 8 ≤ (aP6 B L s W H A).1 8 := u_n h5
  have e5 : (aP7 B L s W H A).1 8 = (aP6 B L s W H A).1 8 := u_f.1
  have e6 : (aP B L s W H A).1 8 = (aP7 B L s W H A).1 8 := by
    unfold aP
    dsimp only
    rw [rs_ne (by decide)]
  omega
theorem u_g (h : WA B L A) : A.1 8 ≤ (aG B L A).1 8 := by
  obtain ⟨h1, h2, h3, h4, h5⟩ := h.g7
  have e1 : A.1 8 ≤ (aG1 B L A).1 8 := by
    have e : WA B L (if A.2 8 < 8 then A else aF 4 (A.1 8) A) := by split; exact h; exact h.f (by decide)
    have := u_t e
    rw [u_f.1] at this
    exact this
  have e2 : (aG1 B L A).1 8 ≤ (aG2 B L A).1 8 := u_n h1
  have e3 : (aG3 B L A).1 8 = (aG2 B L A).1 8 := u_f.2
  have e4 : (aG3 B L A).1 8 ≤ (aG4 B L A).1 8 := u_n h3
  have e5 : (aG4 B L A).1 8 ≤ (aG5 B L A).1 8 := u_n h4
  show _ ≤ (aG5 B L A).1 8
  omega
theorem u_st (h : WA B L A) : A.1 8 ≤ (aSt B L W H A).1 8 := by
  unfold aSt
  split; exact u_c h
  split; exact u_s h (by decide)
  split; exact u_s h (by decide)
  split; exact u_s h (by decide)
  split; exact u_p h (by decide)
  split; exact u_p h (by decide)
  split; exact u_g h
  rw [aF_v.1 8 (by decide) (by decide)]
  exact Int.le_refl _
theorem aM_8 (h : WA B L A) (h2 : (aM B L A).1 2 = 0) : A.1 7 = 3 ∧ A.1 8 < (aM B L A).1 8 := by
  unfold aM at *
  rw [aT_v.1] at h2
  by_cases q : A.1 7 = 3
  · refine ⟨q, ?_⟩
    simp only [if_pos q] at *
    have := h.tu
    have := h.2.2.2.2.2.2 (by omega)
    omega
  · rw [if_neg q] at h2
    unfold aF at h2
    by_cases z : A.1 2 = 0
    · rw [if_pos z] at h2
      dsimp only at h2
      rw [rs_ne (by decide), rs_eq] at h2
      cases h2
    · rw [if_neg z] at h2
      exact absurd h2 z
theorem WA.mq (h : WA B L A) : WA B L (aM B L A) := by
  have e : WA B L (if A.1 7 = 3 then A else aF 1 (A.1 8) A) := by split; exact h; exact h.f (by decide)
  exact e.tt
theorem WA.w (h : WA B L A) {k : Nat} : WA B L (aW B L k A) := by
  have e : WA B L (if isw B k A = true then A else aF 1 (A.1 8) A) := by split; exact h; exact h.f (by decide)
  exact e.tt
theorem aM_2 : (aM B L A).2 = A.2 := by
  unfold aM
  rw [aT_v.2.2.2.2.2.2.2.2]
  split
  · rfl
  · exact aF_v.2.1
/-- while statements follow -/
def cnd (A : (Nat → Int) × (Nat → Int)) : Bool := decide (A.1 2 = 0 ∧ A.1 7 ≠ 0)
def aX (B : Nat → Int) (L W H : Nat) (A : (Nat → Int) × (Nat → Int)) : Nat → (Nat → Int) × (Nat → Int)
  | 0 => A
  | k + 1 => aM B L (aSt B L W H (aX B L W H A k))
def nX (B : Nat → Int) (L W H : Nat) (A : (Nat → Int) × (Nat → Int)) : Nat := ff (fun k => !(cnd (aX B L W H A k))) 600
/-- what stays so through the statements -/
def XI (B : Nat → Int) (L : Nat) (A : (Nat → Int) × (Nat → Int)) : Prop := WA B L A ∧ (A.1 2 = 0 → A.1 4 ≤ 32)
theorem aP_c {s : Nat} (h4 : A.1 4 ≤ 32) (h2 : (aP B L s W H A).1 2 = 0) : (aP B L s W H A).1 4 ≤ 32 := by
  have e4 : (aP B L s W H A).1 4 = A.1 4 + 1 := by
    unfold aP
    dsimp only
    rw [rs_eq, aP_4.1]
  rw [e4]
  by_cases q : A.1 4 < 32
  · omega
  · exfalso
    have k0 : ∀ X Y : (Nat → Int) × (Nat → Int), sk X Y → Y.1 2 = 0 → X.1 2 = 0 := fun X Y hs hy => by
      by_cases z : X.1 2 = 0
      · exact z
      · have := (hs z).1
        omega
    have e2 : (aP B L s W H A).1 2 = (aP7 B L s W H A).1 2 := by
      unfold aP
      dsimp only
      rw [rs_ne (by decide)]
    rw [e2] at h2
    obtain ⟨-, -, s5, s6, s7⟩ := sk.p7 (B := B) (L := L) (W := W) (H := H) (A := aF 4 (A.1 8) A) (s := s)
    have sk7 : sk (aP4 B L s A) (aP7 B L s W H A) := by
      have hk := sk.k (B := B) (L := L) (A := aP4 B L s A) (s := s)
      have h5 : sk (aP4 B L s A) (aP5 B L s W A) := hk.tr sk.n
      have h6 : sk (aP4 B L s A) (aP6 B L s W H A) := h5.tr sk.n
      exact h6.tr (sk.i sk.rf sk.f)
    have e := k0 _ _ sk7 h2
    unfold aP4 at e
    rw [if_neg q, aT_v.1] at e
    unfold aF at e
    by_cases z : A.1 2 = 0
    · rw [if_pos z] at e
      dsimp only at e
      rw [rs_ne (by decide), rs_eq] at e
      cases e
    · rw [if_neg z] at e
      exact z e
theorem aO_4 {i : Nat} : (aO B L i A).1 4 = A.1 4 := by
  unfold aO
  rw [aT_v.2.2.1, aO1_v.1 4 (by decide) (by decide) (by decide)]
theorem aN_4 {lo hi : Int} : (aT B L (aN2 B lo hi A)).1 4 = A.1 4 := by rw [aT_v.2.2.1, aN2_v.1 4 (by decide) (by decide)]
theorem aS_4 {i k : Nat} {lo hi : Int} : (aS B L i k lo hi A).1 4 = A.1 4 := by
  unfold aS
  dsimp only
  rw [aN_4, aO_4]
theorem aG_4 : (aG B L A).1 4 = A.1 4 := by
  have e1 : (aG1 B L A).1 4 = A.1 4 := by
    unfold aG1
    rw [aT_v.2.2.1]
    split
    · rfl
    · exact aF_v.1 4 (by decide) (by decide)
  have e2 : (aG2 B L A).1 4 = A.1 4 := (aN_4 (lo := 0) (hi := 9999)).trans e1
  have e3 : (aG3 B L A).1 4 = A.1 4 := by
    unfold aG3
    split
    · rw [aF_v.1 4 (by decide) (by decide)]; exact e2
    · exact e2
  have e4 : (aG4 B L A).1 4 = A.1 4 := (aN_4 (lo := 1) (hi := 999)).trans e3
  exact (aN_4 (L := L) (lo := 1) (hi := 9)).trans e4
theorem XI.st (h : XI B L A) (h2 : A.1 2 = 0) : XI B L (aSt B L W H A) := by
  have h4 := h.2 h2
  refine ⟨h.1.st h4, fun z => ?_⟩
  unfold aSt at *
  by_cases q1 : isw B 1 A = true
  · rw [if_pos q1]
    exact Int.le_trans (Int.le_of_eq (show (aC B L A).1 4 = A.1 4 from (aN_4 (L := L) (lo := 1) (hi := 9999)).trans aS_4)) h4
  rw [if_neg q1] at z ⊢
  by_cases q2 : isw B 2 A = true
  · rw [if_pos q2, aS_4]; exact h4
  rw [if_neg q2] at z ⊢
  by_cases q3 : isw B 3 A = true
  · rw [if_pos q3, aS_4]; exact h4
  rw [if_neg q3] at z ⊢
  by_cases q4 : isw B 4 A = true
  · rw [if_pos q4, aS_4]; exact h4
  rw [if_neg q4] at z ⊢
  by_cases q5 : isw B 5 A = true
  · rw [if_pos q5] at z ⊢; exact aP_c h4 z
  rw [if_neg q5] at z ⊢
  by_cases q6 : isw B 12 A = true
  · rw [if_pos q6] at z ⊢; exact aP_c h4 z
  rw [if_neg q6] at z ⊢
  by_cases q7 : isw B 13 A = true
  · rw [if_pos q7, aG_4]; exact h4
  rw [if_neg q7, aF_v.1 4 (by decide) (by decide)]
  exact h4
theorem XI.mq (h : XI B L A) : XI B L (aM B L A) := by
  refine ⟨h.1.mq, fun z => ?_⟩
  have e4 : (aM B L A).1 4 = A.1 4 := by
    unfold aM
    rw [aT_v.2.2.1]
    split
    · rfl
    · exact aF_v.1 4 (by decide) (by decide)
  rw [e4]
  refine h.2 ?_
  by_cases z2 : A.1 2 = 0
  · exact z2
  · have := (sk.mm (B := B) (L := L) z2).1
    omega
theorem cnd_t (h : cnd A = true) : A.1 2 = 0 ∧ A.1 7 ≠ 0 := of_decide_eq_true h
theorem nX_lt {k : Nat} (h : k < nX B L W H A) : cnd (aX B L W H A k) = true := by
  have := ff_lt (p := fun k => !(cnd (aX B L W H A k))) h
  simpa using this
theorem aX_I (h : XI B L A) : ∀ k, k ≤ nX B L W H A → XI B L (aX B L W H A k)
  | 0, _ => h
  | k + 1, hk => ((aX_I h k (by omega)).st (cnd_t (nX_lt (by omega))).1).mq
theorem aX_8 (h : XI B L A) : ∀ k, k ≤ nX B L W H A → (aX B L W H A k).1 2 = 0 → (k : Int) ≤ (aX B L W H A k).1 8
  | 0, _, _ => by have := h.1.2.2.2.1; show (0 : Int) ≤ A.1 8; omega
  | k + 1, hk, z => by
    have c := cnd_t (nX_lt (B := B) (L := L) (W := W) (H := H) (A := A) (k := k) (by omega))
    have i := aX_I (W := W) (H := H) h k (by omega)
    have e := aX_8 h k (by omega) c.1
    have e1 := u_st (W := W) (H := H) i.1
    have e2 := (aM_8 (i.st (W := W) (H := H) c.1).1 z).2
    show ((k + 1 : Nat) : Int) ≤ (aM B L (aSt B L W H (aX B L W H A k))).1 8
    omega
theorem nX_e (h : XI B L A) (hL : L ≤ 600) : cnd (aX B L W H A (nX B L W H A)) = false := by
  have le : nX B L W H A ≤ 600 := ff_le _ _
  by_cases q : nX B L W H A < 600
  · have := ff_at (p := fun k => !(cnd (aX B L W H A k))) (n := 600) q
    show cnd (aX B L W H A (ff (fun k => !(cnd (aX B L W H A k))) 600)) = false
    simpa using this
  · cases hc : cnd (aX B L W H A (nX B L W H A)) with
    | false => rfl
    | true =>
      exfalso
      have c := cnd_t hc
      have i := aX_I (W := W) (H := H) h _ (Nat.le_refl _)
      have e := aX_8 (W := W) (H := H) h _ (Nat.le_refl _) c.1
      have w := i.1.2.2.2
      have := w.2.2.2 c.2
      omega
/-- the last: both kings are there -/
def aE (L : Nat) (A : (Nat → Int) × (Nat → Int)) : (Nat → Int) × (Nat → Int) := if (A.1 5).toNat &&& 48 = 48 then A else aF 5 (L : Int) A
theorem bit2 : ∀ T, T < 64 → (zI (T : Nat) &&& (48 : Int32) = 48 ↔ T &&& 48 = 48) := by decide +kernel
theorem g101e (hB : BT m B L) (h : CG m A W H) (hW : WA B L A) : An (d_98_101 21 m) (fun M => CG M (aE L A) W H ∧ gt m M) := by
  have w5 := hW.2.2.1
  unfold d_98_101 aE
  rw [h.1 5 (by decide) (by decide), show zI (A.1 5) = zI (((A.1 5).toNat : Nat) : Int) from congrArg zI (by omega)]
  by_cases q : (A.1 5).toNat &&& 48 = 48
  · rw [if_pos ((bit2 _ (by omega)).mpr q), if_pos q]
    exact An.so ⟨h, gt.rf m⟩
  · rw [if_neg (fun e => q ((bit2 _ (by omega)).mp e)), if_neg q, hB.2.1, show (5 : Int32) = zI 5 from rfl]
    exact (g110 h hW).bd (fun M hM => An.so ⟨hM.1, hM.2.gt⟩)
theorem g64 (hB : BT m B L) (hX : TX m) (h : CG m A W H) (hI : XI B L A) : An (d_98_64 21 42 0 m) (fun M => CG M (aE L (aX B L W H A (nX B L W H A))) W H ∧ gt m M) := by
  have le : nX B L W H A ≤ 600 := ff_le _ _
  unfold d_98_64
  rw [zl_0]
  refine it_inv (fun j (u : Int32 × Mm) => u.1 = zI (j : Nat) ∧ CG u.2 (aX B L W H A j) W H ∧ gt m u.2) _ (nX B L W H A) ⟨rfl, h, gt.rf m⟩ (fun j hj u hu => ?_) (fun u hu => ?_)
  · obtain ⟨z, M⟩ := u
    obtain ⟨u1, u2, u3⟩ := hu
    dsimp only at u1 u2 u3
    subst u1
    have c := cnd_t (nX_lt hj)
    have i := aX_I (W := W) (H := H) hI j (by omega)
    have w := i.1
    have w7 := w.2.2.2.2.1
    show An (s_98_64 21 42 (zI (j : Nat)) M) _
    unfold s_98_64
    rw [if_neg (by rw [zl_600, zI_le (by omega) (by omega) (by omega) (by omega)]; omega), u2.1 2 (by decide) (by decide), c.1, if_neg (fun e => e rfl), u2.1 7 (by decide) (by decide), if_neg (by rw [zl_0, zI_inj (by omega) (by omega) (by omega) (by omega)]; exact c.2)]
    refine (g99 (u3.bt hB) (u3.tx hX) u2 w (i.2 c.1)).bd (fun m1 ⟨a1, a2⟩ => ?_)
    have f1 := u3.tr a2
    have i2 := i.st (W := W) (H := H) c.1
    refine (c106 (f1.bt hB) a1.1 i2.1).bd (fun m2 ⟨b1, b2⟩ => ?_)
    rw [wbs, zl_1, zI_add]
    exact An.so ⟨rfl, a1.up b2 b1 aM_2, f1.tr b2.gt⟩
  · obtain ⟨z, M⟩ := u
    obtain ⟨u1, u2, u3⟩ := hu
    dsimp only at u1 u2 u3
    subst u1
    have i := aX_I (W := W) (H := H) hI _ (Nat.le_refl _)
    have w := i.1
    have w2 := w.1
    have w7 := w.2.2.2.2.1
    have ce := nX_e (W := W) (H := H) hI hB.1
    have fin : An ((d_98_101 21 M).map (Sum.inr (α := Int32 × Mm))) (fun r => match r with | .inl _ => False | .inr M' => CG M' (aE L (aX B L W H A (nX B L W H A))) W H ∧ gt m M') := by
      refine An.mo ?_
      exact (g101e (u3.bt hB) u2 w).mp (fun M' hM' => ⟨hM'.1, u3.tr hM'.2⟩)
    show An (s_98_64 21 42 (zI (nX B L W H A : Nat)) M) _
    unfold s_98_64
    rw [u2.1 2 (by decide) (by decide), u2.1 7 (by decide) (by decide)]
    have ce := of_decide_eq_false ce
    by_cases q1 : 600 ≤ nX B L W H A
    · rw [if_pos (by rw [zl_600, zI_le (by omega) (by omega) (by omega) (by omega)]; omega)]
      exact fin.mp (fun v hv => by cases v <;> exact hv)
    rw [if_neg (by rw [zl_600, zI_le (by omega) (by omega) (by omega) (by omega)]; omega)]
    by_cases q2 : (aX B L W H A (nX B L W H A)).1 2 = 0
    · have q7 : (aX B L W H A (nX B L W H A)).1 7 = 0 := by
        by_cases z : (aX B L W H A (nX B L W H A)).1 7 = 0
        · exact z
        · exact absurd ⟨q2, z⟩ ce
      rw [q2, if_neg (fun e => e rfl), q7, if_pos (show zI 0 = (0 : Int32) from rfl)]
      exact fin.mp (fun v hv => by cases v <;> exact hv)
    · rw [if_pos (by rw [zl_0, zI_inj (by omega) (by omega) (by omega) (by omega)]; exact q2)]
      exact fin.mp (fun v hv => by cases v <;> exact hv)
/-- the beginning of a text -/
def aI (B : Nat → Int) (L : Nat) (o : Int) : (Nat → Int) × (Nat → Int) := (fun j => if j = 3 then -1 else if j = 6 then (tkP B L 0 : Nat) else if j = 7 then (tkK B L 0 : Nat) else if j = 8 then (tkS B L 0 : Nat) else if j = 9 then o else 0, fun _ => 0)
def aH1 (B : Nat → Int) (L : Nat) (o : Int) : (Nat → Int) × (Nat → Int) := aW B L 0 (aI B L o)
def aHw (B : Nat → Int) (L : Nat) (o : Int) : Int := aN1 B 4 8 (aH1 B L o)
def aH2 (B : Nat → Int) (L : Nat) (o : Int) : (Nat → Int) × (Nat → Int) := aT B L (aN2 B 4 8 (aH1 B L o))
def aHh (B : Nat → Int) (L : Nat) (o : Int) : Int := aN1 B 4 8 (aH2 B L o)
def aH3 (B : Nat → Int) (L : Nat) (o : Int) : (Nat → Int) × (Nat → Int) := aT B L (aN2 B 4 8 (aH2 B L o))
def aH4 (B : Nat → Int) (L : Nat) (o : Int) : (Nat → Int) × (Nat → Int) := ((aM B L (aH3 B L o)).1, rbg (aHw B L o).toNat (aHh B L o).toNat)
def aZ (B : Nat → Int) (L : Nat) (o : Int) : (Nat → Int) × (Nat → Int) := aE L (aX B L (aHw B L o).toNat (aHh B L o).toNat (aH4 B L o) (nX B L (aHw B L o).toNat (aHh B L o).toNat (aH4 B L o)))
theorem aI_W {o : Int} : WA B L (aI B L o) := by
  obtain ⟨t1, t2, t3, t4, t5, t6⟩ := tk_f (B := B) (L := L) (p := 0) (Nat.zero_le _)
  unfold WA aI
  simp only [Nat.reduceEqDiff, if_true, if_false]
  refine ⟨by decide, by decide, by decide, by omega, by omega, fun h => ?_, fun h => ?_⟩
  · obtain ⟨a, b⟩ := t5 (by omega)
    exact ⟨by omega, fun i hi hi2 => b i (by omega) (by omega)⟩
  · have := t6 (by omega)
    omega
theorem aH_W {o : Int} : WA B L (aH1 B L o) ∧ WA B L (aH2 B L o) ∧ WA B L (aH3 B L o) ∧ XI B L (aH4 B L o) := by
  have h1 : WA B L (aH1 B L o) := aI_W.w
  have h2 : WA B L (aH2 B L o) := h1.nt
  have h3 : WA B L (aH3 B L o) := h2.nt
  refine ⟨h1, h2, h3, h3.mq, fun _ => ?_⟩
  have e1 : (aH1 B L o).1 4 = 0 := by
    unfold aH1 aW
    rw [aT_v.2.2.1]
    split
    · rfl
    · rw [aF_v.1 4 (by decide) (by decide)]; rfl
  have e2 : (aH2 B L o).1 4 = 0 := (aN_4 (lo := 4) (hi := 8)).trans e1
  have e3 : (aH3 B L o).1 4 = 0 := (aN_4 (lo := 4) (hi := 8)).trans e2
  have e4 : (aM B L (aH3 B L o)).1 4 = (aH3 B L o).1 4 := by
    unfold aM
    rw [aT_v.2.2.1]
    split
    · rfl
    · exact aF_v.1 4 (by decide) (by decide)
  show (aM B L (aH3 B L o)).1 4 ≤ 32
  omega
theorem aH_w {o : Int} : WH (aHw B L o).toNat (aHh B L o).toNat := by
  have h1 : 4 ≤ aHw B L o ∧ aHw B L o ≤ 8 := aN1_r (by omega)
  have h2 : 4 ≤ aHh B L o ∧ aHh B L o ≤ 8 := aN1_r (by omega)
  unfold WH
  omega
theorem c98 (hB : BT m B L) (hX : TX m) : An (d_98 21 42 m) (fun M => (∃ o, CG M (aZ B L o) (aHw B L o).toNat (aHh B L o).toNat) ∧ gt m M) := by
  obtain ⟨o, eo, -⟩ := zI_ex (m 21 8)
  have h600 := hB.1
  unfold d_98
  rw [wbs, wbs, wbs, wbs, wbs, show (-1 : Int32) = zI (-1) from by decide, zl_0]
  have f0 : ft m (wr (wr (wr (wr (wr m 21 2 (zI 0)) 21 3 (zI (-1))) 21 4 (zI 0)) 21 5 (zI 0)) 21 6 (zI 0)) := ((((ft.st (by decide)).tr (ft.st (by decide))).tr (ft.st (by decide))).tr (ft.st (by decide))).tr (ft.st (by decide))
  have e2 : ∀ j, wr (wr (wr (wr (wr m 21 2 (zI 0)) 21 3 (zI (-1))) 21 4 (zI 0)) 21 5 (zI 0)) 21 6 (zI 0) 21 j = if j = 6 then zI 0 else if j = 5 then zI 0 else if j = 4 then zI 0 else if j = 3 then zI (-1) else if j = 2 then zI 0 else m 21 j := fun j => by simp only [wr_at]
  generalize wr (wr (wr (wr (wr m 21 2 (zI 0)) 21 3 (zI (-1))) 21 4 (zI 0)) 21 5 (zI 0)) 21 6 (zI 0) = m0 at *
  refine (c111 (f0.bt hB) (p := 0) (by omega) (by rw [e2]; rfl)).bd (fun m1 ⟨t1, t2, t3, t4, t5⟩ => ?_)
  have f1 : ft m m1 := f0.tr ⟨t1.1 1 (by decide) (by decide) (by decide) (by decide), t1.2⟩
  have C1 : CT m1 (aI B L o) := fun j a b => by
    have : j = 2 ∨ j = 3 ∨ j = 4 ∨ j = 5 ∨ j = 6 ∨ j = 7 ∨ j = 8 ∨ j = 9 := by omega
    rcases this with rfl | rfl | rfl | rfl | rfl | rfl | rfl | rfl
    · rw [t1.1 2 (by decide) (by decide) (by decide) (by decide), e2]; rfl
    · rw [t1.1 3 (by decide) (by decide) (by decide) (by decide), e2]; rfl
    · rw [t1.1 4 (by decide) (by decide) (by decide) (by decide), e2]; rfl
    · rw [t1.1 5 (by decide) (by decide) (by decide) (by decide), e2]; rfl
    · exact t4
    · exact t5
    · exact t3
    · rw [t2, e2, eo]; rfl
  obtain ⟨W1, W2, W3, X4⟩ := aH_W (B := B) (L := L) (o := o)
  refine (c105 (f1.bt hB) (f1.tx hX) C1 aI_W (k := 0) (by decide)).bd (fun m2 ⟨a1, a2⟩ => ?_)
  have f2 := f1.tr a2
  change CT m2 (aH1 B L o) at a1
  rw [zl_4, zl_8]
  refine (c107 (f2.bt hB) a1 W1 (lo := 4) (hi := 8) (by omega) (by omega) (by omega)).bd (fun q3 ⟨b1, b2, b3⟩ => ?_)
  have f3 := f2.tr b3
  change q3.1 = zI (aHw B L o) at b1
  change CT q3.2 (aH2 B L o) at b2
  refine (c107 (f3.bt hB) b2 W2 (lo := 4) (hi := 8) (by omega) (by omega) (by omega)).bd (fun q4 ⟨d1, d2, d3⟩ => ?_)
  have f4 := f3.tr d3
  change q4.1 = zI (aHh B L o) at d1
  change CT q4.2 (aH3 B L o) at d2
  refine (c106 (f4.bt hB) d2 W3).bd (fun m5 ⟨i1, i2⟩ => ?_)
  have f5 := f4.tr i2
  have hw := aH_w (B := B) (L := L) (o := o)
  have r1 : 4 ≤ aHw B L o ∧ aHw B L o ≤ 8 := aN1_r (by omega)
  have r2 : 4 ≤ aHh B L o ∧ aHh B L o ≤ 8 := aN1_r (by omega)
  rw [b1, d1, show aHw B L o = ((aHw B L o).toNat : Nat) by omega, show aHh B L o = ((aHh B L o).toNat : Nat) by omega]
  refine (c48 gA_42 hw).bd (fun m6 ⟨k1, k2⟩ => ?_)
  have g6 : gt m m6 := f5.gt.tr ⟨by rw [k2 21 (by decide)], fun a ha hb => k2 a (by omega)⟩
  have C6 : CG m6 (aH4 B L o) (aHw B L o).toNat (aHh B L o).toNat := ⟨fun j a b => by rw [k2 21 (by decide)]; exact i1 j a b, k1, rbg_R hw⟩
  exact (g64 (g6.bt hB) (g6.tx hX) C6 X4).mp (fun M hM => ⟨⟨o, hM.1⟩, g6.tr hM.2⟩)
end TF
