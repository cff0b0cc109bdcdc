/-! A setup text read: what is done with tokens; the class. -/
section TB
variable {m M : Mm} {L : Nat} {B : Nat → Int} {A : (Nat → Int) × (Nat → Int)}
/-- the numbers of the reading: 2 the error, 3 where, 4 pieces, 5 what was told, 6 the place, 7 the token's kind, 8 its start, 9 the start of the one taken -/
def CT (m : Mm) (A : (Nat → Int) × (Nat → Int)) : Prop := ∀ j, 2 ≤ j → j ≤ 9 → m 21 j = zI (A.1 j)
def ft (m M : Mm) : Prop := M 21 1 = m 21 1 ∧ ∀ a, a ≠ 21 → M a = m a
theorem ft.rf (m : Mm) : ft m m := ⟨rfl, fun _ _ => rfl⟩
theorem ft.tr {m m1 m2 : Mm} (h : ft m m1) (k : ft m1 m2) : ft m m2 := ⟨k.1.trans h.1, fun a ha => (k.2 a ha).trans (h.2 a ha)⟩
theorem ft.bt (h : ft m M) (hB : BT m B L) : BT M B L := ⟨hB.1, by rw [h.1]; exact hB.2.1, fun i hi => by rw [h.2 22 (by decide)]; exact hB.2.2 i hi⟩
theorem ft.tx (h : ft m M) (hX : TX m) : TX M := hX.mm (fun a _ _ => h.2 a (by omega))
theorem CT.st (h : CT m A) {k : Nat} {v : Int} : CT (wr m 21 k (zI v)) (rs A.1 k v, A.2) := fun j a b => by
  show _ = zI (rs A.1 k v j)
  rw [wr_at]
  unfold rs
  by_cases e : j = k
  · rw [if_pos e, if_pos e]
  · rw [if_neg e, if_neg e]; exact h j a b
theorem ft.st {k : Nat} {v : Int32} (hk : k ≠ 1) : ft m (wr m 21 k v) := ⟨wr_nk (Ne.symm hk), fun a ha => wr_ne ha⟩
def aF (c o : Int) (A : (Nat → Int) × (Nat → Int)) : (Nat → Int) × (Nat → Int) := if A.1 2 = 0 then (rs (rs A.1 2 c) 3 o, A.2) else A
def aT (B : Nat → Int) (L : Nat) (A : (Nat → Int) × (Nat → Int)) : (Nat → Int) × (Nat → Int) := (rs (rs (rs (rs A.1 9 (A.1 8)) 8 (tkS B L (A.1 6).toNat : Nat)) 6 (tkP B L (A.1 6).toNat : Nat)) 7 (tkK B L (A.1 6).toNat : Nat), A.2)
/-- what is so of these numbers between two tokens -/
def WA (B : Nat → Int) (L : Nat) (A : (Nat → Int) × (Nat → Int)) : Prop := (0 ≤ A.1 2 ∧ A.1 2 ≤ 5) ∧ (0 ≤ A.1 4 ∧ A.1 4 ≤ 40) ∧ (0 ≤ A.1 5 ∧ A.1 5 < 64) ∧ (0 ≤ A.1 8 ∧ A.1 8 ≤ A.1 6 ∧ A.1 6 ≤ L) ∧ (0 ≤ A.1 7 ∧ A.1 7 ≤ 4) ∧ (A.1 7 = 2 → A.1 6 - A.1 8 ≤ 4 ∧ ∀ i : Nat, A.1 8 ≤ (i : Nat) → (i : Int) < A.1 6 → isD (B i) = true) ∧ (A.1 7 ≠ 0 → A.1 8 < A.1 6)
theorem tk_f {p : Nat} (hp : p ≤ L) : p ≤ tkS B L p ∧ tkS B L p ≤ tkP B L p ∧ tkP B L p ≤ L ∧ tkK B L p ≤ 4 ∧ (tkK B L p = 2 → tkP B L p - tkS B L p ≤ 4 ∧ ∀ i, tkS B L p ≤ i → i < tkP B L p → isD (B i) = true) ∧ (tkK B L p ≠ 0 → tkS B L p < tkP B L p) := by
  obtain ⟨n1, n2, -, -⟩ := nxt_f (B := B) (f := isS) hp
  change p ≤ tkS B L p at n1
  change tkS B L p ≤ L at n2
  obtain ⟨d1, d2, d3, d4⟩ := nxt_f (B := B) (f := isD) n2
  obtain ⟨l1, l2, l3, l4⟩ := nxt_f (B := B) (f := isL) n2
  unfold tkP tkK
  by_cases q : L ≤ tkS B L p
  · rw [if_pos q, if_pos q]
    exact ⟨n1, Nat.le_refl _, n2, by decide, fun h => absurd h (by decide), fun h => absurd rfl h⟩
  · rw [if_neg q, if_neg q]
    by_cases qL : isL (B (tkS B L p)) = true
    · rw [if_pos qL, if_pos qL]
      refine ⟨n1, l1, l2, by decide, fun h => absurd h (by decide), fun _ => ?_⟩
      rcases Nat.lt_or_eq_of_le l1 with h | h
      · exact h
      · have := l4 (by omega)
        rw [← h, qL] at this
        cases this
    · rw [if_neg qL, if_neg qL]
      by_cases qD : isD (B (tkS B L p)) = true
      · rw [if_pos qD, if_pos qD]
        refine ⟨n1, d1, d2, by split <;> decide, fun h => ?_, fun _ => ?_⟩
        · by_cases q4 : nxt isD B L (tkS B L p) - tkS B L p ≤ 4
          · exact ⟨q4, fun i a b => d3 i a b⟩
          · rw [if_neg q4] at h; cases h
        · rcases Nat.lt_or_eq_of_le d1 with h | h
          · exact h
          · have := d4 (by omega)
            rw [← h, qD] at this
            cases this
      · rw [if_neg qD, if_neg qD]
        refine ⟨n1, by omega, by omega, by split <;> decide, fun h => ?_, fun _ => by omega⟩
        split at h <;> cases h
theorem aT_v : (aT B L A).1 2 = A.1 2 ∧ (aT B L A).1 3 = A.1 3 ∧ (aT B L A).1 4 = A.1 4 ∧ (aT B L A).1 5 = A.1 5 ∧ (aT B L A).1 6 = (tkP B L (A.1 6).toNat : Nat) ∧ (aT B L A).1 7 = (tkK B L (A.1 6).toNat : Nat) ∧ (aT B L A).1 8 = (tkS B L (A.1 6).toNat : Nat) ∧ (aT B L A).1 9 = A.1 8 ∧ (aT B L A).2 = A.2 := by
  unfold aT rs
  exact ⟨rfl, rfl, rfl, rfl, rfl, rfl, rfl, rfl, rfl⟩
theorem WA.t (h : (0 ≤ A.1 2 ∧ A.1 2 ≤ 5) ∧ (0 ≤ A.1 4 ∧ A.1 4 ≤ 40) ∧ (0 ≤ A.1 5 ∧ A.1 5 < 64) ∧ 0 ≤ A.1 6 ∧ A.1 6 ≤ L) : WA B L (aT B L A) := by
  obtain ⟨h2, h4, h5, h6, h6'⟩ := h
  obtain ⟨v2, v3, v4, v5, v6, v7, v8, v9, -⟩ := aT_v (B := B) (L := L) (A := A)
  obtain ⟨t1, t2, t3, t4, t5, t6⟩ := tk_f (B := B) (L := L) (p := (A.1 6).toNat) (by omega)
  unfold WA
  rw [v2, v4, v5, v6, v7, v8]
  refine ⟨h2, h4, h5, by omega, by omega, fun h => ?_, fun h => ?_⟩
  · obtain ⟨a, b⟩ := t5 (by omega)
    exact ⟨by omega, fun i hi hi2 => b i (by omega) (by omega)⟩
  · have := t6 (by omega)
    omega
theorem WA.tt (h : WA B L A) : WA B L (aT B L A) := WA.t ⟨h.1, h.2.1, h.2.2.1, by have := h.2.2.2.1; omega, by have := h.2.2.2.1; omega⟩
theorem aF_v {c o : Int} : (∀ j, j ≠ 2 → j ≠ 3 → (aF c o A).1 j = A.1 j) ∧ (aF c o A).2 = A.2 ∧ (A.1 2 = 0 → (aF c o A).1 2 = c ∧ (aF c o A).1 3 = o) ∧ (A.1 2 ≠ 0 → aF c o A = A) := by
  unfold aF
  by_cases q : A.1 2 = 0
  · rw [if_pos q]
    exact ⟨fun j h2 h3 => by dsimp only; rw [rs_ne h3, rs_ne h2], rfl, fun _ => ⟨by dsimp only; rw [rs_ne (by decide), rs_eq], by dsimp only; rw [rs_eq]⟩, fun h => absurd q h⟩
  · rw [if_neg q]
    exact ⟨fun _ _ _ => rfl, rfl, fun h => absurd h q, fun _ => rfl⟩
theorem WA.f (h : WA B L A) {c o : Int} (hc : 0 ≤ c ∧ c ≤ 5) : WA B L (aF c o A) := by
  obtain ⟨f1, f2, f3, f4⟩ := aF_v (A := A) (c := c) (o := o)
  unfold WA
  rw [f1 4 (by decide) (by decide), f1 5 (by decide) (by decide), f1 6 (by decide) (by decide), f1 7 (by decide) (by decide), f1 8 (by decide) (by decide)]
  refine ⟨?_, h.2⟩
  by_cases q : A.1 2 = 0
  · rw [(f3 q).1]; exact hc
  · rw [f4 q]; exact h.1
theorem c110 (h : CT m A) {c o : Int} (h2 : 0 ≤ A.1 2 ∧ A.1 2 ≤ 5) : An (d_110 21 (zI c) (zI o) m) (fun M => CT M (aF c o A) ∧ ft m M) := by
  unfold d_110 aF
  rw [h 2 (by decide) (by decide)]
  by_cases q : A.1 2 = 0
  · rw [if_neg (by rw [q]; exact fun e => e rfl), if_pos q, wbs, wbs]
    exact An.so ⟨(h.st (k := 2) (v := c)).st, (ft.st (by decide)).tr (ft.st (by decide))⟩
  · rw [if_pos (by rw [zl_0, zI_inj (by omega) (by omega) (by omega) (by omega)]; exact q), if_neg q]
    exact An.so ⟨h, ft.rf m⟩
theorem c111a (hB : BT m B L) (h : CT m A) (h6 : 0 ≤ A.1 6 ∧ A.1 6 ≤ L) : An (d_111 21 m) (fun M => CT M (aT B L A) ∧ ft m M) := by
  have e6 : m 21 6 = zI ((A.1 6).toNat : Nat) := by rw [h 6 (by decide) (by decide)]; exact congrArg zI (by omega)
  refine (c111 hB (p := (A.1 6).toNat) (by omega) e6).mp (fun M ⟨t1, t2, t3, t4, t5⟩ => ⟨fun j a b => ?_, t1.1 1 (by decide) (by decide) (by decide) (by decide), t1.2⟩)
  obtain ⟨v2, v3, v4, v5, v6, v7, v8, v9, -⟩ := aT_v (B := B) (L := L) (A := A)
  have : j = 2 ∨ j = 3 ∨ j = 4 ∨ j = 5 ∨ j = 6 ∨ j = 7 ∨ j = 8 ∨ j = 9 := by omega
  rcases this with rfl | rfl | rfl | rfl | rfl | rfl | rfl | rfl
  · rw [v2, t1.1 2 (by decide) (by decide) (by decide) (by decide)]; exact h 2 (by decide) (by decide)
  · rw [v3, t1.1 3 (by decide) (by decide) (by decide) (by decide)]; exact h 3 (by decide) (by decide)
  · rw [v4, t1.1 4 (by decide) (by decide) (by decide) (by decide)]; exact h 4 (by decide) (by decide)
  · rw [v5, t1.1 5 (by decide) (by decide) (by decide) (by decide)]; exact h 5 (by decide) (by decide)
  · rw [v6]; exact t4
  · rw [v7]; exact t5
  · rw [v8]; exact t3
  · rw [v9, t2]; exact h 8 (by decide) (by decide)
/-- a word -/
def isw (B : Nat → Int) (k : Nat) (A : (Nat → Int) × (Nat → Int)) : Bool := decide (A.1 7 = 1 ∧ A.1 6 - A.1 8 = ((ev_tb k).length : Nat) ∧ ff (fun i => !(decide (zI (B ((A.1 8).toNat + i)) = (ev_tb k).getD i 0))) (ev_tb k).length = (ev_tb k).length)
theorem n_tx : ∀ k, k < 17 → sh_n (3 + k) = (ev_tb k).length ∧ (ev_tb k).length ≤ 100 := by decide +kernel
theorem c109 (hB : BT m B L) (hX : TX m) (h : CT m A) (hW : WA B L A) {k : Nat} (hk : k < 17) : d_109 21 (3 + k) m = some (isw B k A) := by
  obtain ⟨w2, w4, w5, w6, w7, w8, w9⟩ := hW
  have h600 := hB.1
  obtain ⟨n1, n2⟩ := n_tx k hk
  unfold d_109 isw
  rw [h 7 (by decide) (by decide), h 6 (by decide) (by decide), h 8 (by decide) (by decide), n1, zI_on, zI_sub]
  by_cases q7 : A.1 7 = 1
  · rw [if_neg (by rw [q7]; exact fun e => e rfl)]
    by_cases ql : A.1 6 - A.1 8 = ((ev_tb k).length : Nat)
    · rw [if_pos (by rw [ql])]
      have key := it_ff (F := fun s => s_109_28 21 (3 + k) m s) (fun i => zI (i : Nat)) (fun i => !(decide (zI (B ((A.1 8).toNat + i)) = (ev_tb k).getD i 0))) (fun _ => false) true (ev_tb k).length (fun i hi hp => ?_) (fun i hi hp => ?_) ?_
      · show it (fun s => s_109_28 21 (3 + k) m s) (zI ((0 : Nat) : Int)) = _
        refine key.trans ?_
        have le := ff_le (fun i => !(decide (zI (B ((A.1 8).toNat + i)) = (ev_tb k).getD i 0))) (ev_tb k).length
        by_cases q : ff (fun i => !(decide (zI (B ((A.1 8).toNat + i)) = (ev_tb k).getD i 0))) (ev_tb k).length < (ev_tb k).length
        · rw [if_pos q, decide_eq_false (fun e => by omega)]
        · rw [if_neg q, decide_eq_true ⟨q7, ql, by omega⟩]
      · have e1 : d_112 21 (m 21 8 + zI (i : Nat)) m = some (zI (B ((A.1 8).toNat + i))) := by
          rw [h 8 (by decide) (by decide), zI_add, show A.1 8 + (i : Nat) = (((A.1 8).toNat + i : Nat) : Int) by omega, c112 hB (by omega), if_pos (by omega)]
        unfold s_109_28
        rw [n1, zI_on, if_neg (by rw [zI_le (by omega) (by omega) (by omega) (by omega)]; omega), e1]
        simp only [obs]
        rw [if_pos (in_k hi (by omega)), z_ix (by omega), hX k hk i hi, if_pos (by simpa using hp), wbs, zl_1, zI_add]
        rfl
      · have e1 : d_112 21 (m 21 8 + zI (i : Nat)) m = some (zI (B ((A.1 8).toNat + i))) := by
          rw [h 8 (by decide) (by decide), zI_add, show A.1 8 + (i : Nat) = (((A.1 8).toNat + i : Nat) : Int) by omega, c112 hB (by omega), if_pos (by omega)]
        unfold s_109_28
        rw [n1, zI_on, if_neg (by rw [zI_le (by omega) (by omega) (by omega) (by omega)]; omega), e1]
        simp only [obs]
        rw [if_pos (in_k hi (by omega)), z_ix (by omega), hX k hk i hi, if_neg (by simpa using hp)]
      · unfold s_109_28
        rw [n1, zI_on, if_pos (by rw [zI_le (by omega) (by omega) (by omega) (by omega)]; omega)]
    · rw [if_neg (by rw [zI_inj (by omega) (by omega) (by omega) (by omega)]; exact ql), decide_eq_false (fun e => ql e.2.1)]
  · rw [if_pos (by rw [zl_1, zI_inj (by omega) (by omega) (by omega) (by omega)]; exact q7), decide_eq_false (fun e => q7 e.1)]
/-- a number -/
def nv (B : Nat → Int) (s : Nat) : Nat → Int
  | 0 => 0
  | k + 1 => 10 * nv B s k + B (s + k) - 48
theorem nv_r {s : Nat} : ∀ {k : Nat}, (∀ i, i < k → isD (B (s + i)) = true) → k ≤ 4 → 0 ≤ nv B s k ∧ nv B s k < 10 ^ k
  | 0, _, _ => ⟨Int.le_refl _, by show (0 : Int) < 10 ^ 0; decide⟩
  | k + 1, h, hk => by
    obtain ⟨a, b⟩ := nv_r (s := s) (k := k) (fun i hi => h i (by omega)) (by omega)
    have d := h k (by omega)
    unfold isD at d
    have d := of_decide_eq_true d
    unfold nv
    have : k = 0 ∨ k = 1 ∨ k = 2 ∨ k = 3 := by omega
    rcases this with rfl | rfl | rfl | rfl <;> simp only [Nat.reduceAdd, Int.reducePow] at b ⊢ <;> constructor <;> omega
def nvA (B : Nat → Int) (A : (Nat → Int) × (Nat → Int)) : Int := nv B (A.1 8).toNat (A.1 6 - A.1 8).toNat
theorem nvA_r (hW : WA B L A) (h7 : A.1 7 = 2) : 0 ≤ nvA B A ∧ nvA B A ≤ 9999 := by
  obtain ⟨-, -, -, w6, -, w8, -⟩ := hW
  obtain ⟨a, b⟩ := w8 h7
  have k := nv_r (B := B) (s := (A.1 8).toNat) (k := (A.1 6 - A.1 8).toNat) (fun i hi => b _ (by omega) (by omega)) (by omega)
  unfold nvA
  have p : (10 : Int) ^ (A.1 6 - A.1 8).toNat ≤ 10000 := by
    have : (A.1 6 - A.1 8).toNat = 0 ∨ (A.1 6 - A.1 8).toNat = 1 ∨ (A.1 6 - A.1 8).toNat = 2 ∨ (A.1 6 - A.1 8).toNat = 3 ∨ (A.1 6 - A.1 8).toNat = 4 := by omega
    rcases this with e | e | e | e | e <;> rw [e] <;> decide
  omega
theorem c108 (hB : BT m B L) (h : CT m A) (hW : WA B L A) (h7 : A.1 7 = 2) : d_108 21 m = some (zI (nvA B A)) := by
  obtain ⟨-, -, -, w6, -, w8, -⟩ := hW
  obtain ⟨a, b⟩ := w8 h7
  have h600 := hB.1
  unfold d_108 d_108_7 nvA
  rw [h 8 (by decide) (by decide), zl_0]
  have e8 : A.1 8 = (((A.1 8).toNat : Nat) : Int) := by omega
  have key := it_row (f := fun u => s_108_7 21 m u.1 u.2) (fun k => (zI (nv B (A.1 8).toNat k), zI (((A.1 8).toNat + k : Nat) : Int))) (zI (nv B (A.1 8).toNat (A.1 6 - A.1 8).toNat)) (A.1 6 - A.1 8).toNat (fun k hk => ?_) ?_
  · rw [show zI (A.1 8) = zI ((((A.1 8).toNat + 0 : Nat)) : Int) by rw [Nat.add_zero, ← e8]]
    exact key
  · dsimp only
    unfold s_108_7
    rw [h 6 (by decide) (by decide), if_neg (by rw [zI_le (by omega) (by omega) (by omega) (by omega)]; omega), c112 hB (by omega), if_pos (by omega)]
    simp only [obs]
    rw [show (10 : Int32) = zI 10 from rfl, zl_48, zI_mul, zI_add, zI_sub, wbs, wbs, zl_1, zI_add]
    rfl
  · dsimp only
    unfold s_108_7
    rw [h 6 (by decide) (by decide), if_pos (by rw [zI_le (by omega) (by omega) (by omega) (by omega)]; omega)]
/-- a number taken: the number, the state behind -/
def aN1 (B : Nat → Int) (lo hi : Int) (A : (Nat → Int) × (Nat → Int)) : Int := if A.1 7 = 2 then (if lo ≤ nvA B A ∧ nvA B A ≤ hi then nvA B A else lo) else lo
def aN2 (B : Nat → Int) (lo hi : Int) (A : (Nat → Int) × (Nat → Int)) : (Nat → Int) × (Nat → Int) := if A.1 7 = 2 then (if lo ≤ nvA B A ∧ nvA B A ≤ hi then A else aF 2 (A.1 8) A) else aF 1 (A.1 8) A
theorem aN1_r {lo hi : Int} (h : lo ≤ hi) : lo ≤ aN1 B lo hi A ∧ aN1 B lo hi A ≤ hi := by
  unfold aN1
  split
  · split
    · assumption
    · omega
  · omega
theorem aN2_v {lo hi : Int} : (∀ j, j ≠ 2 → j ≠ 3 → (aN2 B lo hi A).1 j = A.1 j) ∧ (aN2 B lo hi A).2 = A.2 := by
  unfold aN2
  split
  · split
    · exact ⟨fun _ _ _ => rfl, rfl⟩
    · exact ⟨aF_v.1, aF_v.2.1⟩
  · exact ⟨aF_v.1, aF_v.2.1⟩
theorem WA.n (h : WA B L A) {lo hi : Int} : WA B L (aN2 B lo hi A) := by
  unfold aN2
  split
  · split
    · exact h
    · exact h.f (by decide)
  · exact h.f (by decide)
theorem c107 (hB : BT m B L) (h : CT m A) (hW : WA B L A) {lo hi : Int} (h0 : 0 ≤ lo) (h1 : lo ≤ hi) (h2 : hi ≤ 9999) :
    An (d_107 21 (zI lo) (zI hi) m) (fun q => q.1 = zI (aN1 B lo hi A) ∧ CT q.2 (aT B L (aN2 B lo hi A)) ∧ ft m q.2) := by
  have hW' := hW
  obtain ⟨w2, w4, w5, w6, w7, w8, w9⟩ := hW
  have e8 : m 21 8 = zI (A.1 8) := h 8 (by decide) (by decide)
  have tail : ∀ (v : Int) (M : Mm) (A' : (Nat → Int) × (Nat → Int)), CT M A' → ft m M → (0 ≤ A'.1 6 ∧ A'.1 6 ≤ L) → An (d_107_48 21 (zI v) M) (fun q => q.1 = zI v ∧ CT q.2 (aT B L A') ∧ ft m q.2) := fun v M A' hM hf h6 => by
    unfold d_107_48
    exact (c111a (hf.bt hB) hM h6).bd (fun M2 h2 => An.so ⟨rfl, h2.1, hf.tr h2.2⟩)
  unfold d_107 d_107_27 d_107_37 aN1 aN2
  rw [h 7 (by decide) (by decide)]
  by_cases q7 : A.1 7 = 2
  · have nr := nvA_r hW' q7
    rw [if_pos (by rw [q7]; rfl), c108 hB h hW' q7]
    simp only [obs, if_pos q7]
    by_cases ql : lo ≤ nvA B A ∧ nvA B A ≤ hi
    · rw [if_neg (by rw [zI_lt (by omega) (by omega) (by omega) (by omega)]; omega), if_pos (by rw [zI_le (by omega) (by omega) (by omega) (by omega)]; omega)]
      simp only [if_pos ql]
      exact tail _ m A h (ft.rf m) (by omega)
    · simp only [if_neg ql]
      have bad : An ((d_110 21 2 (m 21 8) m).bind fun m2 => d_107_48 21 (zI lo) m2) (fun q => q.1 = zI lo ∧ CT q.2 (aT B L (aF 2 (A.1 8) A)) ∧ ft m q.2) := by
        rw [e8, zl_2]
        refine (c110 h w2).bd (fun M hM => ?_)
        exact tail lo M _ hM.1 hM.2 (by rw [aF_v.1 6 (by decide) (by decide)]; omega)
      by_cases qa : nvA B A < lo
      · rw [if_pos (by rw [zI_lt (by omega) (by omega) (by omega) (by omega)]; exact qa)]
        exact bad
      · rw [if_neg (by rw [zI_lt (by omega) (by omega) (by omega) (by omega)]; exact qa), if_neg (by rw [zI_le (by omega) (by omega) (by omega) (by omega)]; omega)]
        exact bad
  · rw [if_neg (by rw [zl_2, zI_inj (by omega) (by omega) (by omega) (by omega)]; exact q7), e8]
    simp only [if_neg q7]
    rw [zl_1]
    refine (c110 h w2).bd (fun M hM => ?_)
    rw [if_neg (by rw [zI_lt (by omega) (by omega) (by omega) (by omega)]; omega), if_pos (by rw [zI_le (by omega) (by omega) (by omega) (by omega)]; omega)]
    exact tail lo M _ hM.1 hM.2 (by rw [aF_v.1 6 (by decide) (by decide)]; omega)
/-- a semicolon taken -/
def aM (B : Nat → Int) (L : Nat) (A : (Nat → Int) × (Nat → Int)) : (Nat → Int) × (Nat → Int) := aT B L (if A.1 7 = 3 then A else aF 1 (A.1 8) A)
theorem c106 (hB : BT m B L) (h : CT m A) (hW : WA B L A) : An (d_106 21 m) (fun M => CT M (aM B L A) ∧ ft m M) := by
  obtain ⟨w2, w4, w5, w6, w7, w8, w9⟩ := hW
  unfold d_106 d_106_17 aM
  rw [h 7 (by decide) (by decide)]
  by_cases q : A.1 7 = 3
  · rw [if_pos (by rw [q]; rfl), if_pos q]
    exact (c111a hB h (by omega)).bd (fun M2 h2 => An.so h2)
  · rw [if_neg (by rw [zl_3, zI_inj (by omega) (by omega) (by omega) (by omega)]; exact q), if_neg q, h 8 (by decide) (by decide), zl_1]
    refine (c110 h w2).bd (fun M hM => ?_)
    exact (c111a (hM.2.bt hB) hM.1 (by rw [aF_v.1 6 (by decide) (by decide)]; omega)).bd (fun M2 h2 => An.so ⟨h2.1, hM.2.tr h2.2⟩)
/-- a word taken -/
def aW (B : Nat → Int) (L k : Nat) (A : (Nat → Int) × (Nat → Int)) : (Nat → Int) × (Nat → Int) := aT B L (if isw B k A = true then A else aF 1 (A.1 8) A)
theorem c105 (hB : BT m B L) (hX : TX m) (h : CT m A) (hW : WA B L A) {k : Nat} (hk : k < 17) : An (d_105 21 (3 + k) m) (fun M => CT M (aW B L k A) ∧ ft m M) := by
  have hW' := hW
  obtain ⟨w2, w4, w5, w6, w7, w8, w9⟩ := hW
  unfold d_105 d_105_17 aW
  rw [c109 hB hX h hW' hk]
  simp only [obs]
  by_cases q : isw B k A = true
  · rw [if_pos q, if_pos q]
    exact (c111a hB h (by omega)).bd (fun M2 h2 => An.so h2)
  · rw [if_neg q, if_neg q, h 8 (by decide) (by decide), zl_1]
    refine (c110 h w2).bd (fun M hM => ?_)
    exact (c111a (hM.2.bt hB) hM.1 (by rw [aF_v.1 6 (by decide) (by decide)]; omega)).bd (fun M2 h2 => An.so ⟨h2.1, hM.2.tr h2.2⟩)
/-- what may be told but once: bit i -/
def aO1 (i : Nat) (A : (Nat → Int) × (Nat → Int)) : (Nat → Int) × (Nat → Int) := (fun A1 : (Nat → Int) × (Nat → Int) => (rs A1.1 5 (((A1.1 5).toNat ||| 2 ^ i : Nat) : Int), A1.2)) (if (A.1 5).toNat.testBit i = true then aF 3 (A.1 8) A else A)
def aO (B : Nat → Int) (L i : Nat) (A : (Nat → Int) × (Nat → Int)) : (Nat → Int) × (Nat → Int) := aT B L (aO1 i A)
theorem bit1 : ∀ T, T < 64 → ∀ i, i < 6 → ((zI (T : Nat) &&& zI ((2 ^ i : Nat) : Int) = 0 ↔ T.testBit i = false) ∧ zI (T : Nat) ||| zI ((2 ^ i : Nat) : Int) = zI ((T ||| 2 ^ i : Nat) : Int) ∧ T ||| 2 ^ i < 64) := by decide +kernel
theorem aO1_v {i : Nat} : (∀ j, j ≠ 2 → j ≠ 3 → j ≠ 5 → (aO1 i A).1 j = A.1 j) ∧ (aO1 i A).2 = A.2 ∧ (aO1 i A).1 5 = (((A.1 5).toNat ||| 2 ^ i : Nat) : Int) := by
  unfold aO1
  by_cases q : (A.1 5).toNat.testBit i = true
  · rw [if_pos q]
    obtain ⟨f1, f2, -, -⟩ := aF_v (A := A) (c := 3) (o := A.1 8)
    exact ⟨fun j a b c => by dsimp only; rw [rs_ne c, f1 j a b], f2, by dsimp only; rw [rs_eq, f1 5 (by decide) (by decide)]⟩
  · rw [if_neg q]
    exact ⟨fun j a b c => by dsimp only; rw [rs_ne c], rfl, by dsimp only; rw [rs_eq]⟩
theorem WA.o1 (h : WA B L A) {i : Nat} (hi : i < 6) : WA B L (aO1 i A) := by
  obtain ⟨v1, v2, v3⟩ := aO1_v (A := A) (i := i)
  have w5 := h.2.2.1
  have b := (bit1 (A.1 5).toNat (by omega) i hi).2.2
  unfold WA
  rw [v1 4 (by decide) (by decide) (by decide), v3, v1 6 (by decide) (by decide) (by decide), v1 7 (by decide) (by decide) (by decide), v1 8 (by decide) (by decide) (by decide)]
  refine ⟨?_, h.2.1, by omega, h.2.2.2⟩
  unfold aO1
  by_cases q : (A.1 5).toNat.testBit i = true
  · rw [if_pos q]
    dsimp only
    rw [rs_ne (by decide)]
    exact (h.f (c := 3) (o := A.1 8) (by decide)).1
  · rw [if_neg q]
    dsimp only
    rw [rs_ne (by decide)]
    exact h.1
theorem c104 (hB : BT m B L) (h : CT m A) (hW : WA B L A) {i : Nat} (hi : i < 6) : An (d_104 21 (zI ((2 ^ i : Nat) : Int)) m) (fun M => CT M (aO B L i A) ∧ ft m M) := by
  have hW' := hW
  obtain ⟨w2, w4, w5, w6, w7, w8, w9⟩ := hW
  obtain ⟨b1, b2, b3⟩ := bit1 (A.1 5).toNat (by omega) i hi
  have e5 : zI (A.1 5) = zI (((A.1 5).toNat : Nat) : Int) := congrArg zI (by omega)
  have tail : ∀ (M : Mm) (A' : (Nat → Int) × (Nat → Int)), CT M A' → ft m M → A'.1 5 = A.1 5 → A'.1 6 = A.1 6 → An (d_104_18 21 (zI ((2 ^ i : Nat) : Int)) M) (fun M => CT M (aT B L (rs A'.1 5 (((A'.1 5).toNat ||| 2 ^ i : Nat) : Int), A'.2)) ∧ ft m M) := fun M A' hM hf h5 h6 => by
    unfold d_104_18
    rw [hM 5 (by decide) (by decide), h5, e5, b2, wbs]
    have f2 : ft M (wr M 21 5 (zI (((A.1 5).toNat ||| 2 ^ i : Nat) : Int))) := ft.st (by decide)
    have hs : CT (wr M 21 5 (zI (((A.1 5).toNat ||| 2 ^ i : Nat) : Int))) (rs A'.1 5 (((A.1 5).toNat ||| 2 ^ i : Nat) : Int), A'.2) := hM.st
    exact (c111a ((hf.tr f2).bt hB) hs (by dsimp only; rw [rs_ne (by decide), h6]; omega)).bd (fun M2 h2 => An.so ⟨h2.1, (hf.tr f2).tr h2.2⟩)
  unfold d_104 aO aO1
  rw [h 5 (by decide) (by decide), e5]
  by_cases q : (A.1 5).toNat.testBit i = true
  · rw [if_neg (fun z => by rw [b1.mp z] at q; cases q), if_pos q, h 8 (by decide) (by decide), zl_3]
    refine (c110 h w2).bd (fun M hM => ?_)
    exact tail M _ hM.1 hM.2 (aF_v.1 5 (by decide) (by decide)) (aF_v.1 6 (by decide) (by decide))
  · rw [if_pos (b1.mpr (Bool.eq_false_iff.mpr q)), if_neg q]
    exact tail m A h (ft.rf m) rfl rfl
end TB
