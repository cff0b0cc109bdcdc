/-! A setup text: its tokens, as the class takes them. -/
section TA
variable {m : Mm} {L : Nat} {B : Nat → Int}
def isL (b : Int) : Bool := decide (97 ≤ b ∧ b ≤ 122)
def isD (b : Int) : Bool := decide (48 ≤ b ∧ b ≤ 57)
def isS (b : Int) : Bool := decide (b = 32 ∨ b = 10)
/-- from p on, the first place at which it isn't so any more -/
def nxt (f : Int → Bool) (B : Nat → Int) (L p : Nat) : Nat := p + ff (fun k => !(f (B (p + k)))) (L - p)
theorem nxt_f {f : Int → Bool} {p : Nat} (hp : p ≤ L) : p ≤ nxt f B L p ∧ nxt f B L p ≤ L ∧ (∀ i, p ≤ i → i < nxt f B L p → f (B i) = true) ∧ (nxt f B L p < L → f (B (nxt f B L p)) = false) := by
  unfold nxt
  have h1 := ff_le (fun k => !(f (B (p + k)))) (L - p)
  refine ⟨by omega, by omega, fun i a b => ?_, fun h => ?_⟩
  · have := ff_lt (p := fun k => !(f (B (p + k)))) (n := L - p) (k := i - p) (by omega)
    rw [show p + (i - p) = i by omega] at this
    simpa using this
  · have := ff_at (p := fun k => !(f (B (p + k)))) (n := L - p) (by omega)
    simpa using this
def tkS (B : Nat → Int) (L p : Nat) : Nat := nxt isS B L p
def tkP (B : Nat → Int) (L p : Nat) : Nat := if L ≤ tkS B L p then tkS B L p else if isL (B (tkS B L p)) = true then nxt isL B L (tkS B L p) else if isD (B (tkS B L p)) = true then nxt isD B L (tkS B L p) else tkS B L p + 1
def tkK (B : Nat → Int) (L p : Nat) : Nat := if L ≤ tkS B L p then 0 else if isL (B (tkS B L p)) = true then 1 else if isD (B (tkS B L p)) = true then (if nxt isD B L (tkS B L p) - tkS B L p ≤ 4 then 2 else 4) else if B (tkS B L p) = 59 then 3 else 4
/-- the bytes of the text -/
def BT (m : Mm) (B : Nat → Int) (L : Nat) : Prop := L ≤ 600 ∧ m 21 1 = zI (L : Nat) ∧ ∀ i, i < L → (-128 ≤ B i ∧ B i ≤ 127) ∧ m 22 i = zI (B i)
theorem c112 (h : BT m B L) {i : Nat} (hi : i ≤ 1000) : d_112 21 (zI (i : Nat)) m = some (zI (if i < L then B i else -1)) := by
  obtain ⟨h0, h1, h2⟩ := h
  unfold d_112
  rw [if_neg (by rw [zl_0, zI_lt (by omega) (by omega) (by omega) (by omega)]; omega), h1]
  by_cases q : i < L
  · rw [if_neg (by rw [zI_le (by omega) (by omega) (by omega) (by omega)]; omega), if_neg (by rw [zl_600, zI_le (by omega) (by omega) (by omega) (by omega)]; omega), b_r0, b_n, if_pos (in_k (by omega) (by decide)), z_ix (by omega), (h2 i q).2, if_pos q]
  · rw [if_pos (by rw [zI_le (by omega) (by omega) (by omega) (by omega)]; omega), if_neg q, show (-1 : Int32) = zI (-1) from by decide]
theorem c113 {b : Int} (h1 : -128 ≤ b) (h2 : b ≤ 127) : d_113 (zI b) = some (isL b) := by
  unfold d_113 isL
  rw [zl_97, zl_122]
  by_cases q : b < 97
  · rw [if_pos (by rw [zI_lt (by omega) (by omega) (by omega) (by omega)]; exact q), decide_eq_false (by omega)]
  · rw [if_neg (by rw [zI_lt (by omega) (by omega) (by omega) (by omega)]; exact q)]
    by_cases q2 : 122 < b
    · rw [if_pos (by rw [zI_lt (by omega) (by omega) (by omega) (by omega)]; exact q2), decide_eq_false (by omega)]
    · rw [if_neg (by rw [zI_lt (by omega) (by omega) (by omega) (by omega)]; exact q2), decide_eq_true (by omega)]
theorem c114 {b : Int} (h1 : -128 ≤ b) (h2 : b ≤ 127) : d_114 (zI b) = some (isD b) := by
  unfold d_114 isD
  rw [zl_48, zl_57]
  by_cases q : b < 48
  · rw [if_pos (by rw [zI_lt (by omega) (by omega) (by omega) (by omega)]; exact q), decide_eq_false (by omega)]
  · rw [if_neg (by rw [zI_lt (by omega) (by omega) (by omega) (by omega)]; exact q)]
    by_cases q2 : 57 < b
    · rw [if_pos (by rw [zI_lt (by omega) (by omega) (by omega) (by omega)]; exact q2), decide_eq_false (by omega)]
    · rw [if_neg (by rw [zI_lt (by omega) (by omega) (by omega) (by omega)]; exact q2), decide_eq_true (by omega)]
/-- nothing but the token's numbers changed -/
def t6 (m M : Mm) : Prop := (∀ j, j ≠ 6 → j ≠ 7 → j ≠ 8 → j ≠ 9 → M 21 j = m 21 j) ∧ ∀ a, a ≠ 21 → M a = m a
theorem t6.rf (m : Mm) : t6 m m := ⟨fun _ _ _ _ _ => rfl, fun _ _ => rfl⟩
theorem t6.wr {M : Mm} (h : t6 m M) {k : Nat} {v : Int32} (hk : k = 6 ∨ k = 7 ∨ k = 8 ∨ k = 9) : t6 m (wr M 21 k v) :=
  ⟨fun j a b c d => by rw [wr_nk (by omega)]; exact h.1 j a b c d, fun a ha => by rw [wr_ne ha]; exact h.2 a ha⟩
theorem BT.t (h : BT m B L) {M : Mm} (q : t6 m M) : BT M B L := ⟨h.1, by rw [q.1 1 (by decide) (by decide) (by decide) (by decide)]; exact h.2.1, fun i hi => by rw [q.2 22 (by decide)]; exact h.2.2 i hi⟩
theorem c111_58 (h : BT m B L) {p : Nat} (hp : p ≤ L) {M : Mm} (hM : t6 m M) (e6 : M 21 6 = zI (p : Nat)) (e9 : M 21 9 = m 21 8) :
    An (d_111_58 21 M) (fun M' => t6 m M' ∧ M' 21 9 = m 21 8 ∧ M' 21 8 = zI (p : Nat) ∧ M' 21 6 = zI ((if L ≤ p then p else if isL (B p) = true then nxt isL B L p else if isD (B p) = true then nxt isD B L p else p + 1 : Nat) : Int) ∧ M' 21 7 = zI ((if L ≤ p then 0 else if isL (B p) = true then 1 else if isD (B p) = true then (if nxt isD B L p - p ≤ 4 then 2 else 4) else if B p = 59 then 3 else 4 : Nat) : Int)) := by
  have hB := h.t hM
  obtain ⟨h600, -, -⟩ := h
  obtain ⟨-, l1, l2⟩ := hB
  unfold d_111_58
  rw [wbs, e6]
  have hM1 : t6 m (wr M 21 8 (zI (p : Nat))) := hM.wr (by decide)
  have a6 : wr M 21 8 (zI (p : Nat)) 21 6 = zI (p : Nat) := by rw [wr_nk (by decide)]; exact e6
  have a8 : wr M 21 8 (zI (p : Nat)) 21 8 = zI (p : Nat) := wr_eq
  have a9 : wr M 21 8 (zI (p : Nat)) 21 9 = m 21 8 := by rw [wr_nk (by decide)]; exact e9
  have hB1 : BT (wr M 21 8 (zI (p : Nat))) B L := ⟨h600, by rw [wr_nk (by decide)]; exact l1, fun i hi => by rw [wr_ne (by decide)]; exact l2 i hi⟩
  generalize wr M 21 8 (zI (p : Nat)) = M1 at *
  rw [a6, hB1.2.1]
  by_cases q : p < L
  · obtain ⟨bp, -⟩ := l2 p q
    rw [if_pos (by rw [zI_lt (by omega) (by omega) (by omega) (by omega)]; omega), c112 hB1 (by omega), if_pos q]
    simp only [obs]
    rw [c113 bp.1 bp.2]
    simp only [obs]
    simp only [if_neg (show ¬ L ≤ p by omega)]
    by_cases qL : isL (B p) = true
    · simp only [if_pos qL]
      obtain ⟨n1, n2, n3, n4⟩ := nxt_f (B := B) (f := isL) hp
      rw [wbs]
      unfold d_111_104
      refine it_inv (fun j (u : Mm) => t6 m u ∧ u 21 9 = m 21 8 ∧ u 21 8 = zI (p : Nat) ∧ u 21 6 = zI ((p + j : Nat) : Int) ∧ u 21 7 = zI ((1 : Nat) : Int)) _ (nxt isL B L p - p) ⟨hM1.wr (by decide), by rw [wr_nk (by decide)]; exact a9, by rw [wr_nk (by decide)]; exact a8, by rw [wr_nk (by decide)]; exact a6, wr_eq⟩ (fun j hj u hu => ?_) (fun u hu => ?_)
      · obtain ⟨u1, u2, u3, u4, u5⟩ := hu
        have hBu : BT u B L := ⟨h600, by rw [u1.1 1 (by decide) (by decide) (by decide) (by decide), ← hM.1 1 (by decide) (by decide) (by decide) (by decide)]; exact l1, fun i hi => by rw [u1.2 22 (by decide), ← hM.2 22 (by decide)]; exact l2 i hi⟩
        obtain ⟨bj, -⟩ := l2 (p + j) (by omega)
        show An (s_111_104 21 u) _
        unfold s_111_104
        rw [hBu.2.1, u4, if_neg (by rw [zI_le (by omega) (by omega) (by omega) (by omega)]; omega), c112 hBu (by omega), if_pos (show p + j < L by omega)]
        simp only [obs]
        rw [c113 bj.1 bj.2, n3 (p + j) (by omega) (by omega)]
        simp only [obs, ift]
        rw [wbs, zl_1, zI_add]
        exact An.so ⟨u1.wr (by decide), by rw [wr_nk (by decide)]; exact u2, by rw [wr_nk (by decide)]; exact u3, by rw [wr_eq]; exact congrArg zI (by omega), by rw [wr_nk (by decide)]; exact u5⟩
      · obtain ⟨u1, u2, u3, u4, u5⟩ := hu
        have hBu : BT u B L := ⟨h600, by rw [u1.1 1 (by decide) (by decide) (by decide) (by decide), ← hM.1 1 (by decide) (by decide) (by decide) (by decide)]; exact l1, fun i hi => by rw [u1.2 22 (by decide), ← hM.2 22 (by decide)]; exact l2 i hi⟩
        rw [show p + (nxt isL B L p - p) = nxt isL B L p by omega] at u4
        show An (s_111_104 21 u) _
        unfold s_111_104
        rw [hBu.2.1, u4]
        by_cases qe : nxt isL B L p < L
        · obtain ⟨bj, -⟩ := l2 _ qe
          rw [if_neg (by rw [zI_le (by omega) (by omega) (by omega) (by omega)]; omega), c112 hBu (by omega), if_pos qe]
          simp only [obs]
          rw [c113 bj.1 bj.2, n4 qe]
          simp only [obs, ifn, Bool.false_eq_true]
          exact An.so ⟨u1, u2, u3, u4, u5⟩
        · rw [if_pos (by rw [zI_le (by omega) (by omega) (by omega) (by omega)]; omega)]
          exact An.so ⟨u1, u2, u3, u4, u5⟩
    · rw [if_neg qL, c114 bp.1 bp.2]
      simp only [obs, if_neg qL]
      by_cases qD : isD (B p) = true
      · simp only [if_pos qD]
        obtain ⟨n1, n2, n3, n4⟩ := nxt_f (B := B) (f := isD) hp
        unfold d_111_156
        have fin : ∀ u : Mm, t6 m u → u 21 9 = m 21 8 → u 21 8 = zI (p : Nat) → u 21 6 = zI (nxt isD B L p : Nat) → An ((d_111_194 21 u).map (Sum.inr (α := Mm))) (fun r => match r with | .inl _ => False | .inr M' => t6 m M' ∧ M' 21 9 = m 21 8 ∧ M' 21 8 = zI (p : Nat) ∧ M' 21 6 = zI ((nxt isD B L p : Nat) : Int) ∧ M' 21 7 = zI ((if nxt isD B L p - p ≤ 4 then 2 else 4 : Nat) : Int)) := fun u u1 u2 u3 u4 => by
          unfold d_111_194 d_111_213
          rw [u4, u3, zI_sub, zl_4]
          by_cases q4 : nxt isD B L p - p ≤ 4
          · rw [if_pos (by rw [zI_le (by omega) (by omega) (by omega) (by omega)]; omega), if_pos q4, wbs]
            exact An.mo (An.so ⟨u1.wr (by decide), by rw [wr_nk (by decide)]; exact u2, by rw [wr_nk (by decide)]; exact u3, by rw [wr_nk (by decide)]; exact u4, wr_eq⟩)
          · rw [if_neg (by rw [zI_le (by omega) (by omega) (by omega) (by omega)]; omega), if_neg q4, wbs]
            exact An.mo (An.so ⟨u1.wr (by decide), by rw [wr_nk (by decide)]; exact u2, by rw [wr_nk (by decide)]; exact u3, by rw [wr_nk (by decide)]; exact u4, wr_eq⟩)
        refine it_inv (fun j (u : Mm) => t6 m u ∧ u 21 9 = m 21 8 ∧ u 21 8 = zI (p : Nat) ∧ u 21 6 = zI ((p + j : Nat) : Int)) _ (nxt isD B L p - p) ⟨hM1, a9, a8, a6⟩ (fun j hj u hu => ?_) (fun u hu => ?_)
        · obtain ⟨u1, u2, u3, u4⟩ := hu
          have hBu : BT u B L := ⟨h600, by rw [u1.1 1 (by decide) (by decide) (by decide) (by decide), ← hM.1 1 (by decide) (by decide) (by decide) (by decide)]; exact l1, fun i hi => by rw [u1.2 22 (by decide), ← hM.2 22 (by decide)]; exact l2 i hi⟩
          obtain ⟨bj, -⟩ := l2 (p + j) (by omega)
          show An (s_111_156 21 u) _
          unfold s_111_156
          rw [hBu.2.1, u4, if_neg (by rw [zI_le (by omega) (by omega) (by omega) (by omega)]; omega), c112 hBu (by omega), if_pos (show p + j < L by omega)]
          simp only [obs]
          rw [c114 bj.1 bj.2, n3 (p + j) (by omega) (by omega)]
          simp only [obs, ift]
          rw [wbs, zl_1, zI_add]
          exact An.so ⟨u1.wr (by decide), by rw [wr_nk (by decide)]; exact u2, by rw [wr_nk (by decide)]; exact u3, by rw [wr_eq]; exact congrArg zI (by omega)⟩
        · obtain ⟨u1, u2, u3, u4⟩ := hu
          have hBu : BT u B L := ⟨h600, by rw [u1.1 1 (by decide) (by decide) (by decide) (by decide), ← hM.1 1 (by decide) (by decide) (by decide) (by decide)]; exact l1, fun i hi => by rw [u1.2 22 (by decide), ← hM.2 22 (by decide)]; exact l2 i hi⟩
          rw [show p + (nxt isD B L p - p) = nxt isD B L p by omega] at u4
          show An (s_111_156 21 u) _
          unfold s_111_156
          rw [hBu.2.1, u4]
          by_cases qe : nxt isD B L p < L
          · obtain ⟨bj, -⟩ := l2 _ qe
            rw [if_neg (by rw [zI_le (by omega) (by omega) (by omega) (by omega)]; omega), c112 hBu (by omega), if_pos qe]
            simp only [obs]
            rw [c114 bj.1 bj.2, n4 qe]
            simp only [obs, ifn, Bool.false_eq_true]
            exact (fin u u1 u2 u3 u4).mp (fun v hv => by cases v <;> exact hv)
          · rw [if_pos (by rw [zI_le (by omega) (by omega) (by omega) (by omega)]; omega)]
            exact (fin u u1 u2 u3 u4).mp (fun v hv => by cases v <;> exact hv)
      · simp only [if_neg qD]
        unfold d_111_238
        by_cases q59 : B p = 59
        · rw [q59, if_neg (by decide), wbs, wr_nk (show 6 ≠ 7 by decide), a6, zl_1, zI_add, wbs]
          exact An.so ⟨(hM1.wr (by decide)).wr (by decide), by rw [wr_nk (by decide), wr_nk (by decide)]; exact a9, by rw [wr_nk (by decide), wr_nk (by decide)]; exact a8, by rw [wr_eq]; rfl, by rw [wr_nk (by decide), wr_eq, if_pos rfl]; rfl⟩
        · rw [if_pos (by rw [show (59 : Int32) = zI 59 from rfl, zI_inj (by omega) (by omega) (by omega) (by omega)]; exact q59), wbs, wr_nk (show 6 ≠ 7 by decide), a6, zl_1, zI_add, wbs]
          exact An.so ⟨(hM1.wr (by decide)).wr (by decide), by rw [wr_nk (by decide), wr_nk (by decide)]; exact a9, by rw [wr_nk (by decide), wr_nk (by decide)]; exact a8, by rw [wr_eq]; rfl, by rw [wr_nk (by decide), wr_eq, if_neg q59]; rfl⟩
  · rw [if_neg (by rw [zI_lt (by omega) (by omega) (by omega) (by omega)]; omega), wbs]
    simp only [if_pos (show L ≤ p by omega)]
    exact An.so ⟨hM1.wr (by decide), by rw [wr_nk (by decide)]; exact a9, by rw [wr_nk (by decide)]; exact a8, by rw [wr_nk (by decide)]; exact a6, by rw [wr_eq]; rfl⟩
theorem c111 (h : BT m B L) {p : Nat} (hp : p ≤ L) (e6 : m 21 6 = zI (p : Nat)) :
    An (d_111 21 m) (fun M => t6 m M ∧ M 21 9 = m 21 8 ∧ M 21 8 = zI (tkS B L p : Nat) ∧ M 21 6 = zI (tkP B L p : Nat) ∧ M 21 7 = zI (tkK B L p : Nat)) := by
  obtain ⟨n1, n2, n3, n4⟩ := nxt_f (B := B) (f := isS) hp
  unfold d_111
  rw [wbs]
  unfold d_111_8
  refine it_inv (fun j (u : Mm) => t6 m u ∧ u 21 9 = m 21 8 ∧ u 21 6 = zI ((p + j : Nat) : Int)) _ (nxt isS B L p - p) ⟨(t6.rf m).wr (by decide), wr_eq, by rw [wr_nk (by decide)]; exact e6⟩ (fun j hj u hu => ?_) (fun u hu => ?_)
  · obtain ⟨u1, u2, u4⟩ := hu
    have hBu := h.t u1
    have h600 := h.1
    obtain ⟨bj, -⟩ := hBu.2.2 (p + j) (by omega)
    have sp := n3 (p + j) (by omega) (by omega)
    show An (s_111_8 21 u) _
    unfold s_111_8 d_111_45
    rw [hBu.2.1, u4, if_neg (by rw [zI_le (by omega) (by omega) (by omega) (by omega)]; omega), c112 hBu (by omega), if_pos (show p + j < L by omega)]
    simp only [obs]
    have nx : An (wb (wr u 21 6 (zI ((p + j : Nat) : Int) + 1)) fun m20 => some (Sum.inl m20 : Mm ⊕ Mm)) (fun r => match r with | .inl s' => t6 m s' ∧ s' 21 9 = m 21 8 ∧ s' 21 6 = zI ((p + (j + 1) : Nat) : Int) | .inr M => t6 m M ∧ M 21 9 = m 21 8 ∧ M 21 8 = zI (tkS B L p : Nat) ∧ M 21 6 = zI (tkP B L p : Nat) ∧ M 21 7 = zI (tkK B L p : Nat)) := by
      rw [wbs, zl_1, zI_add]
      exact An.so ⟨u1.wr (by decide), by rw [wr_nk (by decide)]; exact u2, by rw [wr_eq]; exact congrArg zI (by omega)⟩
    rcases of_decide_eq_true sp with e | e
    · rw [e, if_pos (by decide)]
      exact nx.mp (fun v hv => by cases v <;> exact hv)
    · rw [e, if_neg (by decide), if_neg (by decide)]
      exact nx.mp (fun v hv => by cases v <;> exact hv)
  · obtain ⟨u1, u2, u4⟩ := hu
    rw [show p + (nxt isS B L p - p) = nxt isS B L p by omega] at u4
    have hBu := h.t u1
    have h600 := h.1
    have fin := c111_58 h n2 u1 u4 u2
    show An (s_111_8 21 u) _
    unfold s_111_8
    rw [hBu.2.1, u4]
    by_cases qe : nxt isS B L p < L
    · obtain ⟨bj, -⟩ := hBu.2.2 _ qe
      have sp := n4 qe
      unfold isS at sp
      have sp := of_decide_eq_false sp
      rw [if_neg (by rw [zI_le (by omega) (by omega) (by omega) (by omega)]; omega), c112 hBu (by omega), if_pos qe]
      simp only [obs]
      rw [if_neg (by rw [show (32 : Int32) = zI 32 from rfl, zI_inj (by omega) (by omega) (by omega) (by omega)]; exact fun e => sp (Or.inl e)), if_pos (by rw [show (10 : Int32) = zI 10 from rfl, zI_inj (by omega) (by omega) (by omega) (by omega)]; exact fun e => sp (Or.inr e))]
      exact An.mo (fin.mp (fun v hv => hv))
    · rw [if_pos (by rw [zI_le (by omega) (by omega) (by omega) (by omega)]; omega)]
      exact An.mo (fin.mp (fun v hv => hv))
end TA
