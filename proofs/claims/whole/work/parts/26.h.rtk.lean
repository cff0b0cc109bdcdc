/-! A token, as the reference takes it. -/
section TH
variable {m M : Mm} {L : Nat} {B : Nat → Int}
/-- nothing but the token's numbers changed, in the reference -/
def r6 (m M : Mm) : Prop := (∀ j, j < 20 ∨ 24 < j → M 249 j = m 249 j) ∧ ∀ a, a ≠ 249 → M a = m a
theorem r6.rf (m : Mm) : r6 m m := ⟨fun _ _ => rfl, fun _ _ => rfl⟩
theorem r6.wr (h : r6 m M) {k : Nat} {v : Int32} (hk : 20 ≤ k ∧ k ≤ 24) : r6 m (wr M 249 k v) :=
  ⟨fun j a => by rw [wr_nk (by omega)]; exact h.1 j a, fun a ha => by rw [wr_ne ha]; exact h.2 a ha⟩
theorem r6.bm (h : r6 m M) (hB : BM m B L) : BM M B L := ⟨hB.1, by rw [h.1 19 (by decide)]; exact hB.2.1, fun i hi => by rw [h.2 264 (by decide)]; exact hB.2.2 i hi⟩
theorem r6.tx (h : r6 m M) (hX : TX m) : TX M := hX.mm (fun a _ _ => h.2 a (by omega))
/-- the token that stands from s to e -/
def TR (B : Nat → Int) (M : Mm) (s e k : Nat) : Prop := M 249 20 = zI (e : Nat) ∧ M 249 21 = zI (s : Nat) ∧ M 249 22 = zI (k : Nat) ∧ (k = 1 → M 249 23 = zI (wdx B s e)) ∧ (k = 2 → M 249 24 = zI (nv B s (e - s)))
theorem m286_39 (hB : BM m B L) (hX : TX m) {p : Nat} (hp : p ≤ L) (hM : r6 m M) (e20 : M 249 20 = zI (p : Nat)) :
    An (d_286_39 249 M) (fun M' => r6 m M' ∧ TR B M' p (if L ≤ p then p else if isL (B p) = true then nxt isL B L p else if isD (B p) = true then nxt isD B L p else p + 1) (if L ≤ p then 0 else if isL (B p) = true then 1 else if isD (B p) = true then (if nxt isD B L p - p ≤ 4 then 2 else 4) else if B p = 59 then 3 else 4)) := by
  have h600 := hB.1
  unfold d_286_39
  rw [wbs, e20]
  have hM1 : r6 m (wr M 249 21 (zI (p : Nat))) := hM.wr (by decide)
  have a20 : wr M 249 21 (zI (p : Nat)) 249 20 = zI (p : Nat) := by rw [wr_nk (by decide)]; exact e20
  have a21 : wr M 249 21 (zI (p : Nat)) 249 21 = zI (p : Nat) := wr_eq
  generalize wr M 249 21 (zI (p : Nat)) = M1 at *
  have hB1 := hM1.bm hB
  rw [a20, m284 hB1 (by omega)]
  simp only [obs]
  unfold d_285
  rw [m284 hB1 (by omega)]
  simp only [obs]
  rw [zl_97, zl_122, m185b hB1 (by decide) (by decide) (by decide) (by decide), zl_48, zl_57, m185b hB1 (by decide) (by decide) (by decide) (by decide)]
  simp only [obs]
  by_cases q : p < L
  · have bp := (hB.2.2 p q).1
    have u := ub_r bp.1 bp.2
    simp only [if_pos q, if_neg (show ¬ L ≤ p by omega)]
    rw [if_pos (by rw [show (-1 : Int32) = zI (-1) from by decide, zI_inj (by omega) (by omega) (by omega) (by omega)]; omega)]
    by_cases qL : isL (B p) = true
    · obtain ⟨n1, n2, n3, n4⟩ := nxt_f (B := B) (f := isL) hp
      have l1 : 97 ≤ B p ∧ B p ≤ 122 := of_decide_eq_true qL
      rw [decide_eq_true (show p < L ∧ 97 ≤ B p ∧ B p ≤ 122 from ⟨q, l1⟩), if_pos rfl]
      simp only [if_pos qL]
      unfold d_286_80
      have tst : ∀ (u : Mm), r6 m u → ∀ i, i ≤ 600 → d_285 249 (zI (i : Nat)) u = some (decide (i < L ∧ 97 ≤ B i ∧ B i ≤ 122)) := fun u hu i hi => by
        unfold d_285
        rw [m284 (hu.bm hB) (by omega)]
        simp only [obs]
        rw [zl_97, zl_122, m185b (hu.bm hB) (by decide) (by decide) (by decide) (by decide)]
        rfl
      refine it_inv (fun j (u : Mm) => r6 m u ∧ u 249 21 = zI (p : Nat) ∧ u 249 20 = zI ((p + j : Nat) : Int)) _ (nxt isL B L p - p) ⟨hM1, a21, a20⟩ (fun j hj u hu => ?_) (fun u hu => ?_)
      · obtain ⟨u1, u2, u3⟩ := hu
        have n3' : 97 ≤ B (p + j) ∧ B (p + j) ≤ 122 := of_decide_eq_true (n3 (p + j) (by omega) (by omega))
        show An (s_286_80 249 u) _
        unfold s_286_80
        rw [u3, tst u u1 _ (by omega), decide_eq_true (show p + j < L ∧ 97 ≤ B (p + j) ∧ B (p + j) ≤ 122 from ⟨by omega, n3'⟩)]
        simp only [obs, ift]
        rw [wbs, zl_1, zI_add]
        exact An.so ⟨u1.wr (by decide), by rw [wr_nk (by decide)]; exact u2, by rw [wr_eq]; exact congrArg zI (by omega)⟩
      · obtain ⟨u1, u2, u3⟩ := hu
        rw [show p + (nxt isL B L p - p) = nxt isL B L p by omega] at u3
        show An (s_286_80 249 u) _
        unfold s_286_80 d_286_104
        rw [u3, tst u u1 _ (by omega), decide_eq_false (fun z => by
          have := n4 z.1
          rw [show isL (B (nxt isL B L p)) = true from decide_eq_true z.2] at this
          cases this)]
        simp only [obs, ifn, Bool.false_eq_true]
        have v1 : r6 m (wr u 249 22 1) := u1.wr (by decide)
        have v20 : wr u 249 22 1 249 20 = zI ((nxt isL B L p : Nat) : Int) := by rw [wr_nk (by decide)]; exact u3
        have v21 : wr u 249 22 1 249 21 = zI (p : Nat) := by rw [wr_nk (by decide)]; exact u2
        rw [wbs, m287 (v1.bm hB) (v1.tx hX) n1 n2 v21 v20]
        simp only [obs, wbs]
        refine An.mo (An.so ⟨v1.wr (by decide), ?_, ?_, ?_, fun _ => wr_eq, fun h => absurd h (by decide)⟩)
        · rw [wr_nk (by decide)]; exact v20
        · rw [wr_nk (by decide)]; exact v21
        · rw [wr_nk (by decide), wr_eq]; rfl
    · have l1 : ¬ (97 ≤ B p ∧ B p ≤ 122) := fun z => qL (decide_eq_true z)
      rw [decide_eq_false (show ¬ (p < L ∧ 97 ≤ B p ∧ B p ≤ 122) from fun z => l1 z.2), if_neg (by decide)]
      simp only [if_neg qL]
      by_cases qD : isD (B p) = true
      · obtain ⟨n1, n2, n3, n4⟩ := nxt_f (B := B) (f := isD) hp
        have l2 : 48 ≤ B p ∧ B p ≤ 57 := of_decide_eq_true qD
        rw [decide_eq_true (show p < L ∧ 48 ≤ B p ∧ B p ≤ 57 from ⟨q, l2⟩), if_pos rfl, wbs]
        simp only [if_pos qD]
        unfold d_286_139
        refine it_inv (fun j (u : Mm) => r6 m u ∧ u 249 21 = zI (p : Nat) ∧ u 249 20 = zI ((p + j : Nat) : Int) ∧ u 249 24 = zI (nv B p (min j 4))) _ (nxt isD B L p - p) ⟨hM1.wr (by decide), by rw [wr_nk (by decide)]; exact a21, by rw [wr_nk (by decide)]; exact a20, wr_eq⟩ (fun j hj u hu => ?_) (fun u hu => ?_)
        · obtain ⟨u1, u2, u3, u4⟩ := hu
          have hBu := u1.bm hB
          have n3' : 48 ≤ B (p + j) ∧ B (p + j) ≤ 57 := of_decide_eq_true (n3 (p + j) (by omega) (by omega))
          show An (s_286_139 249 u) _
          unfold s_286_139 d_286_196
          rw [u3, m284 hBu (by omega)]
          simp only [obs]
          rw [zl_48, zl_57, m185b hBu (by decide) (by decide) (by decide) (by decide), decide_eq_true (show p + j < L ∧ 48 ≤ B (p + j) ∧ B (p + j) ≤ 57 from ⟨by omega, n3'⟩)]
          simp only [obs, ift]
          rw [u2, zI_sub, zl_4]
          by_cases q4 : 4 ≤ j
          · rw [if_pos (by rw [zI_le (by omega) (by omega) (by omega) (by omega)]; omega), wbs, zl_1, zI_add]
            refine An.so ⟨u1.wr (by decide), by rw [wr_nk (by decide)]; exact u2, by rw [wr_eq]; exact congrArg zI (by omega), ?_⟩
            rw [wr_nk (by decide), u4, show min j 4 = min (j + 1) 4 by omega]
          · rw [if_neg (by rw [zI_le (by omega) (by omega) (by omega) (by omega)]; omega), wbs, u4, wbs, wr_nk (by decide), u3, zl_1, zI_add]
            refine An.so ⟨(u1.wr (by decide)).wr (by decide), by rw [wr_nk (by decide), wr_nk (by decide)]; exact u2, by rw [wr_eq]; exact congrArg zI (by omega), ?_⟩
            rw [wr_nk (by decide), wr_eq, show min (j + 1) 4 = j + 1 by omega, show min j 4 = j by omega, if_pos (show p + j < L by omega), show (10 : Int32) = zI 10 from rfl, zI_mul, zI_add, zI_sub, (ub_r (hB.2.2 (p + j) (by omega)).1.1 (hB.2.2 (p + j) (by omega)).1.2).2.2.2 (by omega)]
            rfl
        · obtain ⟨u1, u2, u3, u4⟩ := hu
          have hBu := u1.bm hB
          rw [show p + (nxt isD B L p - p) = nxt isD B L p by omega] at u3
          show An (s_286_139 249 u) _
          unfold s_286_139 d_286_209 d_286_228
          rw [u3, m284 hBu (by omega)]
          simp only [obs]
          rw [zl_48, zl_57, m185b hBu (by decide) (by decide) (by decide) (by decide), decide_eq_false (fun z => by
            have := n4 z.1
            rw [show isD (B (nxt isD B L p)) = true from decide_eq_true z.2] at this
            cases this)]
          simp only [obs, ifn, Bool.false_eq_true]
          rw [u2, zI_sub, zl_4]
          by_cases q4 : nxt isD B L p - p ≤ 4
          · rw [if_pos (by rw [zI_le (by omega) (by omega) (by omega) (by omega)]; omega), wbs]
            simp only [if_pos q4]
            refine An.mo (An.so ⟨u1.wr (by decide), ?_, ?_, wr_eq, fun h => absurd h (by decide), fun _ => ?_⟩)
            · rw [wr_nk (by decide)]; exact u3
            · rw [wr_nk (by decide)]; exact u2
            · rw [wr_nk (by decide), u4, show min (nxt isD B L p - p) 4 = nxt isD B L p - p by omega]
          · rw [if_neg (by rw [zI_le (by omega) (by omega) (by omega) (by omega)]; omega), wbs]
            simp only [if_neg q4]
            refine An.mo (An.so ⟨u1.wr (by decide), ?_, ?_, wr_eq, fun h => absurd h (by decide), fun h => absurd h (by decide)⟩)
            · rw [wr_nk (by decide)]; exact u3
            · rw [wr_nk (by decide)]; exact u2
      · have l2 : ¬ (48 ≤ B p ∧ B p ≤ 57) := fun z => qD (decide_eq_true z)
        rw [decide_eq_false (show ¬ (p < L ∧ 48 ≤ B p ∧ B p ≤ 57) from fun z => l2 z.2), if_neg (by decide), wbs, zl_1, zI_add]
        simp only [if_neg qD]
        unfold d_286_256
        have fin : ∀ k : Nat, k = 3 ∨ k = 4 → An (wb (wr (wr M1 249 20 (zI (((p : Nat) : Int) + 1))) 249 22 (zI (k : Nat))) fun m9 => some m9) (fun M' => r6 m M' ∧ TR B M' p (p + 1) k) := fun k hk => by
          rw [wbs]
          refine An.so ⟨(hM1.wr (by decide)).wr (by decide), ?_, ?_, wr_eq, fun h => absurd h (by omega), fun h => absurd h (by omega)⟩
          · rw [wr_nk (by decide), wr_eq]; rfl
          · rw [wr_nk (by decide), wr_nk (by decide)]; exact a21
        by_cases q59 : B p = 59
        · rw [if_neg (by rw [show (59 : Int32) = zI 59 from rfl, zI_inj (by omega) (by omega) (by omega) (by omega)]; have := u.2.2.2 (by omega); omega)]
          simp only [if_pos q59]
          exact fin 3 (Or.inl rfl)
        · rw [if_pos (by rw [show (59 : Int32) = zI 59 from rfl, zI_inj (by omega) (by omega) (by omega) (by omega)]; have := u.2.2.1; omega)]
          simp only [if_neg q59]
          exact fin 4 (Or.inr rfl)
  · simp only [if_neg q, if_pos (show L ≤ p by omega)]
    rw [if_neg (fun e => e (by decide)), wbs]
    refine An.so ⟨hM1.wr (by decide), ?_, ?_, ?_, fun h => absurd h (by decide), fun h => absurd h (by decide)⟩
    · rw [wr_nk (by decide)]; exact a20
    · rw [wr_nk (by decide)]; exact a21
    · rw [wr_eq]; rfl
theorem m286 (hB : BM m B L) (hX : TX m) {p : Nat} (hp : p ≤ L) (e20 : m 249 20 = zI (p : Nat)) :
    An (d_286 249 m) (fun M' => r6 m M' ∧ TR B M' (tkS B L p) (tkP B L p) (tkK B L p)) := by
  have h600 := hB.1
  obtain ⟨n1, n2, n3, n4⟩ := nxt_f (B := B) (f := isS) hp
  unfold d_286 d_286_0
  refine it_inv (fun j (u : Mm) => r6 m u ∧ u 249 20 = zI ((p + j : Nat) : Int)) _ (nxt isS B L p - p) ⟨r6.rf m, e20⟩ (fun j hj u hu => ?_) (fun u hu => ?_)
  · obtain ⟨u1, u3⟩ := hu
    have hBu := u1.bm hB
    have bj := (hB.2.2 (p + j) (by omega)).1
    have ur := ub_r bj.1 bj.2
    have n3' : B (p + j) = 32 ∨ B (p + j) = 10 := of_decide_eq_true (n3 (p + j) (by omega) (by omega))
    have nx : An (d_286_26 249 u) (fun r => match r with | .inl s' => r6 m s' ∧ s' 249 20 = zI ((p + (j + 1) : Nat) : Int) | .inr M' => r6 m M' ∧ TR B M' (tkS B L p) (tkP B L p) (tkK B L p)) := by
      unfold d_286_26
      rw [wbs, u3, zl_1, zI_add]
      exact An.so ⟨u1.wr (by decide), by rw [wr_eq]; exact congrArg zI (by omega)⟩
    show An (s_286_0 249 u) _
    unfold s_286_0
    rw [u3, m284 hBu (by omega), if_pos (show p + j < L by omega)]
    simp only [obs]
    rw [ur.2.2.2 (by omega)]
    rcases n3' with e | e
    · rw [e, if_pos (by decide)]
      exact nx.mp (fun v hv => by cases v <;> exact hv)
    · rw [e, if_neg (by decide), if_neg (by decide)]
      exact nx.mp (fun v hv => by cases v <;> exact hv)
  · obtain ⟨u1, u3⟩ := hu
    have hBu := u1.bm hB
    rw [show p + (nxt isS B L p - p) = nxt isS B L p by omega] at u3
    have fin := m286_39 hB hX n2 u1 u3
    show An (s_286_0 249 u) _
    unfold s_286_0
    rw [u3, m284 hBu (by omega)]
    simp only [obs]
    have no : ¬ (if nxt isS B L p < L then ub (B (nxt isS B L p)) else -1) = 32 ∧ ¬ (if nxt isS B L p < L then ub (B (nxt isS B L p)) else -1) = 10 := by
      by_cases qe : nxt isS B L p < L
      · rw [if_pos qe]
        have b := (hB.2.2 _ qe).1
        have ur := ub_r b.1 b.2
        have sp : ¬ (B (nxt isS B L p) = 32 ∨ B (nxt isS B L p) = 10) := of_decide_eq_false (n4 qe)
        constructor
        · intro z; have := ur.2.2.1 (by omega); omega
        · intro z; have := ur.2.2.1 (by omega); omega
      · rw [if_neg qe]
        decide
    have rg : -1 ≤ (if nxt isS B L p < L then ub (B (nxt isS B L p)) else -1) ∧ (if nxt isS B L p < L then ub (B (nxt isS B L p)) else -1) ≤ 255 := by
      by_cases qe : nxt isS B L p < L
      · rw [if_pos qe]
        have b := (hB.2.2 _ qe).1
        have ur := ub_r b.1 b.2
        omega
      · rw [if_neg qe]
        decide
    generalize (if nxt isS B L p < L then ub (B (nxt isS B L p)) else -1) = x at no rg
    rw [if_neg (by rw [show (32 : Int32) = zI 32 from rfl, zI_inj (by omega) (by omega) (by omega) (by omega)]; exact no.1), if_pos (by rw [show (10 : Int32) = zI 10 from rfl, zI_inj (by omega) (by omega) (by omega) (by omega)]; exact no.2)]
    refine An.mo (fin.mp (fun M' hM' => ?_))
    unfold tkP tkK tkS
    exact hM'
end TH
