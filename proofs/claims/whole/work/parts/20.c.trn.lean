/-! The turns: each comes to what is so of its call alone. -/
def PR (n : Nat) (m : Mm) (qc : Option (Int32 × Mm)) (qm : Mm → Option (Int32 × Mm)) : Prop := An qc (fun r1 => r1.2 2 = m 2 ∧ ∃ (code : Int) (v : Int32), (code = 0 ∨ code = 1 ∨ code = 2 ∨ code = 3) ∧ r1.1 = zI code ∧ (code = 0 → r1.2 266 0 = v) ∧ An (qm r1.2) (fun r2 => r2.2 249 0 = zI code ∧ (code = 0 → r2.1 = v) ∧ r2.2 266 = r1.2 266 ∧ Inv (n + 1) r2.2))
def PB (n : Nat) (m : Mm) (qc : Option (Int32 × Mm)) (qm : Mm → Option (Bool × Mm)) : Prop := An qc (fun r1 => r1.2 2 = m 2 ∧ ∃ (code : Int) (v : Int32), (code = 0 ∨ code = 1 ∨ code = 2 ∨ code = 3) ∧ r1.1 = zI code ∧ (code = 0 → r1.2 266 0 = v) ∧ An (qm r1.2) (fun r2 => r2.2 249 0 = zI code ∧ (code = 0 → bi r2.1 = v) ∧ r2.2 266 = r1.2 266 ∧ Inv (n + 1) r2.2))
def PP {α : Type} (n : Nat) (m : Mm) (qc : Option (α × Mm)) (qm : Mm → Option (α × Mm)) : Prop := An qc (fun r1 => r1.2 2 = m 2 ∧ An (qm r1.2) (fun r2 => r1.1 = r2.1 ∧ Inv (n + 1) r2.2))
def RB (q : Option (Bool × Mm)) (m : Mm) (code : Int) (v : Int32) : Prop := An q (fun r => r.2 249 0 = zI code ∧ (code = 0 → bi r.1 = v) ∧ Qe m r.2 ∧ r.2 266 = m 266)
theorem PR_of {n : Nat} {m : Mm} (hI : Inv n m) {qc : Option (Int32 × Mm)} {qm : Mm → Option (Int32 × Mm)} {code : Int} {v : Int32} (hc : code = 0 ∨ code = 1 ∨ code = 2 ∨ code = 3) (h1 : LQ qc m code v) (h2 : ∀ m1, Qe m m1 → RQ (qm m1) m1 code v) : PR n m qc qm :=
  An.mp h1 (fun r1 ⟨a1, a2, a3⟩ => ⟨a3.1 2 (Or.inl (by decide)), code, v, hc, a1, a2, An.mp (h2 _ a3) (fun r2 ⟨b1, b2, b3, b4⟩ => ⟨b1, b2, b4, hI.q (a3.tr b3)⟩)⟩)
theorem PB_of {n : Nat} {m : Mm} (hI : Inv n m) {qc : Option (Int32 × Mm)} {qm : Mm → Option (Bool × Mm)} {code : Int} {v : Int32} (hc : code = 0 ∨ code = 1 ∨ code = 2 ∨ code = 3) (h1 : LQ qc m code v) (h2 : ∀ m1, Qe m m1 → RB (qm m1) m1 code v) : PB n m qc qm :=
  An.mp h1 (fun r1 ⟨a1, a2, a3⟩ => ⟨a3.1 2 (Or.inl (by decide)), code, v, hc, a1, a2, An.mp (h2 _ a3) (fun r2 ⟨b1, b2, b3, b4⟩ => ⟨b1, b2, b4, hI.q (a3.tr b3)⟩)⟩)
theorem TN_go {n L : Nat} {m : Mm} (h : Inv (n + 1) m) : TN n L (wb (zI ((7 * n : Nat) : Int) + 7) fun y => some (.inl (y, m))) := by
  rw [wbs, zl_7, zI_add]
  exact An.so ⟨m, by rw [show ((7 * n : Nat) : Int) + 7 = ((7 * n + 7 : Nat) : Int) by omega], h⟩
theorem TN_pp {n L : Nat} {α : Type} [DecidableEq α] {m : Mm} {v w : α} (e : v = w) (h : Inv (n + 1) m) : TN n L (if v = w then (wb (zI ((7 * n : Nat) : Int) + 7) fun y => some (.inl (y, m))) else (some (.inr (false, m)))) := by
  rw [if_pos e]; exact TN_go h
theorem TN_pr {n L : Nat} {m1 m2 : Mm} {v1 w : Int32} {code : Int} {v : Int32} (hc : code = 0 ∨ code = 1 ∨ code = 2 ∨ code = 3) (a1 : v1 = zI code) (a2 : code = 0 → m1 266 0 = v) (b1 : m2 249 0 = zI code) (b2 : code = 0 → w = v) (b3 : m2 266 = m1 266) (h : Inv (n + 1) m2) :
    TN n L (if m2 249 0 = v1 then (if ¬ v1 = 0 then (wb (zI ((7 * n : Nat) : Int) + 7) fun y => (some (.inl (y, m2)) : Option ((Int32 × Mm) ⊕ (Bool × Mm)))) else (if ev_in 0 (sh_n 266) = true then (if (ilg (m2 266 (ix 0)) w) = 0 then (wb (zI ((7 * n : Nat) : Int) + 7) fun y => some (.inl (y, m2))) else (some (.inr (false, m2)))) else none)) else (some (.inr (false, m2)))) := by
  rw [turnE hc a1 a2 b1 b2 b3]
  exact An.so ⟨m2, by rw [show ((7 * n : Nat) : Int) + 7 = ((7 * n + 7 : Nat) : Int) by omega], h⟩
theorem z1n : (1 : Int32) = zI ((1 : Nat) : Int) := (Eq.refl (1 : Int32)).trans rfl
theorem z2n : (2 : Int32) = zI ((2 : Nat) : Int) := (Eq.refl (2 : Int32)).trans rfl
theorem z3n : (3 : Int32) = zI ((3 : Nat) : Int) := (Eq.refl (3 : Int32)).trans rfl
theorem z4n : (4 : Int32) = zI ((4 : Nat) : Int) := (Eq.refl (4 : Int32)).trans rfl
theorem z5n : (5 : Int32) = zI ((5 : Nat) : Int) := (Eq.refl (5 : Int32)).trans rfl
theorem z6n : (6 : Int32) = zI ((6 : Nat) : Int) := (Eq.refl (6 : Int32)).trans rfl
theorem tp_0 {n L : Nat} {m : Mm} (hi : 7 * n + 7 ≤ L) (hL : L ≤ 3584) (P : ∀ (a1 a2 a3 a4 a5 : Int32), PP n m (d_120 20 a1 a2 a3 a4 a5 m) (fun m1 => d_282 249 a1 a2 a3 a4 a5 m1)) : TN n L (d_348_244 L (zI ((7 * n : Nat) : Int)) m) := by
  unfold d_348_244
  have I1 := in_i hi hL (show 1 < 7 by decide)
  have I2 := in_i hi hL (show 2 < 7 by decide)
  have I3 := in_i hi hL (show 3 < 7 by decide)
  have I4 := in_i hi hL (show 4 < 7 by decide)
  have I5 := in_i hi hL (show 5 < 7 by decide)
  rw [← z1n] at I1
  rw [← z2n] at I2
  rw [← z3n] at I3
  rw [← z4n] at I4
  rw [← z5n] at I5
  rw [if_pos I1, if_pos I2, if_pos I3, if_pos I4, if_pos I5]
  refine An.bd (P _ _ _ _ _) (fun r1 h1 => ?_)
  obtain ⟨h11, h12⟩ := h1
  rw [if_pos I1, if_pos I2, if_pos I3, if_pos I4, if_pos I5, h11]
  refine An.bd h12 (fun r2 h2 => ?_)
  obtain ⟨h21, h22⟩ := h2
  exact TN_pp (L := L) (h21) h22
theorem tp_1 {n L : Nat} {m : Mm} (hi : 7 * n + 7 ≤ L) (hL : L ≤ 3584) (P : ∀ (a1 : Int32), PP n m (d_121 20 a1 m) (fun m1 => d_283 249 a1 m1)) : TN n L (d_348_317 L (zI ((7 * n : Nat) : Int)) m) := by
  unfold d_348_317
  have I1 := in_i hi hL (show 1 < 7 by decide)
  rw [← z1n] at I1
  rw [if_pos I1]
  refine An.bd (P _) (fun r1 h1 => ?_)
  obtain ⟨h11, h12⟩ := h1
  rw [if_pos I1, h11]
  refine An.bd h12 (fun r2 h2 => ?_)
  obtain ⟨h21, h22⟩ := h2
  exact TN_pp (L := L) (by rw [h21]) h22
theorem tp_2 {n L : Nat} {m : Mm} (hi : 7 * n + 7 ≤ L) (hL : L ≤ 3584) (P : PP n m (d_122 20 m) (fun m1 => d_302 249 m1)) : TN n L (d_348_342 L (zI ((7 * n : Nat) : Int)) m) := by
  unfold d_348_342
  refine An.bd (P) (fun r1 h1 => ?_)
  obtain ⟨h11, h12⟩ := h1
  refine An.bd h12 (fun r2 h2 => ?_)
  obtain ⟨h21, h22⟩ := h2
  exact TN_pp (L := L) (h21) h22
-- 3: by hand
-- 4: by hand
theorem tp_5 {n L : Nat} {m : Mm} (hi : 7 * n + 7 ≤ L) (hL : L ≤ 3584) (P : ∀ (a1 : Int32), PR n m (d_311 20 a1 266 m) (fun m1 => d_215 249 a1 m1)) : TN n L (d_348_381 L (zI ((7 * n : Nat) : Int)) m) := by
  unfold d_348_381
  have I1 := in_i hi hL (show 1 < 7 by decide)
  rw [← z1n] at I1
  rw [if_pos I1]
  refine An.bd (P _) (fun r1 h1 => ?_)
  obtain ⟨h11, code, v, h12, h13, h14, h15⟩ := h1
  rw [if_pos I1, h11]
  refine An.bd h15 (fun r2 h2 => ?_)
  obtain ⟨h21, h22, h23, h24⟩ := h2
  rw [i182]
  simp only [obs]
  exact TN_pr (L := L) h12 h13 h14 h21 h22 h23 h24
theorem tp_6 {n L : Nat} {m : Mm} (hi : 7 * n + 7 ≤ L) (hL : L ≤ 3584) (P : ∀ (a1 : Int32), PR n m (d_312 20 a1 266 m) (fun m1 => d_216 249 a1 m1)) : TN n L (d_348_437 L (zI ((7 * n : Nat) : Int)) m) := by
  unfold d_348_437
  have I1 := in_i hi hL (show 1 < 7 by decide)
  rw [← z1n] at I1
  rw [if_pos I1]
  refine An.bd (P _) (fun r1 h1 => ?_)
  obtain ⟨h11, code, v, h12, h13, h14, h15⟩ := h1
  rw [if_pos I1, h11]
  refine An.bd h15 (fun r2 h2 => ?_)
  obtain ⟨h21, h22, h23, h24⟩ := h2
  rw [i182]
  simp only [obs]
  exact TN_pr (L := L) h12 h13 h14 h21 h22 h23 h24
theorem tp_7 {n L : Nat} {m : Mm} (hi : 7 * n + 7 ≤ L) (hL : L ≤ 3584) (P : ∀ (a1 a2 a3 : Int32), PR n m (d_313 20 a1 a2 a3 266 m) (fun m1 => d_217 249 a1 a2 a3 m1)) : TN n L (d_348_493 L (zI ((7 * n : Nat) : Int)) m) := by
  unfold d_348_493
  have I1 := in_i hi hL (show 1 < 7 by decide)
  have I2 := in_i hi hL (show 2 < 7 by decide)
  have I3 := in_i hi hL (show 3 < 7 by decide)
  rw [← z1n] at I1
  rw [← z2n] at I2
  rw [← z3n] at I3
  rw [if_pos I1, if_pos I2, if_pos I3]
  refine An.bd (P _ _ _) (fun r1 h1 => ?_)
  obtain ⟨h11, code, v, h12, h13, h14, h15⟩ := h1
  rw [if_pos I1, if_pos I2, if_pos I3, h11]
  refine An.bd h15 (fun r2 h2 => ?_)
  obtain ⟨h21, h22, h23, h24⟩ := h2
  rw [i182]
  simp only [obs]
  exact TN_pr (L := L) h12 h13 h14 h21 h22 h23 h24
theorem tp_8 {n L : Nat} {m : Mm} (hi : 7 * n + 7 ≤ L) (hL : L ≤ 3584) (P : ∀ (a1 a2 a3 a4 a5 a6 : Int32), PB n m (d_314 20 a1 a2 a3 a4 a5 a6 266 m) (fun m1 => d_218 249 a1 a2 a3 a4 a5 a6 m1)) : TN n L (d_348_573 L (zI ((7 * n : Nat) : Int)) m) := by
  unfold d_348_573 d_348_689
  have I1 := in_i hi hL (show 1 < 7 by decide)
  have I2 := in_i hi hL (show 2 < 7 by decide)
  have I3 := in_i hi hL (show 3 < 7 by decide)
  have I4 := in_i hi hL (show 4 < 7 by decide)
  have I5 := in_i hi hL (show 5 < 7 by decide)
  have I6 := in_i hi hL (show 6 < 7 by decide)
  rw [← z1n] at I1
  rw [← z2n] at I2
  rw [← z3n] at I3
  rw [← z4n] at I4
  rw [← z5n] at I5
  rw [← z6n] at I6
  rw [if_pos I1, if_pos I2, if_pos I3, if_pos I4, if_pos I5, if_pos I6]
  refine An.bd (P _ _ _ _ _ _) (fun r1 h1 => ?_)
  obtain ⟨h11, code, v, h12, h13, h14, h15⟩ := h1
  rw [if_pos I1, if_pos I2, if_pos I3, if_pos I4, if_pos I5, if_pos I6, h11]
  refine An.bd h15 (fun r2 h2 => ?_)
  obtain ⟨h21, h22, h23, h24⟩ := h2
  rw [i182]
  simp only [obs]
  have e := TN_pr (L := L) h12 h13 h14 h21 (w := bi r2.1) h22 h23 h24
  cases hb : r2.1
  · rw [hb] at e
    simp only [Bool.false_eq_true, ifn]
    exact e
  · rw [hb] at e
    simp only [ift]
    exact e
theorem tp_9 {n L : Nat} {m : Mm} (hi : 7 * n + 7 ≤ L) (hL : L ≤ 3584) (P : ∀ (a1 a2 : Int32), PR n m (d_315 20 a1 a2 266 m) (fun m1 => d_219 249 a1 a2 m1)) : TN n L (d_348_698 L (zI ((7 * n : Nat) : Int)) m) := by
  unfold d_348_698
  have I1 := in_i hi hL (show 1 < 7 by decide)
  have I2 := in_i hi hL (show 2 < 7 by decide)
  rw [← z1n] at I1
  rw [← z2n] at I2
  rw [if_pos I1, if_pos I2]
  refine An.bd (P _ _) (fun r1 h1 => ?_)
  obtain ⟨h11, code, v, h12, h13, h14, h15⟩ := h1
  rw [if_pos I1, if_pos I2, h11]
  refine An.bd h15 (fun r2 h2 => ?_)
  obtain ⟨h21, h22, h23, h24⟩ := h2
  rw [i182]
  simp only [obs]
  exact TN_pr (L := L) h12 h13 h14 h21 h22 h23 h24
theorem tp_10 {n L : Nat} {m : Mm} (hi : 7 * n + 7 ≤ L) (hL : L ≤ 3584) (P : ∀ (a1 a2 a3 a4 : Int32), PR n m (d_316 20 a1 a2 a3 a4 266 m) (fun m1 => d_220 249 a1 a2 a3 a4 m1)) : TN n L (d_348_766 L (zI ((7 * n : Nat) : Int)) m) := by
  unfold d_348_766
  have I1 := in_i hi hL (show 1 < 7 by decide)
  have I2 := in_i hi hL (show 2 < 7 by decide)
  have I3 := in_i hi hL (show 3 < 7 by decide)
  have I4 := in_i hi hL (show 4 < 7 by decide)
  rw [← z1n] at I1
  rw [← z2n] at I2
  rw [← z3n] at I3
  rw [← z4n] at I4
  rw [if_pos I1, if_pos I2, if_pos I3, if_pos I4]
  refine An.bd (P _ _ _ _) (fun r1 h1 => ?_)
  obtain ⟨h11, code, v, h12, h13, h14, h15⟩ := h1
  rw [if_pos I1, if_pos I2, if_pos I3, if_pos I4, h11]
  refine An.bd h15 (fun r2 h2 => ?_)
  obtain ⟨h21, h22, h23, h24⟩ := h2
  rw [i182]
  simp only [obs]
  exact TN_pr (L := L) h12 h13 h14 h21 h22 h23 h24
theorem tp_11 {n L : Nat} {m : Mm} (hi : 7 * n + 7 ≤ L) (hL : L ≤ 3584) (P : ∀ (a1 a2 : Int32), PR n m (d_317 20 a1 a2 266 m) (fun m1 => d_221 249 a1 a2 m1)) : TN n L (d_348_858 L (zI ((7 * n : Nat) : Int)) m) := by
  unfold d_348_858
  have I1 := in_i hi hL (show 1 < 7 by decide)
  have I2 := in_i hi hL (show 2 < 7 by decide)
  rw [← z1n] at I1
  rw [← z2n] at I2
  rw [if_pos I1, if_pos I2]
  refine An.bd (P _ _) (fun r1 h1 => ?_)
  obtain ⟨h11, code, v, h12, h13, h14, h15⟩ := h1
  rw [if_pos I1, if_pos I2, h11]
  refine An.bd h15 (fun r2 h2 => ?_)
  obtain ⟨h21, h22, h23, h24⟩ := h2
  rw [i182]
  simp only [obs]
  exact TN_pr (L := L) h12 h13 h14 h21 h22 h23 h24
theorem tp_12 {n L : Nat} {m : Mm} (hi : 7 * n + 7 ≤ L) (hL : L ≤ 3584) (P : ∀ (a1 a2 a3 a4 : Int32), PR n m (d_318 20 a1 a2 a3 a4 266 m) (fun m1 => d_223 249 a1 a2 a3 a4 m1)) : TN n L (d_348_926 L (zI ((7 * n : Nat) : Int)) m) := by
  unfold d_348_926
  have I1 := in_i hi hL (show 1 < 7 by decide)
  have I2 := in_i hi hL (show 2 < 7 by decide)
  have I3 := in_i hi hL (show 3 < 7 by decide)
  have I4 := in_i hi hL (show 4 < 7 by decide)
  rw [← z1n] at I1
  rw [← z2n] at I2
  rw [← z3n] at I3
  rw [← z4n] at I4
  rw [if_pos I1, if_pos I2, if_pos I3, if_pos I4]
  refine An.bd (P _ _ _ _) (fun r1 h1 => ?_)
  obtain ⟨h11, code, v, h12, h13, h14, h15⟩ := h1
  rw [if_pos I1, if_pos I2, if_pos I3, if_pos I4, h11]
  refine An.bd h15 (fun r2 h2 => ?_)
  obtain ⟨h21, h22, h23, h24⟩ := h2
  rw [i182]
  simp only [obs]
  exact TN_pr (L := L) h12 h13 h14 h21 h22 h23 h24
theorem tp_13 {n L : Nat} {m : Mm} (hi : 7 * n + 7 ≤ L) (hL : L ≤ 3584) (P : ∀ (a1 a2 : Int32), PB n m (d_319 20 a1 a2 266 m) (fun m1 => d_224 249 a1 a2 m1)) : TN n L (d_348_1018 L (zI ((7 * n : Nat) : Int)) m) := by
  unfold d_348_1018 d_348_1084
  have I1 := in_i hi hL (show 1 < 7 by decide)
  have I2 := in_i hi hL (show 2 < 7 by decide)
  rw [← z1n] at I1
  rw [← z2n] at I2
  rw [if_pos I1, if_pos I2]
  refine An.bd (P _ _) (fun r1 h1 => ?_)
  obtain ⟨h11, code, v, h12, h13, h14, h15⟩ := h1
  rw [if_pos I1, if_pos I2, h11]
  refine An.bd h15 (fun r2 h2 => ?_)
  obtain ⟨h21, h22, h23, h24⟩ := h2
  rw [i182]
  simp only [obs]
  have e := TN_pr (L := L) h12 h13 h14 h21 (w := bi r2.1) h22 h23 h24
  cases hb : r2.1
  · rw [hb] at e
    simp only [Bool.false_eq_true, ifn]
    exact e
  · rw [hb] at e
    simp only [ift]
    exact e
theorem tp_14 {n L : Nat} {m : Mm} (hi : 7 * n + 7 ≤ L) (hL : L ≤ 3584) (P : ∀ (a1 a2 : Int32), PR n m (d_320 20 a1 a2 266 m) (fun m1 => d_225 249 a1 a2 m1)) : TN n L (d_348_1093 L (zI ((7 * n : Nat) : Int)) m) := by
  unfold d_348_1093
  have I1 := in_i hi hL (show 1 < 7 by decide)
  have I2 := in_i hi hL (show 2 < 7 by decide)
  rw [← z1n] at I1
  rw [← z2n] at I2
  rw [if_pos I1, if_pos I2]
  refine An.bd (P _ _) (fun r1 h1 => ?_)
  obtain ⟨h11, code, v, h12, h13, h14, h15⟩ := h1
  rw [if_pos I1, if_pos I2, h11]
  refine An.bd h15 (fun r2 h2 => ?_)
  obtain ⟨h21, h22, h23, h24⟩ := h2
  rw [i182]
  simp only [obs]
  exact TN_pr (L := L) h12 h13 h14 h21 h22 h23 h24
theorem tp_15 {n L : Nat} {m : Mm} (hi : 7 * n + 7 ≤ L) (hL : L ≤ 3584) (P : ∀ (a1 : Int32), PR n m (d_321 20 a1 266 m) (fun m1 => d_226 249 a1 m1)) : TN n L (d_348_1161 L (zI ((7 * n : Nat) : Int)) m) := by
  unfold d_348_1161
  have I1 := in_i hi hL (show 1 < 7 by decide)
  rw [← z1n] at I1
  rw [if_pos I1]
  refine An.bd (P _) (fun r1 h1 => ?_)
  obtain ⟨h11, code, v, h12, h13, h14, h15⟩ := h1
  rw [if_pos I1, h11]
  refine An.bd h15 (fun r2 h2 => ?_)
  obtain ⟨h21, h22, h23, h24⟩ := h2
  rw [i182]
  simp only [obs]
  exact TN_pr (L := L) h12 h13 h14 h21 h22 h23 h24
theorem tp_16 {n L : Nat} {m : Mm} (hi : 7 * n + 7 ≤ L) (hL : L ≤ 3584) (P : ∀ (a1 : Int32), PR n m (d_322 20 a1 266 m) (fun m1 => d_228 249 a1 m1)) : TN n L (d_348_1217 L (zI ((7 * n : Nat) : Int)) m) := by
  unfold d_348_1217
  have I1 := in_i hi hL (show 1 < 7 by decide)
  rw [← z1n] at I1
  rw [if_pos I1]
  refine An.bd (P _) (fun r1 h1 => ?_)
  obtain ⟨h11, code, v, h12, h13, h14, h15⟩ := h1
  rw [if_pos I1, h11]
  refine An.bd h15 (fun r2 h2 => ?_)
  obtain ⟨h21, h22, h23, h24⟩ := h2
  rw [i182]
  simp only [obs]
  exact TN_pr (L := L) h12 h13 h14 h21 h22 h23 h24
theorem tp_17 {n L : Nat} {m : Mm} (hi : 7 * n + 7 ≤ L) (hL : L ≤ 3584) (P : ∀ (a1 a2 a3 a4 a5 : Int32), PR n m (d_323 20 a1 a2 a3 a4 a5 266 m) (fun m1 => d_230 249 a1 a2 a3 a4 a5 m1)) : TN n L (d_348_1273 L (zI ((7 * n : Nat) : Int)) m) := by
  unfold d_348_1273
  have I1 := in_i hi hL (show 1 < 7 by decide)
  have I2 := in_i hi hL (show 2 < 7 by decide)
  have I3 := in_i hi hL (show 3 < 7 by decide)
  have I4 := in_i hi hL (show 4 < 7 by decide)
  have I5 := in_i hi hL (show 5 < 7 by decide)
  rw [← z1n] at I1
  rw [← z2n] at I2
  rw [← z3n] at I3
  rw [← z4n] at I4
  rw [← z5n] at I5
  rw [if_pos I1, if_pos I2, if_pos I3, if_pos I4, if_pos I5]
  refine An.bd (P _ _ _ _ _) (fun r1 h1 => ?_)
  obtain ⟨h11, code, v, h12, h13, h14, h15⟩ := h1
  rw [if_pos I1, if_pos I2, if_pos I3, if_pos I4, if_pos I5, h11]
  refine An.bd h15 (fun r2 h2 => ?_)
  obtain ⟨h21, h22, h23, h24⟩ := h2
  rw [i182]
  simp only [obs]
  exact TN_pr (L := L) h12 h13 h14 h21 h22 h23 h24
theorem tp_18 {n L : Nat} {m : Mm} (hi : 7 * n + 7 ≤ L) (hL : L ≤ 3584) (P : ∀ (a1 : Int32), PB n m (d_324 20 a1 266 m) (fun m1 => d_235 249 a1 m1)) : TN n L (d_348_1377 L (zI ((7 * n : Nat) : Int)) m) := by
  unfold d_348_1377 d_348_1431
  have I1 := in_i hi hL (show 1 < 7 by decide)
  rw [← z1n] at I1
  rw [if_pos I1]
  refine An.bd (P _) (fun r1 h1 => ?_)
  obtain ⟨h11, code, v, h12, h13, h14, h15⟩ := h1
  rw [if_pos I1, h11]
  refine An.bd h15 (fun r2 h2 => ?_)
  obtain ⟨h21, h22, h23, h24⟩ := h2
  rw [i182]
  simp only [obs]
  have e := TN_pr (L := L) h12 h13 h14 h21 (w := bi r2.1) h22 h23 h24
  cases hb : r2.1
  · rw [hb] at e
    simp only [Bool.false_eq_true, ifn]
    exact e
  · rw [hb] at e
    simp only [ift]
    exact e
theorem tp_19 {n L : Nat} {m : Mm} (hi : 7 * n + 7 ≤ L) (hL : L ≤ 3584) (P : ∀ (a1 a2 : Int32), PR n m (d_325 20 a1 a2 266 m) (fun m1 => d_236 249 a1 a2 m1)) : TN n L (d_348_1440 L (zI ((7 * n : Nat) : Int)) m) := by
  unfold d_348_1440
  have I1 := in_i hi hL (show 1 < 7 by decide)
  have I2 := in_i hi hL (show 2 < 7 by decide)
  rw [← z1n] at I1
  rw [← z2n] at I2
  rw [if_pos I1, if_pos I2]
  refine An.bd (P _ _) (fun r1 h1 => ?_)
  obtain ⟨h11, code, v, h12, h13, h14, h15⟩ := h1
  rw [if_pos I1, if_pos I2, h11]
  refine An.bd h15 (fun r2 h2 => ?_)
  obtain ⟨h21, h22, h23, h24⟩ := h2
  rw [i182]
  simp only [obs]
  exact TN_pr (L := L) h12 h13 h14 h21 h22 h23 h24
theorem tp_20 {n L : Nat} {m : Mm} (hi : 7 * n + 7 ≤ L) (hL : L ≤ 3584) (P : ∀ (a1 : Int32), PR n m (d_326 20 a1 266 m) (fun m1 => d_237 249 a1 m1)) : TN n L (d_348_1508 L (zI ((7 * n : Nat) : Int)) m) := by
  unfold d_348_1508
  have I1 := in_i hi hL (show 1 < 7 by decide)
  rw [← z1n] at I1
  rw [if_pos I1]
  refine An.bd (P _) (fun r1 h1 => ?_)
  obtain ⟨h11, code, v, h12, h13, h14, h15⟩ := h1
  rw [if_pos I1, h11]
  refine An.bd h15 (fun r2 h2 => ?_)
  obtain ⟨h21, h22, h23, h24⟩ := h2
  rw [i182]
  simp only [obs]
  exact TN_pr (L := L) h12 h13 h14 h21 h22 h23 h24
theorem tp_21 {n L : Nat} {m : Mm} (hi : 7 * n + 7 ≤ L) (hL : L ≤ 3584) (P : ∀ (a1 a2 : Int32), PR n m (d_327 20 a1 a2 266 m) (fun m1 => d_239 249 a1 a2 m1)) : TN n L (d_348_1564 L (zI ((7 * n : Nat) : Int)) m) := by
  unfold d_348_1564
  have I1 := in_i hi hL (show 1 < 7 by decide)
  have I2 := in_i hi hL (show 2 < 7 by decide)
  rw [← z1n] at I1
  rw [← z2n] at I2
  rw [if_pos I1, if_pos I2]
  refine An.bd (P _ _) (fun r1 h1 => ?_)
  obtain ⟨h11, code, v, h12, h13, h14, h15⟩ := h1
  rw [if_pos I1, if_pos I2, h11]
  refine An.bd h15 (fun r2 h2 => ?_)
  obtain ⟨h21, h22, h23, h24⟩ := h2
  rw [i182]
  simp only [obs]
  exact TN_pr (L := L) h12 h13 h14 h21 h22 h23 h24
theorem tp_22 {n L : Nat} {m : Mm} (hi : 7 * n + 7 ≤ L) (hL : L ≤ 3584) (P : ∀ (a1 a2 a3 a4 a5 : Int32), PR n m (d_328 20 a1 a2 a3 a4 a5 266 m) (fun m1 => d_254 249 a1 a2 a3 a4 a5 m1)) : TN n L (d_348_1632 L (zI ((7 * n : Nat) : Int)) m) := by
  unfold d_348_1632
  have I1 := in_i hi hL (show 1 < 7 by decide)
  have I2 := in_i hi hL (show 2 < 7 by decide)
  have I3 := in_i hi hL (show 3 < 7 by decide)
  have I4 := in_i hi hL (show 4 < 7 by decide)
  have I5 := in_i hi hL (show 5 < 7 by decide)
  rw [← z1n] at I1
  rw [← z2n] at I2
  rw [← z3n] at I3
  rw [← z4n] at I4
  rw [← z5n] at I5
  rw [if_pos I1, if_pos I2, if_pos I3, if_pos I4, if_pos I5]
  refine An.bd (P _ _ _ _ _) (fun r1 h1 => ?_)
  obtain ⟨h11, code, v, h12, h13, h14, h15⟩ := h1
  rw [if_pos I1, if_pos I2, if_pos I3, if_pos I4, if_pos I5, h11]
  refine An.bd h15 (fun r2 h2 => ?_)
  obtain ⟨h21, h22, h23, h24⟩ := h2
  rw [i182]
  simp only [obs]
  exact TN_pr (L := L) h12 h13 h14 h21 h22 h23 h24
theorem tp_23 {n L : Nat} {m : Mm} (hi : 7 * n + 7 ≤ L) (hL : L ≤ 3584) (P : ∀ (a1 a2 a3 a4 a5 : Int32), PR n m (d_329 20 a1 a2 a3 a4 a5 266 m) (fun m1 => d_255 249 a1 a2 a3 a4 a5 m1)) : TN n L (d_348_1736 L (zI ((7 * n : Nat) : Int)) m) := by
  unfold d_348_1736
  have I1 := in_i hi hL (show 1 < 7 by decide)
  have I2 := in_i hi hL (show 2 < 7 by decide)
  have I3 := in_i hi hL (show 3 < 7 by decide)
  have I4 := in_i hi hL (show 4 < 7 by decide)
  have I5 := in_i hi hL (show 5 < 7 by decide)
  rw [← z1n] at I1
  rw [← z2n] at I2
  rw [← z3n] at I3
  rw [← z4n] at I4
  rw [← z5n] at I5
  rw [if_pos I1, if_pos I2, if_pos I3, if_pos I4, if_pos I5]
  refine An.bd (P _ _ _ _ _) (fun r1 h1 => ?_)
  obtain ⟨h11, code, v, h12, h13, h14, h15⟩ := h1
  rw [if_pos I1, if_pos I2, if_pos I3, if_pos I4, if_pos I5, h11]
  refine An.bd h15 (fun r2 h2 => ?_)
  obtain ⟨h21, h22, h23, h24⟩ := h2
  rw [i182]
  simp only [obs]
  exact TN_pr (L := L) h12 h13 h14 h21 h22 h23 h24
theorem tp_24 {n L : Nat} {m : Mm} (hi : 7 * n + 7 ≤ L) (hL : L ≤ 3584) (P : ∀ (a1 a2 a3 a4 : Int32), PR n m (d_330 20 a1 a2 a3 a4 266 m) (fun m1 => d_256 249 a1 a2 a3 a4 m1)) : TN n L (d_348_1840 L (zI ((7 * n : Nat) : Int)) m) := by
  unfold d_348_1840
  have I1 := in_i hi hL (show 1 < 7 by decide)
  have I2 := in_i hi hL (show 2 < 7 by decide)
  have I3 := in_i hi hL (show 3 < 7 by decide)
  have I4 := in_i hi hL (show 4 < 7 by decide)
  rw [← z1n] at I1
  rw [← z2n] at I2
  rw [← z3n] at I3
  rw [← z4n] at I4
  rw [if_pos I1, if_pos I2, if_pos I3, if_pos I4]
  refine An.bd (P _ _ _ _) (fun r1 h1 => ?_)
  obtain ⟨h11, code, v, h12, h13, h14, h15⟩ := h1
  rw [if_pos I1, if_pos I2, if_pos I3, if_pos I4, h11]
  refine An.bd h15 (fun r2 h2 => ?_)
  obtain ⟨h21, h22, h23, h24⟩ := h2
  rw [i182]
  simp only [obs]
  exact TN_pr (L := L) h12 h13 h14 h21 h22 h23 h24
theorem tp_25 {n L : Nat} {m : Mm} (hi : 7 * n + 7 ≤ L) (hL : L ≤ 3584) (P : ∀ (a1 a2 a3 a4 : Int32), PR n m (d_331 20 a1 a2 a3 a4 266 m) (fun m1 => d_257 249 a1 a2 a3 a4 m1)) : TN n L (d_348_1932 L (zI ((7 * n : Nat) : Int)) m) := by
  unfold d_348_1932
  have I1 := in_i hi hL (show 1 < 7 by decide)
  have I2 := in_i hi hL (show 2 < 7 by decide)
  have I3 := in_i hi hL (show 3 < 7 by decide)
  have I4 := in_i hi hL (show 4 < 7 by decide)
  rw [← z1n] at I1
  rw [← z2n] at I2
  rw [← z3n] at I3
  rw [← z4n] at I4
  rw [if_pos I1, if_pos I2, if_pos I3, if_pos I4]
  refine An.bd (P _ _ _ _) (fun r1 h1 => ?_)
  obtain ⟨h11, code, v, h12, h13, h14, h15⟩ := h1
  rw [if_pos I1, if_pos I2, if_pos I3, if_pos I4, h11]
  refine An.bd h15 (fun r2 h2 => ?_)
  obtain ⟨h21, h22, h23, h24⟩ := h2
  rw [i182]
  simp only [obs]
  exact TN_pr (L := L) h12 h13 h14 h21 h22 h23 h24
theorem tp_26 {n L : Nat} {m : Mm} (hi : 7 * n + 7 ≤ L) (hL : L ≤ 3584) (P : ∀ (a1 a2 a3 a4 a5 : Int32), PR n m (d_332 20 a1 a2 a3 a4 a5 266 m) (fun m1 => d_268 249 a1 a2 a3 a4 a5 m1)) : TN n L (d_348_2024 L (zI ((7 * n : Nat) : Int)) m) := by
  unfold d_348_2024
  have I1 := in_i hi hL (show 1 < 7 by decide)
  have I2 := in_i hi hL (show 2 < 7 by decide)
  have I3 := in_i hi hL (show 3 < 7 by decide)
  have I4 := in_i hi hL (show 4 < 7 by decide)
  have I5 := in_i hi hL (show 5 < 7 by decide)
  rw [← z1n] at I1
  rw [← z2n] at I2
  rw [← z3n] at I3
  rw [← z4n] at I4
  rw [← z5n] at I5
  rw [if_pos I1, if_pos I2, if_pos I3, if_pos I4, if_pos I5]
  refine An.bd (P _ _ _ _ _) (fun r1 h1 => ?_)
  obtain ⟨h11, code, v, h12, h13, h14, h15⟩ := h1
  rw [if_pos I1, if_pos I2, if_pos I3, if_pos I4, if_pos I5, h11]
  refine An.bd h15 (fun r2 h2 => ?_)
  obtain ⟨h21, h22, h23, h24⟩ := h2
  rw [i182]
  simp only [obs]
  exact TN_pr (L := L) h12 h13 h14 h21 h22 h23 h24
theorem tp_27 {n L : Nat} {m : Mm} (hi : 7 * n + 7 ≤ L) (hL : L ≤ 3584) (P : ∀ (a1 a2 a3 a4 a5 : Int32), PR n m (d_333 20 a1 a2 a3 a4 a5 266 m) (fun m1 => d_269 249 a1 a2 a3 a4 a5 m1)) : TN n L (d_348_2128 L (zI ((7 * n : Nat) : Int)) m) := by
  unfold d_348_2128
  have I1 := in_i hi hL (show 1 < 7 by decide)
  have I2 := in_i hi hL (show 2 < 7 by decide)
  have I3 := in_i hi hL (show 3 < 7 by decide)
  have I4 := in_i hi hL (show 4 < 7 by decide)
  have I5 := in_i hi hL (show 5 < 7 by decide)
  rw [← z1n] at I1
  rw [← z2n] at I2
  rw [← z3n] at I3
  rw [← z4n] at I4
  rw [← z5n] at I5
  rw [if_pos I1, if_pos I2, if_pos I3, if_pos I4, if_pos I5]
  refine An.bd (P _ _ _ _ _) (fun r1 h1 => ?_)
  obtain ⟨h11, code, v, h12, h13, h14, h15⟩ := h1
  rw [if_pos I1, if_pos I2, if_pos I3, if_pos I4, if_pos I5, h11]
  refine An.bd h15 (fun r2 h2 => ?_)
  obtain ⟨h21, h22, h23, h24⟩ := h2
  rw [i182]
  simp only [obs]
  exact TN_pr (L := L) h12 h13 h14 h21 h22 h23 h24
theorem tp_28 {n L : Nat} {m : Mm} (hi : 7 * n + 7 ≤ L) (hL : L ≤ 3584) (P : ∀ (a1 a2 : Int32), PR n m (d_334 20 a1 a2 266 m) (fun m1 => d_270 249 a1 a2 m1)) : TN n L (d_348_2232 L (zI ((7 * n : Nat) : Int)) m) := by
  unfold d_348_2232
  have I1 := in_i hi hL (show 1 < 7 by decide)
  have I2 := in_i hi hL (show 2 < 7 by decide)
  rw [← z1n] at I1
  rw [← z2n] at I2
  rw [if_pos I1, if_pos I2]
  refine An.bd (P _ _) (fun r1 h1 => ?_)
  obtain ⟨h11, code, v, h12, h13, h14, h15⟩ := h1
  rw [if_pos I1, if_pos I2, h11]
  refine An.bd h15 (fun r2 h2 => ?_)
  obtain ⟨h21, h22, h23, h24⟩ := h2
  rw [i182]
  simp only [obs]
  exact TN_pr (L := L) h12 h13 h14 h21 h22 h23 h24
theorem tp_29 {n L : Nat} {m : Mm} (hi : 7 * n + 7 ≤ L) (hL : L ≤ 3584) (P : ∀ (a1 a2 : Int32), PR n m (d_335 20 a1 a2 266 m) (fun m1 => d_271 249 a1 a2 m1)) : TN n L (d_348_2300 L (zI ((7 * n : Nat) : Int)) m) := by
  unfold d_348_2300
  have I1 := in_i hi hL (show 1 < 7 by decide)
  have I2 := in_i hi hL (show 2 < 7 by decide)
  rw [← z1n] at I1
  rw [← z2n] at I2
  rw [if_pos I1, if_pos I2]
  refine An.bd (P _ _) (fun r1 h1 => ?_)
  obtain ⟨h11, code, v, h12, h13, h14, h15⟩ := h1
  rw [if_pos I1, if_pos I2, h11]
  refine An.bd h15 (fun r2 h2 => ?_)
  obtain ⟨h21, h22, h23, h24⟩ := h2
  rw [i182]
  simp only [obs]
  exact TN_pr (L := L) h12 h13 h14 h21 h22 h23 h24
-- 30: by hand
-- 31: by hand
theorem tp_32 {n L : Nat} {m : Mm} (hi : 7 * n + 7 ≤ L) (hL : L ≤ 3584) (P : ∀ (a1 a2 a3 a4 : Int32), PR n m (d_336 20 a1 a2 a3 a4 266 m) (fun m1 => d_266 249 a1 a2 a3 a4 m1)) : TN n L (d_348_2452 L (zI ((7 * n : Nat) : Int)) m) := by
  unfold d_348_2452
  have I1 := in_i hi hL (show 1 < 7 by decide)
  have I2 := in_i hi hL (show 2 < 7 by decide)
  have I3 := in_i hi hL (show 3 < 7 by decide)
  have I4 := in_i hi hL (show 4 < 7 by decide)
  rw [← z1n] at I1
  rw [← z2n] at I2
  rw [← z3n] at I3
  rw [← z4n] at I4
  rw [if_pos I1, if_pos I2, if_pos I3, if_pos I4]
  refine An.bd (P _ _ _ _) (fun r1 h1 => ?_)
  obtain ⟨h11, code, v, h12, h13, h14, h15⟩ := h1
  rw [if_pos I1, if_pos I2, if_pos I3, if_pos I4, h11]
  refine An.bd h15 (fun r2 h2 => ?_)
  obtain ⟨h21, h22, h23, h24⟩ := h2
  rw [i182]
  simp only [obs]
  exact TN_pr (L := L) h12 h13 h14 h21 h22 h23 h24
theorem tp_33 {n L : Nat} {m : Mm} (hi : 7 * n + 7 ≤ L) (hL : L ≤ 3584) (P : ∀ (a1 : Int32), PR n m (d_337 20 a1 266 m) (fun m1 => d_274 249 a1 m1)) : TN n L (d_348_2544 L (zI ((7 * n : Nat) : Int)) m) := by
  unfold d_348_2544
  have I1 := in_i hi hL (show 1 < 7 by decide)
  rw [← z1n] at I1
  rw [if_pos I1]
  refine An.bd (P _) (fun r1 h1 => ?_)
  obtain ⟨h11, code, v, h12, h13, h14, h15⟩ := h1
  rw [if_pos I1, h11]
  refine An.bd h15 (fun r2 h2 => ?_)
  obtain ⟨h21, h22, h23, h24⟩ := h2
  rw [i182]
  simp only [obs]
  exact TN_pr (L := L) h12 h13 h14 h21 h22 h23 h24
theorem tp_34 {n L : Nat} {m : Mm} (hi : 7 * n + 7 ≤ L) (hL : L ≤ 3584) (P : PR n m (d_338 20 266 m) (fun m1 => d_275 249 m1)) : TN n L (d_348_2600 L (zI ((7 * n : Nat) : Int)) m) := by
  unfold d_348_2600
  refine An.bd (P) (fun r1 h1 => ?_)
  obtain ⟨h11, code, v, h12, h13, h14, h15⟩ := h1
  refine An.bd h15 (fun r2 h2 => ?_)
  obtain ⟨h21, h22, h23, h24⟩ := h2
  rw [i182]
  simp only [obs]
  exact TN_pr (L := L) h12 h13 h14 h21 h22 h23 h24
theorem tp_35 {n L : Nat} {m : Mm} (hi : 7 * n + 7 ≤ L) (hL : L ≤ 3584) (P : ∀ (a1 : Int32), PR n m (d_339 20 a1 266 m) (fun m1 => d_276 249 a1 m1)) : TN n L (d_348_2644 L (zI ((7 * n : Nat) : Int)) m) := by
  unfold d_348_2644
  have I1 := in_i hi hL (show 1 < 7 by decide)
  rw [← z1n] at I1
  rw [if_pos I1]
  refine An.bd (P _) (fun r1 h1 => ?_)
  obtain ⟨h11, code, v, h12, h13, h14, h15⟩ := h1
  rw [if_pos I1, h11]
  refine An.bd h15 (fun r2 h2 => ?_)
  obtain ⟨h21, h22, h23, h24⟩ := h2
  rw [i182]
  simp only [obs]
  exact TN_pr (L := L) h12 h13 h14 h21 h22 h23 h24
theorem tp_36 {n L : Nat} {m : Mm} (hi : 7 * n + 7 ≤ L) (hL : L ≤ 3584) (P : ∀ (a1 a2 : Int32), PR n m (d_340 20 a1 a2 266 m) (fun m1 => d_277 249 a1 a2 m1)) : TN n L (d_348_2700 L (zI ((7 * n : Nat) : Int)) m) := by
  unfold d_348_2700
  have I1 := in_i hi hL (show 1 < 7 by decide)
  have I2 := in_i hi hL (show 2 < 7 by decide)
  rw [← z1n] at I1
  rw [← z2n] at I2
  rw [if_pos I1, if_pos I2]
  refine An.bd (P _ _) (fun r1 h1 => ?_)
  obtain ⟨h11, code, v, h12, h13, h14, h15⟩ := h1
  rw [if_pos I1, if_pos I2, h11]
  refine An.bd h15 (fun r2 h2 => ?_)
  obtain ⟨h21, h22, h23, h24⟩ := h2
  rw [i182]
  simp only [obs]
  exact TN_pr (L := L) h12 h13 h14 h21 h22 h23 h24
theorem tp_37 {n L : Nat} {m : Mm} (hi : 7 * n + 7 ≤ L) (hL : L ≤ 3584) (P : ∀ (a1 a2 a3 : Int32), PR n m (d_341 20 a1 a2 a3 266 m) (fun m1 => d_278 249 a1 a2 a3 m1)) : TN n L (d_348_2768 L (zI ((7 * n : Nat) : Int)) m) := by
  unfold d_348_2768
  have I1 := in_i hi hL (show 1 < 7 by decide)
  have I2 := in_i hi hL (show 2 < 7 by decide)
  have I3 := in_i hi hL (show 3 < 7 by decide)
  rw [← z1n] at I1
  rw [← z2n] at I2
  rw [← z3n] at I3
  rw [if_pos I1, if_pos I2, if_pos I3]
  refine An.bd (P _ _ _) (fun r1 h1 => ?_)
  obtain ⟨h11, code, v, h12, h13, h14, h15⟩ := h1
  rw [if_pos I1, if_pos I2, if_pos I3, h11]
  refine An.bd h15 (fun r2 h2 => ?_)
  obtain ⟨h21, h22, h23, h24⟩ := h2
  rw [i182]
  simp only [obs]
  exact TN_pr (L := L) h12 h13 h14 h21 h22 h23 h24
theorem tp_38 {n L : Nat} {m : Mm} (hi : 7 * n + 7 ≤ L) (hL : L ≤ 3584) (P : ∀ (a1 : Int32), PR n m (d_342 20 a1 266 m) (fun m1 => d_279 249 a1 m1)) : TN n L (d_348_2848 L (zI ((7 * n : Nat) : Int)) m) := by
  unfold d_348_2848
  have I1 := in_i hi hL (show 1 < 7 by decide)
  rw [← z1n] at I1
  rw [if_pos I1]
  refine An.bd (P _) (fun r1 h1 => ?_)
  obtain ⟨h11, code, v, h12, h13, h14, h15⟩ := h1
  rw [if_pos I1, h11]
  refine An.bd h15 (fun r2 h2 => ?_)
  obtain ⟨h21, h22, h23, h24⟩ := h2
  rw [i182]
  simp only [obs]
  exact TN_pr (L := L) h12 h13 h14 h21 h22 h23 h24
theorem tp_39 {n L : Nat} {m : Mm} (hi : 7 * n + 7 ≤ L) (hL : L ≤ 3584) (P : ∀ (a1 a2 : Int32), PR n m (d_343 20 a1 a2 266 m) (fun m1 => d_281 249 a1 a2 m1)) : TN n L (d_348_2904 L (zI ((7 * n : Nat) : Int)) m) := by
  unfold d_348_2904
  have I1 := in_i hi hL (show 1 < 7 by decide)
  have I2 := in_i hi hL (show 2 < 7 by decide)
  rw [← z1n] at I1
  rw [← z2n] at I2
  rw [if_pos I1, if_pos I2]
  refine An.bd (P _ _) (fun r1 h1 => ?_)
  obtain ⟨h11, code, v, h12, h13, h14, h15⟩ := h1
  rw [if_pos I1, if_pos I2, h11]
  refine An.bd h15 (fun r2 h2 => ?_)
  obtain ⟨h21, h22, h23, h24⟩ := h2
  rw [i182]
  simp only [obs]
  exact TN_pr (L := L) h12 h13 h14 h21 h22 h23 h24
theorem tp_40 {n L : Nat} {m : Mm} (hi : 7 * n + 7 ≤ L) (hL : L ≤ 3584) (P : PR n m (d_344 20 266 m) (fun m1 => d_190 249 m1)) : TN n L (d_348_2972 L (zI ((7 * n : Nat) : Int)) m) := by
  unfold d_348_2972
  refine An.bd (P) (fun r1 h1 => ?_)
  obtain ⟨h11, code, v, h12, h13, h14, h15⟩ := h1
  refine An.bd h15 (fun r2 h2 => ?_)
  obtain ⟨h21, h22, h23, h24⟩ := h2
  rw [i182]
  simp only [obs]
  exact TN_pr (L := L) h12 h13 h14 h21 h22 h23 h24
theorem tp_41 {n L : Nat} {m : Mm} (hi : 7 * n + 7 ≤ L) (hL : L ≤ 3584) (P : ∀ (a1 a2 : Int32), PR n m (d_345 20 a1 a2 266 m) (fun m1 => d_306 249 a1 a2 m1)) : TN n L (d_348_3016 L (zI ((7 * n : Nat) : Int)) m) := by
  unfold d_348_3016
  have I1 := in_i hi hL (show 1 < 7 by decide)
  have I2 := in_i hi hL (show 2 < 7 by decide)
  rw [← z1n] at I1
  rw [← z2n] at I2
  rw [if_pos I1, if_pos I2]
  refine An.bd (P _ _) (fun r1 h1 => ?_)
  obtain ⟨h11, code, v, h12, h13, h14, h15⟩ := h1
  rw [if_pos I1, if_pos I2, h11]
  refine An.bd h15 (fun r2 h2 => ?_)
  obtain ⟨h21, h22, h23, h24⟩ := h2
  rw [i182]
  simp only [obs]
  exact TN_pr (L := L) h12 h13 h14 h21 h22 h23 h24
theorem tp_42 {n L : Nat} {m : Mm} (hi : 7 * n + 7 ≤ L) (hL : L ≤ 3584) (P : ∀ (a1 a2 a3 a4 : Int32), PR n m (d_346 20 a1 a2 a3 a4 266 m) (fun m1 => d_307 249 a1 a2 a3 a4 m1)) : TN n L (d_348_3084 L (zI ((7 * n : Nat) : Int)) m) := by
  unfold d_348_3084
  have I1 := in_i hi hL (show 1 < 7 by decide)
  have I2 := in_i hi hL (show 2 < 7 by decide)
  have I3 := in_i hi hL (show 3 < 7 by decide)
  have I4 := in_i hi hL (show 4 < 7 by decide)
  rw [← z1n] at I1
  rw [← z2n] at I2
  rw [← z3n] at I3
  rw [← z4n] at I4
  rw [if_pos I1, if_pos I2, if_pos I3, if_pos I4]
  refine An.bd (P _ _ _ _) (fun r1 h1 => ?_)
  obtain ⟨h11, code, v, h12, h13, h14, h15⟩ := h1
  rw [if_pos I1, if_pos I2, if_pos I3, if_pos I4, h11]
  refine An.bd h15 (fun r2 h2 => ?_)
  obtain ⟨h21, h22, h23, h24⟩ := h2
  rw [i182]
  simp only [obs]
  exact TN_pr (L := L) h12 h13 h14 h21 h22 h23 h24
theorem tp_43 {n L : Nat} {m : Mm} (hi : 7 * n + 7 ≤ L) (hL : L ≤ 3584) (P : PP n m (d_168 20 m) (fun m1 => d_309 249 m1)) : TN n L (d_348_3176 L (zI ((7 * n : Nat) : Int)) m) := by
  unfold d_348_3176
  refine An.bd (P) (fun r1 h1 => ?_)
  obtain ⟨h11, h12⟩ := h1
  refine An.bd h12 (fun r2 h2 => ?_)
  obtain ⟨h21, h22⟩ := h2
  exact TN_pp (L := L) (h21) h22
-- 44: by hand
theorem tp_45 {n L : Nat} {m : Mm} (hi : 7 * n + 7 ≤ L) (hL : L ≤ 3584) (P : PP n m (d_173 20 m) (fun m1 => d_191 249 m1)) : TN n L (d_348_3214 L (zI ((7 * n : Nat) : Int)) m) := by
  unfold d_348_3214
  refine An.bd (P) (fun r1 h1 => ?_)
  obtain ⟨h11, h12⟩ := h1
  refine An.bd h12 (fun r2 h2 => ?_)
  obtain ⟨h21, h22⟩ := h2
  exact TN_pp (L := L) (h21) h22
theorem tp_46 {n L : Nat} {m : Mm} (hi : 7 * n + 7 ≤ L) (hL : L ≤ 3584) (P : PR n m (d_347 20 266 m) (fun m1 => d_192 249 m1)) : TN n L (d_348_3227 L (zI ((7 * n : Nat) : Int)) m) := by
  unfold d_348_3227
  refine An.bd (P) (fun r1 h1 => ?_)
  obtain ⟨h11, code, v, h12, h13, h14, h15⟩ := h1
  refine An.bd h15 (fun r2 h2 => ?_)
  obtain ⟨h21, h22, h23, h24⟩ := h2
  rw [i182]
  simp only [obs]
  exact TN_pr (L := L) h12 h13 h14 h21 h22 h23 h24
