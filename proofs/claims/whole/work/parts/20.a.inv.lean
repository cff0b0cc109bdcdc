/-! What is so of the memory between two calls. -/
def MA (m : Mm) (a o : Nat) (r : Nat → Int) : Prop := ∀ k, k < 584 → m a (o + k) = zI (r k)
/-- the texts -/
def TX (m : Mm) : Prop := ∀ k, k < 17 → ∀ i, i < (ev_tb k).length → m (3 + k) i = (ev_tb k).getD i 0
def core (a : Nat) : Prop := a < 42 ∨ (61 ≤ a ∧ a < 234) ∨ a = 248 ∨ a = 250 ∨ a = 255 ∨ a = 256 ∨ a = 264 ∨ a = 265
/-- nothing that lasts is changed -/
def Qe (m m' : Mm) : Prop := (∀ a, core a → m' a = m a) ∧ ∀ k, k ≠ 0 → m' 249 k = m 249 k
theorem Qe.rf (m : Mm) : Qe m m := ⟨fun _ _ => rfl, fun _ _ => rfl⟩
theorem Qe.tr {m m' m'' : Mm} (h : Qe m m') (k : Qe m' m'') : Qe m m'' := ⟨fun a ha => (k.1 a ha).trans (h.1 a ha), fun j hj => (k.2 j hj).trans (h.2 j hj)⟩
def iSav (n : Int) (m : Mm) : Prop := ∃ B : Bool, m 20 4 = bi B ∧ m 249 9 = bi B ∧ (B = true → ∃ r W H, MA m 255 0 r ∧ RG n r W H ∧ GR m 61 r W H)
def iHis (n : Int) (m : Mm) : Prop := ∃ c x : Nat, c ≤ 8 ∧ x < 8 ∧ m 80 2 = zI (c : Nat) ∧ m 80 1 = zI (x : Nat) ∧ m 249 8 = zI (c : Nat) ∧ ∀ j, j < c → ∃ r W H, MA m 256 (584 * j) r ∧ RG n r W H ∧ GR m (82 + 19 * ((x + 8 - c + j) % 8)) r W H
def iBuf (m : Mm) : Prop := ∃ l : Nat, l ≤ 600 ∧ m 21 1 = zI (l : Nat) ∧ m 249 18 = zI (l : Nat) ∧ ∀ i, i < l → ∃ v : Int, -128 ≤ v ∧ v ≤ 127 ∧ m 22 i = zI v ∧ m 264 i = zI v
def iErr (m : Mm) : Prop := m 21 2 = m 249 25 ∧ m 21 3 = m 249 26
def iOut (m : Mm) : Prop := ∃ l : Nat, l ≤ 279 ∧ m 20 10 = zI (l : Nat) ∧ m 249 30 = zI (l : Nat) ∧ ∀ i, i < l → m 248 i = m 265 i
def iGam (n : Int) (m : Mm) (r : Nat → Int) (W H : Nat) : Prop := MR m r ∧ RG n r W H ∧ GR m 23 r W H
def Inv (n : Nat) (m : Mm) : Prop := VL m ∧ TX m ∧ (∃ r W H, iGam n m r W H) ∧ iSav n m ∧ iHis n m ∧ iBuf m ∧ iErr m ∧ iOut m
theorem RG.mono {n n' : Int} {r : Nat → Int} {W H : Nat} (h : RG n r W H) (hn : n ≤ n') : RG n' r W H := by
  obtain ⟨h1, h2, h3, h4, h5, h6, h7, h8, h9, h10, h11, h12⟩ := h
  refine ⟨h1, ⟨h2.1, by omega⟩, h3, h4, h5, h6, h7, h8, h9, fun s hs => ?_, h11, h12⟩
  obtain ⟨a, b⟩ := h10 s hs
  exact ⟨⟨a.1, by omega⟩, b⟩
theorem MA.mm {m m' : Mm} {a o : Nat} {r : Nat → Int} (h : MA m a o r) (e : m' a = m a) : MA m' a o r := fun k hk => by rw [e]; exact h k hk
/-- a call that changes nothing that lasts -/
theorem Inv.q {n : Nat} {m m' : Mm} (h : Inv n m) (q : Qe m m') : Inv (n + 1) m' := by
  obtain ⟨h1, h2, h3, h4, h5, h6, h7, h8⟩ := h
  have c : ∀ a, core a → m' a = m a := q.1
  have lo : ∀ a, a < 42 → m' a = m a := fun a ha => c a (Or.inl ha)
  have mid : ∀ a, 61 ≤ a → a < 234 → m' a = m a := fun a ha hb => c a (Or.inr (Or.inl ⟨ha, hb⟩))
  have hi : ∀ a, (a = 248 ∨ a = 250 ∨ a = 255 ∨ a = 256 ∨ a = 264 ∨ a = 265) → m' a = m a := fun a ha => c a (Or.inr (Or.inr ha))
  have mo : ((n : Nat) : Int) ≤ ((n + 1 : Nat) : Int) := by omega
  refine ⟨?_, ?_, ?_, ?_, ?_, ?_, ?_, ?_⟩
  · unfold VL; rw [lo 0 (by decide), lo 1 (by decide)]; exact h1
  · intro k hk i hi'
    rw [lo (3 + k) (by omega)]; exact h2 k hk i hi'
  · obtain ⟨r, W, H, a1, a2, a3⟩ := h3
    exact ⟨r, W, H, a1.mm (hi _ (by decide)), a2.mono mo, a3.mm (fun a _ _ => lo a (by omega))⟩
  · obtain ⟨B, b1, b2, b3⟩ := h4
    refine ⟨B, by rw [lo 20 (by decide)]; exact b1, by rw [q.2 9 (by decide)]; exact b2, fun hB => ?_⟩
    obtain ⟨r, W, H, a1, a2, a3⟩ := b3 hB
    exact ⟨r, W, H, a1.mm (hi _ (by decide)), a2.mono mo, a3.mm (fun a _ _ => mid a (by omega) (by omega))⟩
  · obtain ⟨k, x, b1, b2, b3, b4, b5, b6⟩ := h5
    refine ⟨k, x, b1, b2, by rw [mid 80 (by decide) (by decide)]; exact b3, by rw [mid 80 (by decide) (by decide)]; exact b4, by rw [q.2 8 (by decide)]; exact b5, fun j hj => ?_⟩
    obtain ⟨r, W, H, a1, a2, a3⟩ := b6 j hj
    exact ⟨r, W, H, a1.mm (hi _ (by decide)), a2.mono mo, a3.mm (fun a _ _ => mid a (by omega) (by omega))⟩
  · obtain ⟨l, b1, b2, b3, b4⟩ := h6
    exact ⟨l, b1, by rw [lo 21 (by decide)]; exact b2, by rw [q.2 18 (by decide)]; exact b3, fun i hi' => by rw [lo 22 (by decide), hi 264 (by decide)]; exact b4 i hi'⟩
  · exact ⟨by rw [lo 21 (by decide), q.2 25 (by decide)]; exact h7.1, by rw [lo 21 (by decide), q.2 26 (by decide)]; exact h7.2⟩
  · obtain ⟨l, b1, b2, b3, b4⟩ := h8
    exact ⟨l, b1, by rw [lo 20 (by decide)]; exact b2, by rw [q.2 30 (by decide)]; exact b3, fun i hi' => by rw [hi 248 (by decide), hi 265 (by decide)]; exact b4 i hi'⟩
/-- what a law's own method answers of the class, and what the reference answers: the number that tells what was thrown, and the answer -/
def LQ (q : Option (Int32 × Mm)) (m : Mm) (code : Int) (v : Int32) : Prop := An q (fun r => r.1 = zI code ∧ (code = 0 → r.2 266 0 = v) ∧ Qe m r.2)
def RQ (q : Option (Int32 × Mm)) (m : Mm) (code : Int) (v : Int32) : Prop := An q (fun r => r.2 249 0 = zI code ∧ (code = 0 → r.1 = v) ∧ Qe m r.2 ∧ r.2 266 = m 266)
theorem ilg_s (x : Int32) : ilg x x = 0 := by
  unfold ilg
  rw [if_neg (fun h => Int32.lt_irrefl h), if_pos rfl]
theorem i182 {m : Mm} : d_182 249 m = some (m 249 0) := rfl
/-- the end of a turn: both told alike -/
theorem turnE {m1 m2 : Mm} {v1 w : Int32} {code i : Int} {v : Int32} (hc : code = 0 ∨ code = 1 ∨ code = 2 ∨ code = 3) (a1 : v1 = zI code) (a2 : code = 0 → m1 266 0 = v) (b1 : m2 249 0 = zI code) (b2 : code = 0 → w = v) (b3 : m2 266 = m1 266) :
    (if m2 249 0 = v1 then (if ¬ v1 = 0 then (wb (zI i + 7) fun y => (some (.inl (y, m2)) : Option ((Int32 × Mm) ⊕ (Bool × Mm)))) else (if ev_in 0 (sh_n 266) = true then (if (ilg (m2 266 (ix 0)) w) = 0 then (wb (zI i + 7) fun y => some (.inl (y, m2))) else (some (.inr (false, m2)))) else none)) else (some (.inr (false, m2)))) = some (.inl (zI (i + 7), m2)) := by
  subst a1
  rw [b1, if_pos rfl]
  simp only [wbs, zl_0, zl_1, zl_2, zl_3, zl_4, zl_5, zl_6, zl_7, zl_8, zl_9, zl_10, zl_11, zl_12, zl_13, zl_14, zl_15, zl_16, zl_17, zl_18, zl_19, zl_20, zl_21, zl_22, zl_23, zl_24, zl_25, zl_26, zl_27, zl_28, zl_29, zl_30, zl_31, zl_32, zl_33, zl_34, zl_35, zl_36, zl_37, zl_38, zl_39, zl_40, zl_41, zl_42, zl_43, zl_44, zl_45, zl_46, zl_47, zl_48, zl_49, zl_50, zl_51, zl_52, zl_53, zl_54, zl_55, zl_56, zl_57, zl_58, zl_59, zl_60, zl_61, zl_62, zl_63, zl_64, zl_88, zl_97, zl_99, zl_120, zl_122, zl_150, zl_152, zl_200, zl_255, zl_264, zl_280, zl_304, zl_464, zl_584, zl_600, zl_837, zl_999, zl_1000, zl_4088, zl_9999, zl_99999, zI_add]
  by_cases h : code = 0
  · subst h
    rw [if_neg (fun q => q rfl), if_pos (by decide), b3, show ix (zI 0) = 0 from by decide, a2 rfl, b2 rfl, ilg_s, if_pos (show (0 : Int32) = zI 0 from rfl)]
  · rw [if_pos]
    rw [zI_inj (by omega) (by omega) (by omega) (by omega)]
    exact h
