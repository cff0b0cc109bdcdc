/-! printMessage. -/
section CS
variable {m : Mm} {r : Nat → Int} {W H n : Nat}
/-- what is printed, told of what lasts alone -/
def OCw (m m' : Mm) (l : List Int32) : Prop := (∀ a, core a → a ≠ 20 → a ≠ 248 → m' a = m a) ∧ (∀ k, k ≠ 10 → m' 20 k = m 20 k) ∧ (∀ k, k ≠ 0 → m' 249 k = m 249 k) ∧ m' 20 10 = zI (l.length : Nat) ∧ ∀ i, i < l.length → m' 248 i = bt (l.getD i 0)
def OMw (m m' : Mm) (l : List Int32) : Prop := (∀ a, core a → a ≠ 265 → m' a = m a) ∧ (∀ k, k ≠ 0 → k ≠ 30 → m' 249 k = m 249 k) ∧ m' 249 30 = zI (l.length : Nat) ∧ ∀ i, i < l.length → m' 265 i = bt (l.getD i 0)
theorem OC.w {m0 m' : Mm} {l : List Int32} (q : Qe m m0) (h : OC m0 m' l) : OCw m m' l :=
  ⟨fun a ha a1 a2 => (h.1 a a1 a2).trans (q.1 a ha), fun k hk => (h.2.1 k hk).trans (by rw [q.1 20 (Or.inl (by decide))]), fun k hk => by rw [h.1 249 (by decide) (by decide)]; exact q.2 k hk, h.2.2.1, h.2.2.2⟩
theorem OM.w {m0 m' : Mm} {l : List Int32} (q : ∀ a, core a → m0 a = m a) (q2 : ∀ k, k ≠ 0 → k ≠ 30 → m0 249 k = m 249 k) (h : OM m0 m' l) : OMw m m' l :=
  ⟨fun a ha a1 => (h.1 a (by unfold core at ha; omega) a1).trans (q a ha), fun k hk hk2 => (h.2.1 k hk2).trans (q2 k hk hk2), h.2.2.1, h.2.2.2⟩
theorem OCw.q {m' m2 : Mm} {l : List Int32} (h : OCw m m' l) (q : Qe m' m2) : OCw m m2 l :=
  ⟨fun a ha a1 a2 => (q.1 a ha).trans (h.1 a ha a1 a2), fun k hk => by rw [q.1 20 (Or.inl (by decide))]; exact h.2.1 k hk, fun k hk => (q.2 k hk).trans (h.2.2.1 k hk), by rw [q.1 20 (Or.inl (by decide))]; exact h.2.2.2.1, fun i hi => by rw [q.1 248 (by unfold core; decide)]; exact h.2.2.2.2 i hi⟩
theorem Inv.prw {m1 m3 : Mm} {l : List Int32} (hI : Inv n m) (hl : l.length ≤ 279) (h1 : OCw m m1 l) (h2 : OMw m1 m3 l) : Inv (n + 1) m3 := by
  obtain ⟨a1, a2, a5, a3, a4⟩ := h1
  obtain ⟨b1, b2, b3, b4⟩ := h2
  have e20 : m3 20 = m1 20 := b1 20 (Or.inl (by decide)) (by decide)
  have e248 : m3 248 = m1 248 := b1 248 (by unfold core; decide) (by decide)
  refine hI.o (fun a ha n1 n2 n3 => ?_) (fun k hk => ?_) (fun k hk hk2 => ?_) ⟨l.length, hl, ?_, b3, fun i hi => ?_⟩
  · rw [b1 a ha n3]; exact a1 a ha n1 n2
  · rw [e20]; exact a2 k hk
  · rw [b2 k hk hk2]; exact a5 k hk
  · rw [e20]; exact a3
  · rw [e248, a4 i hi, b4 i hi]
/-- the flashes of a group, as they are printed -/
def grl (r : Nat → Int) (T : Int) : Nat → List Int32
  | 0 => []
  | c + 1 => grl r T c ++ [if hid (r 8).toNat (rF r) (rL r) (rE r) (T + (c : Nat)) = true then 46 else 42]
theorem grl_l {T : Int} : ∀ {c : Nat}, (grl r T c).length = c
  | 0 => rfl
  | c + 1 => by unfold grl; rw [List.length_append, grl_l, List.length_singleton]
def msl (r : Nat → Int) (G : Nat → Nat) (p : Nat) (t : Int) : Nat → List Int32
  | 0 => []
  | k + 1 => msl r G p t k ++ (if k = 0 then [] else [32]) ++ grl r (t + (gs G p k : Nat)) (G k)
theorem msl_l {G : Nat → Nat} {p : Nat} {t : Int} (hG : ∀ k, k < 6 → G k ≤ 9) : ∀ {k : Nat}, k ≤ 6 → (msl r G p t k).length ≤ 10 * k
  | 0, _ => Nat.le_refl _
  | k + 1, h => by
    have h1 := msl_l (p := p) (t := t) hG (k := k) (by omega)
    have h2 := hG k (by omega)
    unfold msl
    rw [List.length_append, List.length_append, grl_l]
    have : (if k = 0 then [] else [32] : List Int32).length ≤ 1 := by split <;> decide
    omega
theorem c167g {m0 m1 : Mm} {l0 : List Int32} {k : Nat} (hG : iGam k m0 r W H) (h0 : OC m0 m1 l0) {G : Nat → Nat} (hg : ∀ k, k < 6 → m0 235 k = zI (G k : Nat)) {j : Nat} (hj : j < 6) (hGj : G j ≤ 9) (hl : l0.length ≤ 200) {T : Int} (t1 : 0 ≤ T) (t2 : T ≤ 9000000) {p : Int} (h5 : m0 23 8 = zI p) :
    An (d_167_47 20 (zI (j : Nat)) (zI T) 0 m1) (fun q => ∃ m2, q = .inl (zI (T + (G j : Nat) + p), zI ((j + 1 : Nat) : Int), m2) ∧ OC m0 m2 (l0 ++ grl r T (G j))) := by
  obtain ⟨f1, f2, f3⟩ := iG_F hG
  have e84 : ∀ m2 l2, OC m0 m2 l2 → d_84 234 (zI (j : Nat)) m2 = some (zI (G j : Nat)) := fun m2 l2 h2 => by
    unfold d_84
    rw [s_r0, s_n5, if_neg (by rw [zl_0, zI_lt (by omega) (by omega) (by decide) (by decide)]; omega), if_neg (by rw [zl_6, zI_le (by decide) (by decide) (by omega) (by omega)]; omega), if_pos (in_k hj (by decide)), z_ix (by omega), h2.1 235 (by decide) (by decide), hg j hj]
  unfold d_167_47
  rw [zl_0]
  refine it_inv (fun i (u : Int32 × Int32 × Mm) => u.1 = zI (T + (i : Nat)) ∧ u.2.1 = zI ((i : Nat) : Int) ∧ OC m0 u.2.2 (l0 ++ grl r T i)) _ (G j) ⟨by show zI T = zI (T + ((0 : Nat) : Int)); rw [show T + ((0 : Nat) : Int) = T by omega], rfl, by simpa [grl] using h0⟩ (fun i hi u hu => ?_) (fun u hu => ?_)
  · obtain ⟨x, y, m2⟩ := u
    obtain ⟨e1, e2, h2⟩ := hu
    dsimp only at e1 e2
    subst e1
    subst e2
    change OC m0 m2 _ at h2
    show An (s_167_47 20 (zI (j : Nat)) (zI (T + (i : Nat))) (zI ((i : Nat) : Int)) m2) _
    have e44 := c44 iG_o (f1.mm (fun a a1 a2 => h2.1 a (by omega) (by omega))) f2 (t := T + (i : Nat)) (by omega) (by omega)
    unfold s_167_47
    rw [k_r6, e84 m2 _ h2]
    simp only [obs]
    rw [if_neg (by rw [zI_le (by omega) (by omega) (by omega) (by omega)]; omega), fogs_r, e44]
    simp only [obs]
    have one : ∀ v : Int32, v = (if hid (r 8).toNat (rF r) (rL r) (rE r) (T + (i : Nat)) = true then 46 else 42) → An (d_167_84 20 (zI (T + (i : Nat))) (zI (j : Nat)) (zI ((i : Nat) : Int)) 20 v m2) (fun q => match q with | .inl s' => s'.1 = zI (T + ((i + 1 : Nat) : Int)) ∧ s'.2.1 = zI (((i + 1 : Nat)) : Int) ∧ OC m0 s'.2.2 (l0 ++ grl r T (i + 1)) | .inr w => ∃ m2, w = .inl (zI (T + (G j : Nat) + p), zI ((j + 1 : Nat) : Int), m2) ∧ OC m0 m2 (l0 ++ grl r T (G j))) := by
      intro v ev
      unfold d_167_84
      refine (c171 h2 (by rw [List.length_append, grl_l]; omega)).bd (fun m3 h3 => ?_)
      simp only [wbs]
      refine An.so ⟨by dsimp only; rw [zl_1, zI_add]; exact congrArg zI (by omega), by dsimp only; rw [zl_1, zI_add]; rfl, ?_⟩
      unfold grl
      rw [← ev, ← List.append_assoc]
      exact h3
    by_cases q : hid (r 8).toNat (rF r) (rL r) (rE r) (T + (i : Nat)) = true
    · rw [if_pos q]
      exact (one 46 (by rw [if_pos q])).mp (fun v hv => by cases v <;> exact hv)
    · rw [if_neg q]
      exact (one 42 (by rw [if_neg q])).mp (fun v hv => by cases v <;> exact hv)
  · obtain ⟨x, y, m2⟩ := u
    obtain ⟨e1, e2, h2⟩ := hu
    dsimp only at e1 e2
    subst e1
    subst e2
    change OC m0 m2 _ at h2
    show An (s_167_47 20 (zI (j : Nat)) (zI (T + (G j : Nat))) (zI ((G j : Nat) : Int)) m2) _
    unfold s_167_47 d_167_96
    rw [k_r6, e84 m2 _ h2]
    simp only [obs]
    rw [if_pos (by rw [zI_le (by omega) (by omega) (by omega) (by omega)]; omega), k_r1]
    refine An.mo ?_
    simp only [wbs]
    refine An.so ⟨m2, ?_, h2⟩
    rw [h2.1 23 (by decide) (by decide), h5, zI_add, zl_1, zI_add]
    rfl
theorem c167 {m0 : Mm} {k : Nat} (hG : iGam k m0 r W H) {G : Nat → Nat} (hg : ∀ k, k < 6 → m0 235 k = zI (G k : Nat)) (hG9 : ∀ k, k < 6 → G k ≤ 9) {t : Int} (t1 : 0 ≤ t) (t2 : t ≤ 8000000) :
    An (d_167_26 20 (zI t) 0 (wr m0 20 10 0)) (fun q => q.1 = .inl (zI ((msl r G (r 5).toNat t 6).length : Nat)) ∧ OC m0 q.2 (msl r G (r 5).toNat t 6)) := by
  have h5 := hG.2.1.2.2.2.2.1
  have e5 : m0 23 8 = zI (r 5) := hG.2.2.2.2.2.2.2.2.2.2.1
  have hp : (r 5).toNat ≤ 5 := by omega
  unfold d_167_26
  rw [zl_0]
  refine it_inv (fun j (u : Int32 × Int32 × Mm) => u.1 = zI (t + (gs G (r 5).toNat j : Nat)) ∧ u.2.1 = zI ((j : Nat) : Int) ∧ OC m0 u.2.2 (msl r G (r 5).toNat t j)) _ 6 ⟨by show zI t = zI (t + ((0 : Nat) : Int)); rw [show t + ((0 : Nat) : Int) = t by omega], rfl, OC.nil⟩ (fun j hj u hu => ?_) (fun u hu => ?_)
  · obtain ⟨x, y, m2⟩ := u
    obtain ⟨e1, e2, h2⟩ := hu
    dsimp only at e1 e2
    subst e1
    subst e2
    change OC m0 m2 _ at h2
    have hl := msl_l (r := r) (p := (r 5).toNat) (t := t) hG9 (k := j) (by omega)
    have g1 := gs_le hG9 hp j (by omega)
    show An (s_167_26 20 (zI (t + (gs G (r 5).toNat j : Nat))) (zI ((j : Nat) : Int)) m2) _
    unfold s_167_26
    rw [if_neg (by rw [zl_6, zI_le (by omega) (by omega) (by omega) (by omega)]; omega)]
    have one : ∀ (m3 : Mm) (l3 : List Int32), OC m0 m3 l3 → l3.length ≤ 200 → l3 = msl r G (r 5).toNat t j ++ (if j = 0 then [] else [32]) → An (d_167_47 20 (zI (j : Nat)) (zI (t + (gs G (r 5).toNat j : Nat))) 0 m3) (fun q => ∃ m4, q = .inl (zI (t + (gs G (r 5).toNat (j + 1) : Nat)), zI ((j + 1 : Nat) : Int), m4) ∧ OC m0 m4 (msl r G (r 5).toNat t (j + 1))) := by
      intro m3 l3 h3 hl3 e3
      refine (c167g hG h3 hg hj (hG9 j hj) hl3 (T := t + (gs G (r 5).toNat j : Nat)) (by omega) (by omega) e5).mp (fun v ⟨m4, e, h4⟩ => ⟨m4, ?_, ?_⟩)
      · rw [e]
        show Sum.inl (zI (t + (gs G (r 5).toNat j : Nat) + (G j : Nat) + r 5), zI ((j + 1 : Nat) : Int), m4) = Sum.inl (zI (t + ((gs G (r 5).toNat j + (G j + (r 5).toNat) : Nat) : Int)), zI ((j + 1 : Nat) : Int), m4)
        rw [show t + (gs G (r 5).toNat j : Nat) + (G j : Nat) + r 5 = t + ((gs G (r 5).toNat j + (G j + (r 5).toNat) : Nat) : Int) by omega]
      · unfold msl
        rw [← e3]
        exact h4
    by_cases q : j = 0
    · rw [if_pos (by rw [zl_0, zI_le (by omega) (by omega) (by omega) (by omega)]; omega)]
      exact (one m2 _ h2 (by omega) (by rw [if_pos q, List.append_nil])).mp (fun v ⟨m4, e, h4⟩ => by rw [e]; exact ⟨rfl, rfl, h4⟩)
    · rw [if_neg (by rw [zl_0, zI_le (by omega) (by omega) (by omega) (by omega)]; omega)]
      refine (c171 h2 (by omega)).bd (fun m3 h3 => ?_)
      exact (one m3 _ h3 (by rw [List.length_append, List.length_singleton]; omega) (by rw [if_neg q])).mp (fun v ⟨m4, e, h4⟩ => by rw [e]; exact ⟨rfl, rfl, h4⟩)
  · obtain ⟨x, y, m2⟩ := u
    obtain ⟨e1, e2, h2⟩ := hu
    dsimp only at e1 e2
    subst e1
    subst e2
    change OC m0 m2 _ at h2
    show An (s_167_26 20 (zI (t + (gs G (r 5).toNat 6 : Nat))) (zI ((6 : Nat) : Int)) m2) _
    unfold s_167_26 d_167_114
    rw [if_pos (by decide)]
    refine An.mo (An.so ⟨?_, h2⟩)
    show Sum.inl (m2 20 10) = _
    rw [h2.2.2.1]
theorem m307g {m0 m1 : Mm} {l0 : List Int32} (hM : MR m0 r) (f3 : r 8 = ((r 8).toNat : Nat)) (f2 : FB (r 8).toNat (rF r) (rL r) (rE r)) (h0 : OM m0 m1 l0) {G : Nat → Nat} (hg : ∀ k, k < 6 → m0 262 k = zI (G k : Nat)) {j : Nat} (hj : j < 6) (hGj : G j ≤ 9) (hl : l0.length ≤ 200) {T : Int} (t1 : 0 ≤ T) (t2 : T ≤ 9000000) :
    An (d_307_72 249 (zI T) (zI (j : Nat)) 0 m1) (fun q => ∃ m2, q = .inl (zI (T + (G j : Nat) + r 5), zI ((j + 1 : Nat) : Int), m2) ∧ OM m0 m2 (l0 ++ grl r T (G j))) := by
  have e262 : ∀ m2 l2, OM m0 m2 l2 → m2 262 j = zI (G j : Nat) := fun m2 l2 h2 => by rw [h2.1 262 (by decide) (by decide), hg j hj]
  have eM : ∀ m2 l2, OM m0 m2 l2 → MR m2 r := fun m2 l2 h2 => hM.mm (h2.1 250 (by decide) (by decide))
  unfold d_307_72
  rw [zl_0]
  refine it_inv (fun i (u : Int32 × Mm) => u.1 = zI ((i : Nat) : Int) ∧ OM m0 u.2 (l0 ++ grl r T i)) _ (G j) ⟨rfl, by simpa [grl] using h0⟩ (fun i hi u hu => ?_) (fun u hu => ?_)
  · obtain ⟨y, m2⟩ := u
    obtain ⟨rfl, h2⟩ := hu
    change OM m0 m2 _ at h2
    show An (s_307_72 249 (zI T) (zI (j : Nat)) (zI ((i : Nat) : Int)) m2) _
    have e44 := m233 (eM m2 _ h2) f3 f2 (t := T + (i : Nat)) (by omega) (by omega)
    unfold s_307_72
    rw [m_r15, n_262, if_pos (in_k hj (by decide)), z_ix (by omega), e262 m2 _ h2, if_neg (by rw [zI_le (by omega) (by omega) (by omega) (by omega)]; omega), zI_add, e44]
    simp only [obs]
    have one : ∀ v : Int32, v = (if hid (r 8).toNat (rF r) (rL r) (rE r) (T + (i : Nat)) = true then 46 else 42) → An (d_307_104 249 (zI T) (zI (j : Nat)) (zI ((i : Nat) : Int)) 249 v m2) (fun q => match q with | .inl s' => s'.1 = zI (((i + 1 : Nat)) : Int) ∧ OM m0 s'.2 (l0 ++ grl r T (i + 1)) | .inr w => ∃ m2, w = .inl (zI (T + (G j : Nat) + r 5), zI ((j + 1 : Nat) : Int), m2) ∧ OM m0 m2 (l0 ++ grl r T (G j))) := by
      intro v ev
      unfold d_307_104
      refine (m305 h2 (by rw [List.length_append, grl_l]; omega)).bd (fun m3 h3 => ?_)
      simp only [wbs]
      refine An.so ⟨by rw [zl_1, zI_add]; rfl, ?_⟩
      unfold grl
      rw [← ev, ← List.append_assoc]
      exact h3
    by_cases q : hid (r 8).toNat (rF r) (rL r) (rE r) (T + (i : Nat)) = true
    · change An (if hid (r 8).toNat (rF r) (rL r) (rE r) (T + (i : Nat)) = true then _ else _) _
      rw [if_pos q]
      exact (one 46 (by rw [if_pos q])).mp (fun v hv => by cases v <;> exact hv)
    · change An (if hid (r 8).toNat (rF r) (rL r) (rE r) (T + (i : Nat)) = true then _ else _) _
      rw [if_neg q]
      exact (one 42 (by rw [if_neg q])).mp (fun v hv => by cases v <;> exact hv)
  · obtain ⟨y, m2⟩ := u
    obtain ⟨rfl, h2⟩ := hu
    change OM m0 m2 _ at h2
    show An (s_307_72 249 (zI T) (zI (j : Nat)) (zI ((G j : Nat) : Int)) m2) _
    unfold s_307_72 d_307_113
    rw [m_r15, n_262, if_pos (in_k hj (by decide)), z_ix (by omega), e262 m2 _ h2, if_pos (by rw [zI_le (by omega) (by omega) (by omega) (by omega)]; omega), if_pos (in_k hj (by decide)), m_r1, n_250, if_pos (by decide), show ix (5 : Int32) = 5 from by decide, eM m2 _ h2 5 (by decide)]
    refine An.mo ?_
    simp only [wbs]
    refine An.so ⟨m2, ?_, h2⟩
    rw [zI_add, zI_add, zl_1, zI_add]
    rfl
theorem m307 {m0 m1 : Mm} (hM : MR m0 r) (f3 : r 8 = ((r 8).toNat : Nat)) (f2 : FB (r 8).toNat (rF r) (rL r) (rE r)) (h5 : 1 ≤ r 5 ∧ r 5 ≤ 5) (h0 : OM m0 m1 []) {G : Nat → Nat} (hg : ∀ k, k < 6 → m0 262 k = zI (G k : Nat)) (hG9 : ∀ k, k < 6 → G k ≤ 9) {t : Int} (t1 : 0 ≤ t) (t2 : t ≤ 8000000) :
    An (d_307_51 249 (zI t) 0 m1) (fun q => q.1 = zI ((msl r G (r 5).toNat t 6).length : Nat) ∧ OM m0 q.2 (msl r G (r 5).toNat t 6)) := by
  have hp : (r 5).toNat ≤ 5 := by omega
  unfold d_307_51
  rw [zl_0]
  refine it_inv (fun j (u : Int32 × Int32 × Mm) => u.1 = zI (t + (gs G (r 5).toNat j : Nat)) ∧ u.2.1 = zI ((j : Nat) : Int) ∧ OM m0 u.2.2 (msl r G (r 5).toNat t j)) _ 6 ⟨by show zI t = zI (t + ((0 : Nat) : Int)); rw [show t + ((0 : Nat) : Int) = t by omega], rfl, h0⟩ (fun j hj u hu => ?_) (fun u hu => ?_)
  · obtain ⟨x, y, m2⟩ := u
    obtain ⟨e1, e2, h2⟩ := hu
    dsimp only at e1 e2
    subst e1
    subst e2
    change OM m0 m2 _ at h2
    have hl := msl_l (r := r) (p := (r 5).toNat) (t := t) hG9 (k := j) (by omega)
    have g1 := gs_le hG9 hp j (by omega)
    show An (s_307_51 249 (zI (t + (gs G (r 5).toNat j : Nat))) (zI ((j : Nat) : Int)) m2) _
    unfold s_307_51
    rw [if_neg (by rw [zl_6, zI_le (by omega) (by omega) (by omega) (by omega)]; omega)]
    have one : ∀ (m3 : Mm) (l3 : List Int32), OM m0 m3 l3 → l3.length ≤ 200 → l3 = msl r G (r 5).toNat t j ++ (if j = 0 then [] else [32]) → An (d_307_72 249 (zI (t + (gs G (r 5).toNat j : Nat))) (zI (j : Nat)) 0 m3) (fun q => ∃ m4, q = .inl (zI (t + (gs G (r 5).toNat (j + 1) : Nat)), zI ((j + 1 : Nat) : Int), m4) ∧ OM m0 m4 (msl r G (r 5).toNat t (j + 1))) := by
      intro m3 l3 h3 hl3 e3
      refine (m307g hM f3 f2 h3 hg hj (hG9 j hj) hl3 (T := t + (gs G (r 5).toNat j : Nat)) (by omega) (by omega)).mp (fun v ⟨m4, e, h4⟩ => ⟨m4, ?_, ?_⟩)
      · rw [e]
        show Sum.inl (zI (t + (gs G (r 5).toNat j : Nat) + (G j : Nat) + r 5), zI ((j + 1 : Nat) : Int), m4) = Sum.inl (zI (t + ((gs G (r 5).toNat j + (G j + (r 5).toNat) : Nat) : Int)), zI ((j + 1 : Nat) : Int), m4)
        rw [show t + (gs G (r 5).toNat j : Nat) + (G j : Nat) + r 5 = t + ((gs G (r 5).toNat j + (G j + (r 5).toNat) : Nat) : Int) by omega]
      · unfold msl
        rw [← e3]
        exact h4
    by_cases q : j = 0
    · rw [if_pos (by rw [zl_0, zI_le (by omega) (by omega) (by omega) (by omega)]; omega)]
      exact (one m2 _ h2 (by omega) (by rw [if_pos q, List.append_nil])).mp (fun v ⟨m4, e, h4⟩ => by rw [e]; exact ⟨rfl, rfl, h4⟩)
    · rw [if_neg (by rw [zl_0, zI_le (by omega) (by omega) (by omega) (by omega)]; omega)]
      refine (m305 h2 (by omega)).bd (fun m3 h3 => ?_)
      exact (one m3 _ h3 (by rw [List.length_append, List.length_singleton]; omega) (by rw [if_neg q])).mp (fun v ⟨m4, e, h4⟩ => by rw [e]; exact ⟨rfl, rfl, h4⟩)
  · obtain ⟨x, y, m2⟩ := u
    obtain ⟨e1, e2, h2⟩ := hu
    dsimp only at e1 e2
    subst e1
    subst e2
    change OM m0 m2 _ at h2
    show An (s_307_51 249 (zI (t + (gs G (r 5).toNat 6 : Nat))) (zI ((6 : Nat) : Int)) m2) _
    unfold s_307_51 d_307_138
    rw [if_pos (by decide)]
    exact An.mo (An.so ⟨h2.2.2.1, h2⟩)
theorem P_42 (hn : n ≤ 512) (hI : Inv n m) : ∀ (a1 a2 a3 a4 : Int32), PR n m (d_346 20 a1 a2 a3 a4 266 m) (fun m1 => d_307 249 a1 a2 a3 a4 m1) := by
  intro x y X Y
  obtain ⟨x, rfl, hx⟩ := zI_ex x
  obtain ⟨y, rfl, hy⟩ := zI_ex y
  obtain ⟨X, rfl, hX⟩ := zI_ex X
  obtain ⟨Y, rfl, hY⟩ := zI_ex Y
  obtain ⟨r, W, H, hG⟩ := hI.2.2.1
  have hW := iG_w hG
  obtain ⟨w1, w2, w3, w4⟩ := hW
  obtain ⟨t1, t2, t3⟩ := iG_t hG
  obtain ⟨f1, f2, f3⟩ := iG_F hG
  by_cases qi : inC W H x y ∧ inC W H X Y
  · have i1 := qi.1
    have i2 := qi.2
    have hG9 : ∀ k, k < 6 → fG r (tS r) x.toNat y.toNat X.toNat Y.toNat k ≤ 9 := fun k _ => fG_le (by omega) (by omega) (by omega) (by omega) k
    have hll := msl_l (r := r) (p := (r 5).toNat) (t := r 2) hG9 (k := 6) (by decide)
    unfold PR d_346 d_167
    obtain ⟨q', e, h1, h2, h3⟩ := k147i (k := n) (by omega) hG hx hy hX hY qi
    obtain ⟨u, m0⟩ := q'
    dsimp only at h1 h2 h3
    subst h1
    have hG0 := hG.q h3
    rw [e, bE_l, wbs, wbs, k_r1, wr_ne (by decide), (iG_t hG0).1]
    refine An_bE (c167 hG0 h2.2.2.2.2.2.2.1 hG9 t2 (by omega)) (fun v m2 k2 => ?_) (fun e m2 k2 => ?_)
    · obtain ⟨k21, k22⟩ := k2
      dsimp only at k21 k22
      injection k21 with k21
      subst k21
      rw [if_pos (by decide), wbs]
      have hw2 : OCw m (wr m2 266 (ix 0) (zI ((msl r (fG r (tS r) x.toNat y.toNat X.toNat Y.toNat) (r 5).toNat (r 2) 6).length : Nat))) (msl r (fG r (tS r) x.toNat y.toNat X.toNat Y.toNat) (r 5).toNat (r 2) 6) := (k22.w h3).q Qe.out
      generalize hm3 : wr m2 266 (ix 0) (zI ((msl r (fG r (tS r) x.toNat y.toNat X.toNat Y.toNat) (r 5).toNat (r 2) 6).length : Nat)) = m3 at hw2 ⊢
      refine An.so ⟨hw2.1 2 (Or.inl (by decide)) (by decide) (by decide), 0, zI ((msl r (fG r (tS r) x.toNat y.toNat X.toNat Y.toNat) (r 5).toNat (r 2) 6).length : Nat), Or.inl rfl, rfl, fun _ => ?_, ?_⟩
      · show m3 266 0 = _
        rw [← hm3, show ix (0 : Int32) = 0 from by decide, wr_eq]
      · have hG1 : iGam n m3 r W H := ⟨hG.1.mm (hw2.1 250 (by unfold core; decide) (by decide) (by decide)), hG.2.1, hG.2.2.mm (fun a _ _ => hw2.1 a (Or.inl (by omega)) (by omega) (by omega))⟩
        have hG2 : iGam n (wr (wr m3 249 0 (zI 0)) 249 30 0) r W H := ⟨hG1.1.mm (by rw [wr_ne (by decide), wr_ne (by decide)]), hG.2.1, hG1.2.2.mm (fun a _ _ => by rw [wr_ne (by omega), wr_ne (by omega)])⟩
        show An (d_307 249 (zI x) (zI y) (zI X) (zI Y) m3) _
        unfold d_307
        rw [m253i hG1.mw hx hy hX hY qi]
        simp only [obs, m183, ift, wbs]
        rw [m214n hG2.mw (by omega) (by omega), m214n hG2.mw (by omega) (by omega)]
        simp only [obs]
        refine An.bd (m243i (k := n) (by omega) hG2 (x := x.toNat) (y := y.toNat) (X := X.toNat) (Y := Y.toNat) (by omega) (by omega) (by omega) (by omega)) (fun m7 h7 => ?_)
        have hM7 : MR m7 r := hG2.1.mm (h7.2 250 (by decide))
        have h0 : OM m7 m7 [] := ⟨fun _ _ _ => rfl, fun _ _ => rfl, by rw [h7.2 249 (by decide), wr_eq]; rfl, fun i hi => absurd hi (Nat.not_lt_zero i)⟩
        rw [m_r1, n_250, if_pos (by decide), show ix (2 : Int32) = 2 from by decide, hM7 2 (by decide)]
        refine (m307 hM7 f3 f2 hG.2.1.2.2.2.2.1 h0 h7.1 hG9 t2 (by omega)).mp (fun r2 h8 => ?_)
        obtain ⟨h81, h82⟩ := h8
        have hw3 : OMw m3 r2.2 (msl r (fG r (tS r) x.toNat y.toNat X.toNat Y.toNat) (r 5).toNat (r 2) 6) := h82.w (fun a ha => by
          unfold core at ha
          rw [h7.2 a (by omega), wr_ne (by omega), wr_ne (by omega)]) (fun k k1 k2 => by rw [h7.2 249 (by decide), wr_nk k2, wr_nk k1])
        refine ⟨?_, fun _ => h81, ?_, hI.prw (by omega) hw2 hw3⟩
        · rw [h82.2.1 0 (by decide), h7.2 249 (by decide), wr_nk (by decide), wr_eq]
        · rw [h82.1 266 (by decide) (by decide), h7.2 266 (by decide), wr_ne (by decide), wr_ne (by decide)]
    · cases k2.1
  · refine PR_of hI (code := 1) (v := 0) (Or.inr (Or.inl rfl)) ?_ (fun m1 qe => ?_)
    · unfold d_346 d_167
      rw [k147o hG hx hy hX hY qi, bE_r, bE_r, if_pos rfl]
      exact lq_ex (c := 1) (by decide) (Qe.rf m)
    · have hG1 := hG.q qe
      unfold d_307
      rw [m253o hG1.mw hx hy hX hY qi]
      simp only [obs, m183, ifn, Bool.false_eq_true]
      exact rq_t (code := 1) (fun e => by cases e)
end CS
