/-! Changes of a game: rows, and what they leave as it was. -/
section RW
variable {m m' : Mm} {W H g : Nat} {r r' : Nat → Int}
theorem BV.cg {β : Nat} {bn bb bn' bb' : Nat → Int} {C S fr to : Int} (h : BV m β W H bn bb C S fr to) (e1 : ∀ x y, x < W → y < H → bn (x + W * y) = bn' (x + W * y)) (e2 : ∀ x y, x < W → y < H → bb (x + W * y) = bb' (x + W * y)) : BV m β W H bn' bb' C S fr to :=
  ⟨h.1.bb e1, h.2.1.bb e2, h.2.2⟩
theorem FV.cg {φ : Nat} {n : Int} {F L E F' L' E' : Nat → Int} (h : FV m φ n F L E) (e1 : ∀ k : Nat, (k : Int) < n → F' k = F k) (e2 : ∀ k : Nat, (k : Int) < n → L' k = L k) (e3 : ∀ k : Nat, (k : Int) < n → E' k = E k) : FV m φ n F' L' E' :=
  ⟨h.1, fun k hk => by rw [e1 k hk, e2 k hk, e3 k hk]; exact h.2 k hk⟩
theorem LV.cg {q : Nat} {n c : Int} {J : Nat} {P P' : Nat → Nat → Int} (h : LV m q n c J P) (e : ∀ k j : Nat, (k : Int) < n → j < J → P' k j = P k j) : LV m q n c J P' :=
  ⟨h.1, h.2.1, fun k j hk hj => by rw [e k j hk hj]; exact h.2.2 k j hk hj⟩
/-- the places of a row that tell of a board -/
def pB (s k : Nat) : Prop := (24 + 64 * s ≤ k ∧ k < 88 + 64 * s) ∨ (152 + 64 * s ≤ k ∧ k < 216 + 64 * s) ∨ k = 9 + s ∨ k = 17 + s ∨ k = 19 + s ∨ k = 21 + s
def pF (k : Nat) : Prop := k = 8 ∨ (280 ≤ k ∧ k < 304)
def pL (k : Nat) : Prop := k = 13 ∨ k = 12 ∨ (304 ≤ k ∧ k < 464)
def pA (k : Nat) : Prop := k = 14 ∨ k = 11 ∨ (464 ≤ k ∧ k < 584)
def pS (k : Nat) : Prop := k = 2 ∨ k = 3 ∨ k = 4 ∨ k = 5 ∨ k = 6 ∨ k = 7 ∨ k = 15 ∨ k = 16
theorem GR.bS {s : Nat} (hs : s ≤ 1) (hw : WH W H) (h : GR m g r W H) (e : ∀ k, pB s k → r' k = r k) : BV m (g + 1 + 5 * s) W H (fun c => r' (24 + 64 * s + c)) (fun c => r' (152 + 64 * s + c)) (r' (9 + s)) (r' (17 + s)) (gi W (r' (19 + s))) (gi W (r' (21 + s))) := by
  rw [e (9 + s) (by unfold pB; omega), e (17 + s) (by unfold pB; omega), e (19 + s) (by unfold pB; omega), e (21 + s) (by unfold pB; omega)]
  refine (h.bd hs).cg (fun x y hx hy => ?_) (fun x y hx hy => ?_)
  · have := cell_64 hw hx hy
    exact (e _ (by unfold pB; omega)).symm
  · have := cell_64 hw hx hy
    exact (e _ (by unfold pB; omega)).symm
theorem GR.oF (h : GR m g r W H) (h8 : r 8 ≤ 8) (e : ∀ k, pF k → r' k = r k) : FV m (g + 11) (r' 8) (fun k => r' (280 + 3 * k)) (fun k => r' (281 + 3 * k)) (fun k => r' (282 + 3 * k)) := by
  rw [e 8 (by unfold pF; omega)]
  exact h.2.2.1.cg (fun k hk => e _ (by unfold pF; omega)) (fun k hk => e _ (by unfold pF; omega)) (fun k hk => e _ (by unfold pF; omega))
theorem GR.oL (h : GR m g r W H) (h13 : r 13 ≤ 20) (e : ∀ k, pL k → r' k = r k) : LV m (g + 15) (r' 13) (r' 12) 8 (fun k j => r' (304 + 8 * k + j)) := by
  rw [e 13 (by unfold pL; omega), e 12 (by unfold pL; omega)]
  exact h.2.2.2.1.cg (fun k j hk hj => e _ (by unfold pL; omega))
theorem GR.oA (h : GR m g r W H) (h14 : r 14 ≤ 20) (e : ∀ k, pA k → r' k = r k) : LV m (g + 17) (r' 14) (r' 11) 6 (made_ r' W) := by
  rw [e 14 (by unfold pA; omega), e 11 (by unfold pA; omega)]
  refine h.2.2.2.2.1.cg (fun k j hk hj => ?_)
  unfold made_
  rw [e (464 + 6 * k + j) (by unfold pA; omega)]
theorem SV.cg (h : SV m g r) (e : ∀ k, pS k → r' k = r k) : SV m g r' := by
  unfold SV
  rw [e 2 (by unfold pS; omega), e 3 (by unfold pS; omega), e 4 (by unfold pS; omega), e 5 (by unfold pS; omega), e 6 (by unfold pS; omega), e 7 (by unfold pS; omega), e 15 (by unfold pS; omega), e 16 (by unfold pS; omega)]
  exact h
/-- a change of the other numbers alone -/
theorem GR.cS (h : GR m g r W H) (hw : WH W H) (h8 : r 8 ≤ 8) (h13 : r 13 ≤ 20) (h14 : r 14 ≤ 20) (q : ∀ a, g < a → a ≤ g + 18 → m' a = m a) (e : ∀ k, k < 584 → ¬ pS k → r' k = r k) (hS : SV m' g r') : GR m' g r' W H := by
  have b0 := (GR.bS (s := 0) (r' := r') (by decide) hw h (fun k hk => e k (by unfold pB at hk; omega) (by unfold pB at hk; unfold pS; omega))).mm (m' := m') (fun a a1 a2 => q a (by omega) (by omega))
  have b1 := (GR.bS (s := 1) (r' := r') (by decide) hw h (fun k hk => e k (by unfold pB at hk; omega) (by unfold pB at hk; unfold pS; omega))).mm (m' := m') (fun a a1 a2 => q a (by omega) (by omega))
  exact ⟨b0, b1, (h.oF h8 (fun k hk => e k (by unfold pF at hk; omega) (by unfold pF at hk; unfold pS; omega))).mm (fun a a1 a2 => q a (by omega) (by omega)), (h.oL h13 (fun k hk => e k (by unfold pL at hk; omega) (by unfold pL at hk; unfold pS; omega))).mm (fun a a1 a2 => q a (by omega) (by omega)), (h.oA h14 (fun k hk => e k (by unfold pA at hk; omega) (by unfold pA at hk; unfold pS; omega))).mm (fun a a1 a2 => q a (by omega) (by omega)), hS⟩
/-- a change of a board alone -/
theorem GR.cB (h : GR m g r W H) (hw : WH W H) (h8 : r 8 ≤ 8) (h13 : r 13 ≤ 20) (h14 : r 14 ≤ 20) {s : Nat} (hs : s ≤ 1) (q : ∀ a, g ≤ a → a ≤ g + 18 → ¬ (g + 1 + 5 * s ≤ a ∧ a ≤ g + 5 + 5 * s) → m' a = m a) (e : ∀ k, k < 584 → ¬ pB s k → r' k = r k)
    (hB : BV m' (g + 1 + 5 * s) W H (fun c => r' (24 + 64 * s + c)) (fun c => r' (152 + 64 * s + c)) (r' (9 + s)) (r' (17 + s)) (gi W (r' (19 + s))) (gi W (r' (21 + s)))) : GR m' g r' W H := by
  have o : ∀ t, t ≤ 1 → t ≠ s → BV m' (g + 1 + 5 * t) W H (fun c => r' (24 + 64 * t + c)) (fun c => r' (152 + 64 * t + c)) (r' (9 + t)) (r' (17 + t)) (gi W (r' (19 + t))) (gi W (r' (21 + t))) := fun t ht hne => (GR.bS (s := t) (r' := r') ht hw h (fun k hk => e k (by unfold pB at hk; omega) (by unfold pB at hk ⊢; omega))).mm (fun a a1 a2 => q a (by omega) (by omega) (by omega))
  have b : ∀ t, t ≤ 1 → BV m' (g + 1 + 5 * t) W H (fun c => r' (24 + 64 * t + c)) (fun c => r' (152 + 64 * t + c)) (r' (9 + t)) (r' (17 + t)) (gi W (r' (19 + t))) (gi W (r' (21 + t))) := fun t ht => by
    by_cases z : t = s
    · rw [z]; exact hB
    · exact o t ht z
  refine ⟨b 0 (by decide), b 1 (by decide), (h.oF h8 (fun k hk => e k (by unfold pF at hk; omega) (by unfold pF at hk; unfold pB; omega))).mm (fun a a1 a2 => q a (by omega) (by omega) (by omega)), (h.oL h13 (fun k hk => e k (by unfold pL at hk; omega) (by unfold pL at hk; unfold pB; omega))).mm (fun a a1 a2 => q a (by omega) (by omega) (by omega)), (h.oA h14 (fun k hk => e k (by unfold pA at hk; omega) (by unfold pA at hk; unfold pB; omega))).mm (fun a a1 a2 => q a (by omega) (by omega) (by omega)), ?_⟩
  have := h.2.2.2.2.2.cg (r' := r') (fun k hk => e k (by unfold pS at hk; omega) (by unfold pS at hk; unfold pB; omega))
  unfold SV at this ⊢
  rw [q g (by omega) (by omega) (by omega)]
  exact this
/-- a change of the sendings that are kept -/
theorem GR.cL (h : GR m g r W H) (hw : WH W H) (h8 : r 8 ≤ 8) (h14 : r 14 ≤ 20) (q : ∀ a, g ≤ a → a ≤ g + 18 → ¬ (a = g + 15 ∨ a = g + 16) → m' a = m a) (e : ∀ k, k < 584 → ¬ pL k → r' k = r k) (hL : LV m' (g + 15) (r' 13) (r' 12) 8 (fun k j => r' (304 + 8 * k + j))) : GR m' g r' W H := by
  have b0 := (GR.bS (s := 0) (r' := r') (by decide) hw h (fun k hk => e k (by unfold pB at hk; omega) (by unfold pB at hk; unfold pL; omega))).mm (m' := m') (fun a a1 a2 => q a (by omega) (by omega) (by omega))
  have b1 := (GR.bS (s := 1) (r' := r') (by decide) hw h (fun k hk => e k (by unfold pB at hk; omega) (by unfold pB at hk; unfold pL; omega))).mm (m' := m') (fun a a1 a2 => q a (by omega) (by omega) (by omega))
  refine ⟨b0, b1, (h.oF h8 (fun k hk => e k (by unfold pF at hk; omega) (by unfold pF at hk; unfold pL; omega))).mm (fun a a1 a2 => q a (by omega) (by omega) (by omega)), hL, (h.oA h14 (fun k hk => e k (by unfold pA at hk; omega) (by unfold pA at hk; unfold pL; omega))).mm (fun a a1 a2 => q a (by omega) (by omega) (by omega)), ?_⟩
  have := h.2.2.2.2.2.cg (r' := r') (fun k hk => e k (by unfold pS at hk; omega) (by unfold pS at hk; unfold pL; omega))
  unfold SV at this ⊢
  rw [q g (by omega) (by omega) (by omega)]
  exact this
/-- a change of the moves that are kept -/
theorem GR.cA (h : GR m g r W H) (hw : WH W H) (h8 : r 8 ≤ 8) (h13 : r 13 ≤ 20) (q : ∀ a, g ≤ a → a ≤ g + 18 → ¬ (a = g + 17 ∨ a = g + 18) → m' a = m a) (e : ∀ k, k < 584 → ¬ pA k → r' k = r k) (hA : LV m' (g + 17) (r' 14) (r' 11) 6 (made_ r' W)) : GR m' g r' W H := by
  have b0 := (GR.bS (s := 0) (r' := r') (by decide) hw h (fun k hk => e k (by unfold pB at hk; omega) (by unfold pB at hk; unfold pA; omega))).mm (m' := m') (fun a a1 a2 => q a (by omega) (by omega) (by omega))
  have b1 := (GR.bS (s := 1) (r' := r') (by decide) hw h (fun k hk => e k (by unfold pB at hk; omega) (by unfold pB at hk; unfold pA; omega))).mm (m' := m') (fun a a1 a2 => q a (by omega) (by omega) (by omega))
  refine ⟨b0, b1, (h.oF h8 (fun k hk => e k (by unfold pF at hk; omega) (by unfold pF at hk; unfold pA; omega))).mm (fun a a1 a2 => q a (by omega) (by omega) (by omega)), (h.oL h13 (fun k hk => e k (by unfold pL at hk; omega) (by unfold pL at hk; unfold pA; omega))).mm (fun a a1 a2 => q a (by omega) (by omega) (by omega)), hA, ?_⟩
  have := h.2.2.2.2.2.cg (r' := r') (fun k hk => e k (by unfold pS at hk; omega) (by unfold pS at hk; unfold pA; omega))
  unfold SV at this ⊢
  rw [q g (by omega) (by omega) (by omega)]
  exact this
/-- a change of fogs -/
theorem GR.cF (h : GR m g r W H) (hw : WH W H) (h13 : r 13 ≤ 20) (h14 : r 14 ≤ 20) (q : ∀ a, g ≤ a → a ≤ g + 18 → ¬ (g + 11 ≤ a ∧ a ≤ g + 14) → m' a = m a) (e : ∀ k, k < 584 → ¬ pF k → r' k = r k) (hF : FV m' (g + 11) (r' 8) (fun k => r' (280 + 3 * k)) (fun k => r' (281 + 3 * k)) (fun k => r' (282 + 3 * k))) : GR m' g r' W H := by
  have b0 := (GR.bS (s := 0) (r' := r') (by decide) hw h (fun k hk => e k (by unfold pB at hk; omega) (by unfold pB at hk; unfold pF; omega))).mm (m' := m') (fun a a1 a2 => q a (by omega) (by omega) (by omega))
  have b1 := (GR.bS (s := 1) (r' := r') (by decide) hw h (fun k hk => e k (by unfold pB at hk; omega) (by unfold pB at hk; unfold pF; omega))).mm (m' := m') (fun a a1 a2 => q a (by omega) (by omega) (by omega))
  refine ⟨b0, b1, hF, (h.oL h13 (fun k hk => e k (by unfold pL at hk; omega) (by unfold pL at hk; unfold pF; omega))).mm (fun a a1 a2 => q a (by omega) (by omega) (by omega)), (h.oA h14 (fun k hk => e k (by unfold pA at hk; omega) (by unfold pA at hk; unfold pF; omega))).mm (fun a a1 a2 => q a (by omega) (by omega) (by omega)), ?_⟩
  have := h.2.2.2.2.2.cg (r' := r') (fun k hk => e k (by unfold pS at hk; omega) (by unfold pS at hk; unfold pF; omega))
  unfold SV at this ⊢
  rw [q g (by omega) (by omega) (by omega)]
  exact this
/-- time passed on a clock -/
def rsp (r : Nat → Int) (s : Nat) (d : Int) : Nat → Int := fun k => if k = 2 then r 2 + d else if k = 15 + s then r (15 + s) - d else r k
/-- the clock at its end -/
def rtm (r : Nat → Int) (s : Nat) : Nat → Int := fun k => if k = 2 then r 2 + r (15 + s) else if k = 15 + s then 0 else if k = 4 then 2 - (s : Int) else r k
/-- a move carried out, and put right, on a board -/
def rb1 (W H : Nat) (r : Nat → Int) (q s x y X Y : Nat) : Nat → Int := fun k => if 24 + 64 * q ≤ k ∧ k < 88 + 64 * q then mb W H (fun c => r (24 + 64 * q + c)) x y X Y (k - (24 + 64 * q)) else if 152 + 64 * q ≤ k ∧ k < 216 + 64 * q then r (k - 128) else if k = 9 + q then r (9 + q) + 1 else if k = 17 + q then (s : Nat) else if k = 19 + q then ((x + W * y : Nat) : Int) else if k = 21 + q then ((X + W * Y : Nat) : Int) else r k
def rb3 (W H : Nat) (r : Nat → Int) (q s x y X Y : Nat) : Nat → Int := fun k => if 24 + 64 * q ≤ k ∧ k < 88 + 64 * q then mb W H (fun c => r (152 + 64 * q + c)) x y X Y (k - (24 + 64 * q)) else if k = 17 + q then (s : Nat) else if k = 19 + q then ((x + W * y : Nat) : Int) else if k = 21 + q then ((X + W * Y : Nat) : Int) else r k
/-- a row of numbers kept: the sendings, the moves -/
def rls (r : Nat → Int) (vs : Nat → Int) : Nat → Int := fun k => if k = 13 then (if r 13 = 20 then 20 else r 13 + 1) else if k = 12 then r 12 + 1 else
  if 304 ≤ k ∧ k < 464 then (if 304 + 8 * (if r 13 = 20 then 19 else (r 13).toNat) ≤ k ∧ k < 312 + 8 * (if r 13 = 20 then 19 else (r 13).toNat) then vs (k - (304 + 8 * (if r 13 = 20 then 19 else (r 13).toNat))) else if r 13 = 20 ∧ k < 456 then r (k + 8) else r k) else r k
def rla (r : Nat → Int) (vs : Nat → Int) : Nat → Int := fun k => if k = 14 then (if r 14 = 20 then 20 else r 14 + 1) else if k = 11 then r 11 + 1 else
  if 464 ≤ k ∧ k < 584 then (if 464 + 6 * (if r 14 = 20 then 19 else (r 14).toNat) ≤ k ∧ k < 470 + 6 * (if r 14 = 20 then 19 else (r 14).toNat) then vs (k - (464 + 6 * (if r 14 = 20 then 19 else (r 14).toNat))) else if r 14 = 20 ∧ k < 578 then r (k + 6) else r k) else r k
/-- the ranges that changes need -/
def rok (r : Nat → Int) : Prop := r 8 ≤ 8 ∧ r 13 ≤ 20 ∧ r 14 ≤ 20
theorem RG.rok {k : Int} (h : RG k r W H) : rok r := ⟨by have := h.2.2.2.2.2.2.2.2.2.2.1.2.1; omega, h.2.2.2.2.2.2.2.1.2, h.2.2.2.2.2.2.2.2.1.2⟩
/-- the class's clock of a side -/
theorem c52 (h : GR m g r W H) {s : Nat} (hs : s ≤ 1) : d_52 g (zI (s : Nat)) m = some (zI (r (15 + s))) := by
  obtain ⟨s1, s2, s3, s4, s5, s6, s7, s8⟩ := h.2.2.2.2.2
  have : s = 0 ∨ s = 1 := by omega
  unfold d_52
  rcases this with rfl | rfl
  · rw [if_neg (by decide), s7]
  · rw [if_pos (by decide), s8]
theorem c53 {s : Nat} (hs : s ≤ 1) {v : Int32} : d_53 g (zI (s : Nat)) v m = some (wr m g (11 + s) v) := by
  have : s = 0 ∨ s = 1 := by omega
  unfold d_53
  rcases this with rfl | rfl
  · rw [if_neg (by decide), wbs]
  · rw [if_pos (by decide), wbs]
theorem c57 {v : Int32} : d_57 g v m = some (wr m g 7 (v + 1)) := rfl
theorem c58 (h : GR m g r W H) (hw : WH W H) (hk : rok r) {s : Nat} (hs : s ≤ 1) (h3 : r 3 = s) (hc : 0 ≤ r (15 + s) ∧ r (15 + s) ≤ 9999) (ht : 0 ≤ r 2 ∧ r 2 ≤ 9000000) {d : Int} (d0 : 0 ≤ d) (d1 : d ≤ 1000000) :
    An (d_58 g (zI d) m) (fun p => p.1 = decide (d < r (15 + s)) ∧ GR p.2 g (if d < r (15 + s) then rsp r s d else rtm r s) W H ∧ ∀ a, a ≠ g → p.2 a = m a) := by
  have h' := h
  obtain ⟨-, -, -, -, -, s1, s2, s3, s4, s5, s6, s7, s8⟩ := h'
  unfold d_58
  rw [s2, h3, c52 h hs]
  simp only [obs, wbs]
  rw [zI_min (by omega) (by omega) (by omega) (by omega), wr_nk (by decide), s1, zI_add, s2, h3, zI_sub, c53 hs]
  simp only [obs]
  have fr : ∀ (a : Nat) (v1 v2 : Int32), a ≠ g → wr (wr m g 5 v1) g (11 + s) v2 a = m a := fun a v1 v2 ha => by rw [wr_ne ha, wr_ne ha]
  have hs2 : s = 0 ∨ s = 1 := by omega
  by_cases q : d < r (15 + s)
  · rw [if_pos (by rw [zI_lt (by omega) (by omega) (by omega) (by omega)]; exact q), if_pos q, if_pos q]
    unfold d_58_51
    rw [if_neg (by rw [zI_le (by omega) (by omega) (by omega) (by omega)]; omega), decide_eq_true q]
    refine An.so ⟨rfl, h.cS hw hk.1 hk.2.1 hk.2.2 (fun a a1 a2 => fr a _ _ (by omega)) (fun k _ hk2 => ?_) ?_, fun a ha => fr a _ _ ha⟩
    · unfold rsp
      unfold pS at hk2
      rw [if_neg (by omega), if_neg (by omega)]
    · unfold SV rsp
      rcases hs2 with rfl | rfl <;> simp only [wr_at, Nat.reduceEqDiff, Nat.reduceAdd, if_true, if_false, s1, s2, s3, s4, s5, s6, s7, s8, and_self]
  · rw [if_neg (by rw [zI_lt (by omega) (by omega) (by omega) (by omega)]; exact q), if_neg q, if_neg q]
    unfold d_58_51
    rw [wr_nk (by omega), wr_nk (by decide), s2, h3, zl_1, zI_sub, c57]
    simp only [obs]
    rw [if_pos (by rw [zI_le (by omega) (by omega) (by omega) (by omega)]; omega), decide_eq_false q]
    refine An.so ⟨rfl, h.cS hw hk.1 hk.2.1 hk.2.2 (fun a a1 a2 => by dsimp only; rw [wr_ne (by omega)]; exact fr a _ _ (by omega)) (fun k _ hk2 => ?_) ?_, fun a ha => by dsimp only; rw [wr_ne ha]; exact fr a _ _ ha⟩
    · unfold rtm
      unfold pS at hk2
      rw [if_neg (by omega), if_neg (by omega), if_neg (by omega)]
    · unfold SV rtm
      rcases hs2 with rfl | rfl <;> simp only [wr_at, Nat.reduceEqDiff, Nat.reduceAdd, if_true, if_false, s1, s2, s3, s4, s5, s6, s7, s8, and_self, and_true, true_and, zl_1, zI_add, Int.sub_self]
      · rfl
      · rfl
end RW
