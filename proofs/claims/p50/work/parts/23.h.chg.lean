/-! addFog. -/
section HI
variable {m : Mm} {W H n : Nat} {r : Nat → Int}
/-- where a fog that begins at v goes among the first k -/
def ip (F : Nat → Int) (v : Int) : Nat → Nat
  | 0 => 0
  | k + 1 => if F k ≤ v then k + 1 else ip F v k
theorem ip_f {F : Nat → Int} {v : Int} : ∀ {N : Nat}, ip F v N ≤ N ∧ (∀ i, ip F v N ≤ i → i < N → v < F i) ∧ (0 < ip F v N → F (ip F v N - 1) ≤ v)
  | 0 => ⟨Nat.le_refl _, fun i _ h => absurd h (Nat.not_lt_zero i), fun h => absurd h (Nat.lt_irrefl _)⟩
  | N + 1 => by
    obtain ⟨h1, h2, h3⟩ := ip_f (F := F) (v := v) (N := N)
    unfold ip
    by_cases q : F N ≤ v
    · rw [if_pos q]
      exact ⟨Nat.le_refl _, fun i a b => by omega, fun _ => q⟩
    · rw [if_neg q]
      refine ⟨by omega, fun i a b => ?_, h3⟩
      by_cases e : i = N
      · rw [e]; omega
      · exact h2 i a (by omega)
/-- a row of numbers with one put in -/
def ins (F : Nat → Int) (p : Nat) (v : Int) : Nat → Int := fun k => if k < p then F k else if k = p then v else F (k - 1)
/-- the fogs with one put in -/
def raf (r : Nat → Int) (p : Nat) (f l e : Int) : Nat → Int := fun k => if k = 8 then r 8 + 1 else if 280 + 3 * p ≤ k ∧ k < 280 + 3 * ((r 8).toNat + 1) then (if k = 280 + 3 * p then f else if k = 281 + 3 * p then l else if k = 282 + 3 * p then e else r (k - 3)) else r k
theorem raf_n {p j : Nat} {f l e : Int} (hj : ¬ pF j) (h8 : 0 ≤ r 8 ∧ r 8 < 8) : raf r p f l e j = r j := by
  unfold raf
  unfold pF at hj
  rw [if_neg (by omega), if_neg (by omega)]
theorem raf_0 {p k : Nat} {f l e : Int} (hp : p ≤ (r 8).toNat) (hk : k < (r 8).toNat + 1) : raf r p f l e (280 + 3 * k) = ins (fun k => r (280 + 3 * k)) p f k ∧ raf r p f l e (281 + 3 * k) = ins (fun k => r (281 + 3 * k)) p l k ∧ raf r p f l e (282 + 3 * k) = ins (fun k => r (282 + 3 * k)) p e k := by
  unfold raf ins
  by_cases q : k < p
  · simp only [if_pos q]
    refine ⟨?_, ?_, ?_⟩ <;> rw [if_neg (by omega), if_neg (by omega)]
  · simp only [if_neg q]
    by_cases q2 : k = p
    · simp only [if_pos q2]
      refine ⟨?_, ?_, ?_⟩
      · rw [if_neg (by omega), if_pos (by omega), if_pos (by omega)]
      · rw [if_neg (by omega), if_pos (by omega), if_neg (by omega), if_pos (by omega)]
      · rw [if_neg (by omega), if_pos (by omega), if_neg (by omega), if_neg (by omega), if_pos (by omega)]
    · simp only [if_neg q2]
      refine ⟨?_, ?_, ?_⟩
      · rw [if_neg (by omega), if_pos (by omega), if_neg (by omega), if_neg (by omega), if_neg (by omega)]
        exact congrArg r (by omega)
      · rw [if_neg (by omega), if_pos (by omega), if_neg (by omega), if_neg (by omega), if_neg (by omega)]
        exact congrArg r (by omega)
      · rw [if_neg (by omega), if_pos (by omega), if_neg (by omega), if_neg (by omega), if_neg (by omega)]
        exact congrArg r (by omega)
theorem c41 {φ N : Nat} {F L E : Nat → Int} (ho : oA φ) (h : FV m φ (N : Nat) F L E) (hN : N < 8) (hF : ∀ k, k < N → 0 ≤ F k ∧ F k ≤ 9999) {f l e : Int} (hf : 0 ≤ f ∧ f ≤ 9999) :
    An (d_41 φ (zI f) (zI l) (zI e) m) (fun q => q.1 = zI (ip F f N : Nat) ∧ FV q.2 φ ((N + 1 : Nat) : Int) (ins F (ip F f N) f) (ins L (ip F f N) l) (ins E (ip F f N) e) ∧ ∀ a, a < φ ∨ φ + 3 < a → q.2 a = m a) := by
  obtain ⟨a1, a2, a3, a4, a5, a6⟩ := ho
  obtain ⟨h1, h2⟩ := h
  obtain ⟨p1, p2, p3⟩ := ip_f (F := F) (v := f) (N := N)
  generalize ip F f N = p at *
  unfold d_41
  rw [h1, if_neg (by rw [zl_0, zI_lt (by omega) (by omega) (by omega) (by omega)]; omega), if_pos (by rw [zl_8, zI_lt (by omega) (by omega) (by omega) (by omega)]; omega), wbs]
  unfold d_41_30
  refine it_inv (fun j (u : Int32 × Int32 × Mm) => u.1 = zI ((N - j : Nat) : Int) ∧ u.2.1 = zI ((N - j : Nat) : Int) ∧ u.2.2 φ = m φ ∧ (∀ k, k ≤ N → k ≠ N - j → u.2.2 (φ + 1) k = zI (if N - j < k then F (k - 1) else F k) ∧ u.2.2 (φ + 2) k = zI (if N - j < k then L (k - 1) else L k) ∧ u.2.2 (φ + 3) k = zI (if N - j < k then E (k - 1) else E k)) ∧ ∀ a, a < φ ∨ φ + 3 < a → u.2.2 a = m a) _ (N - p) ⟨rfl, rfl, rfl, fun k hk hne => ?_, fun _ _ => rfl⟩ (fun j hj u hu => ?_) (fun u hu => ?_)
  · rw [if_neg (by omega), if_neg (by omega), if_neg (by omega)]
    exact h2 k (by omega)
  · obtain ⟨z, z', M⟩ := u
    obtain ⟨u1, u1', u2, u3, u4⟩ := hu
    dsimp only at u1 u1' u2 u3 u4
    subst u1
    subst u1'
    obtain ⟨x, hx⟩ : ∃ x, N - j = x + 1 := ⟨N - j - 1, by omega⟩
    rw [hx] at u3 ⊢
    obtain ⟨q1, q2, q3⟩ := u3 x (by omega) (by omega)
    rw [if_neg (by omega)] at q1 q2 q3
    have bx := hF x (by omega)
    have px := p2 x (by omega) (by omega)
    show An (s_41_30 φ (zI f) (zI l) (zI e) (zI ((x + 1 : Nat) : Int)) (zI ((x + 1 : Nat) : Int)) M) _
    unfold s_41_30
    rw [if_neg (by rw [zl_0, zI_le (by omega) (by omega) (by omega) (by omega)]; omega), show (-1 : Int32) = zI (-1) from by decide, zl_1, zI_sub, zI_add, show ((x + 1 : Nat) : Int) - 1 = ((x : Nat) : Int) by omega, show ((x + 1 : Nat) : Int) + -1 = ((x : Nat) : Int) by omega, a1, a2, a3, a4, a5, a6, if_pos (in_k (by omega) (by decide)), z_ix (by omega), q1, if_neg (by rw [zI_le (by omega) (by omega) (by omega) (by omega)]; omega), if_pos (in_k (by omega) (by decide)), if_pos (in_k (by omega) (by decide)), z_ix (by omega), wbs, if_pos (in_k (by omega) (by decide)), if_pos (in_k (by omega) (by decide)), wr_ne (show φ + 2 ≠ φ + 1 by omega), q2, wbs, if_pos (in_k (by omega) (by decide)), if_pos (in_k (by omega) (by decide)), wr_ne (show φ + 3 ≠ φ + 2 by omega), wr_ne (show φ + 3 ≠ φ + 1 by omega), q3, wbs, wbs, wbs]
    have ej : N - (j + 1) = x := by omega
    refine An.so ⟨by dsimp only; rw [ej], by dsimp only; rw [ej], ?_, fun k hk hne => ?_, fun a ha => ?_⟩
    · dsimp only
      rw [wr_ne (by omega), wr_ne (by omega), wr_ne (by omega)]; exact u2
    · dsimp only
      rw [ej] at hne
      simp only [ej]
      by_cases e : k = x + 1
      · subst e
        simp only [if_pos (show x < x + 1 by omega), Nat.add_sub_cancel]
        refine ⟨?_, ?_, ?_⟩
        · rw [wr_ne (by omega), wr_ne (by omega), wr_eq]
        · rw [wr_ne (by omega), wr_eq]
        · rw [wr_eq]
      · obtain ⟨o1, o2, o3⟩ := u3 k hk e
        have ec : (x < k) ↔ (x + 1 < k) := by omega
        simp only [ec]
        refine ⟨?_, ?_, ?_⟩
        · rw [wr_ne (by omega), wr_ne (by omega), wr_nk e]; exact o1
        · rw [wr_ne (by omega), wr_nk e, wr_ne (by omega)]; exact o2
        · rw [wr_nk e, wr_ne (by omega), wr_ne (by omega)]; exact o3
    · dsimp only
      rw [wr_ne (by omega), wr_ne (by omega), wr_ne (by omega)]; exact u4 a ha
  · obtain ⟨z, z', M⟩ := u
    obtain ⟨u1, u1', u2, u3, u4⟩ := hu
    dsimp only at u1 u1' u2 u3 u4
    subst u1
    subst u1'
    have ep : N - (N - p) = p := by omega
    rw [ep] at u3 ⊢
    have fin : An (d_41_108 φ (zI f) (zI l) (zI e) (zI ((p : Nat) : Int)) M) (fun q => q.1 = zI (p : Nat) ∧ FV q.2 φ ((N + 1 : Nat) : Int) (ins F p f) (ins L p l) (ins E p e) ∧ ∀ a, a < φ ∨ φ + 3 < a → q.2 a = m a) := by
      unfold d_41_108
      rw [a1, a2, a3, a4, a5, a6, if_pos (in_k (by omega) (by decide)), z_ix (by omega), wbs, if_pos (in_k (by omega) (by decide)), wbs, if_pos (in_k (by omega) (by decide)), wbs, wbs]
      refine An.so ⟨rfl, ⟨?_, fun k hk => ?_⟩, fun a ha => ?_⟩
      · dsimp only
        rw [wr_eq, wr_ne (by omega), wr_ne (by omega), wr_ne (by omega), u2, h1, zl_1, zI_add]; rfl
      · dsimp only
        by_cases e : k = p
        · subst e
          unfold ins
          simp only [if_neg (Nat.lt_irrefl _), if_pos rfl]
          refine ⟨?_, ?_, ?_⟩
          · rw [wr_ne (by omega), wr_ne (by omega), wr_ne (by omega), wr_eq]; rfl
          · rw [wr_ne (by omega), wr_ne (by omega), wr_eq]; rfl
          · rw [wr_ne (by omega), wr_eq]; rfl
        · obtain ⟨o1, o2, o3⟩ := u3 k (by omega) e
          have ei : ∀ (G : Nat → Int) (v : Int), ins G p v k = if p < k then G (k - 1) else G k := fun G v => by
            unfold ins
            by_cases q : k < p
            · rw [if_pos q, if_neg (by omega)]
            · rw [if_neg q, if_neg e, if_pos (by omega)]
          rw [ei, ei, ei]
          refine ⟨?_, ?_, ?_⟩
          · rw [wr_ne (by omega), wr_ne (by omega), wr_ne (by omega), wr_nk e]; exact o1
          · rw [wr_ne (by omega), wr_ne (by omega), wr_nk e, wr_ne (by omega)]; exact o2
          · rw [wr_ne (by omega), wr_nk e, wr_ne (by omega), wr_ne (by omega)]; exact o3
      · dsimp only
        rw [wr_ne (by omega), wr_ne (by omega), wr_ne (by omega), wr_ne (by omega)]; exact u4 a ha
    show An (s_41_30 φ (zI f) (zI l) (zI e) (zI ((p : Nat) : Int)) (zI ((p : Nat) : Int)) M) _
    unfold s_41_30
    by_cases q0 : p = 0
    · rw [if_pos (by rw [q0]; decide)]
      exact An.mo (fin.mp (fun q hq => hq))
    · obtain ⟨o1, o2, o3⟩ := u3 (p - 1) (by omega) (by omega)
      rw [if_neg (by omega)] at o1
      have bx := hF (p - 1) (by omega)
      have := p3 (by omega)
      rw [if_neg (by rw [zl_0, zI_le (by omega) (by omega) (by omega) (by omega)]; omega), zl_1, zI_sub, show ((p : Nat) : Int) - 1 = ((p - 1 : Nat) : Int) by omega, a1, a4, if_pos (in_k (by omega) (by decide)), z_ix (show p - 1 ≤ 2147483647 by omega), o1, if_pos (by rw [zI_le (by omega) (by omega) (by omega) (by omega)]; exact this)]
      exact An.mo (fin.mp (fun q hq => hq))
end HI
