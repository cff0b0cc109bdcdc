/-! addFog. -/
section HI
variable {m : Mm} {W H n : Nat} {r : Nat → Int}
/-- where a fog that begins at v goes among the first k -/
def ip (F : Nat → Int) (v : Int) : Nat → Nat
  | 0 => 0
  | k + 1 => if F k ≤ v then k + 1 else ip F v k
theorem ip_f {F : Nat → Int} {v : Int} : ∀ {N : Nat}, ip F v N ≤ N ∧ (∀ i, ip F v N ≤ i → i < N → v < F i) ∧ (0 < ip F v N → F (ip F v N - 1) ≤ v)
  | 0 => ⟨Nat.le_refl _, fun i _ h => absurd h (Nat.not_lt_zero i), fun h => absurd h (Nat.lt_irrefl _)⟩
  | N + 1 => by
    obtain ⟨h1, h2, h3⟩ := ip_f (F := F) (v := v) (N := N)
    unfold ip
    by_cases q : F N ≤ v
    · rw [if_pos q]
      exact ⟨Nat.le_refl _, fun i a b => by omega, fun _ => q⟩
    · rw [if_neg q]
      refine ⟨by omega, fun i a b => ?_, h3⟩
      by_cases e : i = N
      · rw [e]; omega
      · exact h2 i a (by omega)
/-- a row of numbers with one put in -/
def ins (F : Nat → Int) (p : Nat) (v : Int) : Nat → Int := fun k => if k < p then F k else if k = p then v else F (k - 1)
/-- the fogs with one put in -/
def raf (r : Nat → Int) (p : Nat) (f l e : Int) : Nat → Int := fun k => if k = 8 then r 8 + 1 else if 280 + 3 * p ≤ k ∧ k < 280 + 3 * ((r 8).toNat + 1) then (if k = 280 + 3 * p then f else if k = 281 + 3 * p then l else if k = 282 + 3 * p then e else r (k - 3)) else r k
theorem raf_n {p j : Nat} {f l e : Int} (hj : ¬ pF j) (h8 : 0 ≤ r 8 ∧ r 8 < 8) : raf r p f l e j = r j := by
  unfold raf
  unfold pF at hj
  rw [if_neg (by omega), if_neg (by omega)]
theorem raf_0 {p k : Nat} {f l e : Int} (hp : p ≤ (r 8).toNat) (hk : k < (r 8).toNat + 1) : raf r p f l e (280 + 3 * k) = ins (fun k => r (280 + 3 * k)) p f k ∧ raf r p f l e (281 + 3 * k) = ins (fun k => r (281 + 3 * k)) p l k ∧ raf r p f l e (282 + 3 * k) = ins (fun k => r (282 + 3 * k)) p e k := by
  unfold raf ins
  by_cases q : k < p
  · simp only [if_pos q]
    refine ⟨?_, ?_, ?_⟩ <;> rw [if_neg (by omega), if_neg (by omega)]
  · simp only [if_neg q]
    by_cases q2 : k = p
    · simp only [if_pos q2]
      refine ⟨?_, ?_, ?_⟩
      · rw [if_neg (by omega), if_pos (by omega), if_pos (by omega)]
      · rw [if_neg (by omega), if_pos (by omega), if_neg (by omega), if_pos (by omega)]
      · rw [if_neg (by omega), if_pos (by omega), if_neg (by omega), if_neg (by omega), if_pos (by omega)]
    · simp only [if_neg q2]
      refine ⟨?_, ?_, ?_⟩
      · rw [if_neg (by omega), if_pos (by omega), if_neg (by omega), if_neg (by omega), if_neg (by omega)]
        exact congrArg r (by omega)
      · rw [if_neg (by omega), if_pos (by omega), if_neg (by omega), if_neg (by omega), if_neg (by omega)]
        exact congrArg r (by omega)
      · rw [if_neg (by omega), if_pos (by omega), if_neg (by omega), if_neg (by omega), if_neg (by omega)]
        exact congrArg r (by omega)
theorem c41 {φ N : Nat} {F L E : Nat → Int} (ho : oA φ) (h : FV m φ (N : Nat) F L E) (hN : N < 8) (hF : ∀ k, k < N → 0 ≤ F k ∧ F k ≤ 9999) {f l e : Int} (hf : 0 ≤ f ∧ f ≤ 9999) :
    An (d_41 φ (zI f) (zI l) (zI e) m) (fun q => q.1 = zI (ip F f N : Nat) ∧ FV q.2 φ ((N + 1 : Nat) : Int) (ins F (ip F f N) f) (ins L (ip F f N) l) (ins E (ip F f N) e) ∧ ∀ a, a < φ ∨ φ + 3 < a → q.2 a = m a) := by
  obtain ⟨a1, a2, a3, a4, a5, a6⟩ := ho
  obtain ⟨h1, h2⟩ := h
  obtain ⟨p1, p2, p3⟩ := ip_f (F := F) (v := f) (N := N)
  generalize ip F f N = p at *
  unfold d_41
  rw [h1, if_neg (by rw [zl_0, zI_lt (by omega) (by omega) (by omega) (by omega)]; omega), if_pos (by rw [zl_8, zI_lt (by omega) (by omega) (by omega) (by omega)]; omega), wbs]
  unfold d_41_30
  refine it_inv (fun j (u : Int32 × Int32 × Mm) => u.1 = zI ((N - j : Nat) : Int) ∧ u.2.1 = zI ((N - j : Nat) : Int) ∧ u.2.2 φ = m φ ∧ (∀ k, k ≤ N → k ≠ N - j → u.2.2 (φ + 1) k = zI (if N - j < k then F (k - 1) else F k) ∧ u.2.2 (φ + 2) k = zI (if N - j < k then L (k - 1) else L k) ∧ u.2.2 (φ + 3) k = zI (if N - j < k then E (k - 1) else E k)) ∧ ∀ a, a < φ ∨ φ + 3 < a → u.2.2 a = m a) _ (N - p) ⟨rfl, rfl, rfl, fun k hk hne => ?_, fun _ _ => rfl⟩ (fun j hj u hu => ?_) (fun u hu => ?_)
  · rw [if_neg (by omega), if_neg (by omega), if_neg (by omega)]
    exact h2 k (by omega)
  · obtain ⟨z, z', M⟩ := u
    obtain ⟨u1, u1', u2, u3, u4⟩ := hu
    dsimp only at u1 u1' u2 u3 u4
    subst u1
    subst u1'
    obtain ⟨x, hx⟩ : ∃ x, N - j = x + 1 := ⟨N - j - 1, by omega⟩
    rw [hx] at u3 ⊢
    obtain ⟨q1, q2, q3⟩ := u3 x (by omega) (by omega)
    rw [if_neg (by omega)] at q1 q2 q3
    have bx := hF x (by omega)
    have px := p2 x (by omega) (by omega)
    show An (s_41_30 φ (zI f) (zI l) (zI e) (zI ((x + 1 : Nat) : Int)) (zI ((x + 1 : Nat) : Int)) M) _
    unfold s_41_30
    rw [if_neg (by rw [zl_0, zI_le (by omega) (by omega) (by omega) (by omega)]; omega), show (-1 : Int32) = zI (-1) from by decide, zl_1, zI_sub, zI_add, show ((x + 1 : Nat) : Int) - 1 = ((x : Nat) : Int) by omega, show ((x + 1 : Nat) : Int) + -1 = ((x : Nat) : Int) by omega, a1, a2, a3, a4, a5, a6, if_pos (in_k (by omega) (by decide)), z_ix (by omega), q1, if_neg (by rw [zI_le (by omega) (by omega) (by omega) (by omega)]; omega), if_pos (in_k (by omega) (by decide)), if_pos (in_k (by omega) (by decide)), z_ix (by omega), wbs, if_pos (in_k (by omega) (by decide)), if_pos (in_k (by omega) (by decide)), wr_ne (show φ + 2 ≠ φ + 1 by omega), q2, wbs, if_pos (in_k (by omega) (by decide)), if_pos (in_k (by omega) (by decide)), wr_ne (show φ + 3 ≠ φ + 2 by omega), wr_ne (show φ + 3 ≠ φ + 1 by omega), q3, wbs, wbs, wbs]
    have ej : N - (j + 1) = x := by omega
    refine An.so ⟨by dsimp only; rw [ej], by dsimp only; rw [ej], ?_, fun k hk hne => ?_, fun a ha => ?_⟩
    · dsimp only
      rw [wr_ne (by omega), wr_ne (by omega), wr_ne (by omega)]; exact u2
    · dsimp only
      rw [ej] at hne
      simp only [ej]
      by_cases e : k = x + 1
      · subst e
        simp only [if_pos (show x < x + 1 by omega), Nat.add_sub_cancel]
        refine ⟨?_, ?_, ?_⟩
        · rw [wr_ne (by omega), wr_ne (by omega), wr_eq]
        · rw [wr_ne (by omega), wr_eq]
        · rw [wr_eq]
      · obtain ⟨o1, o2, o3⟩ := u3 k hk e
        have ec : (x < k) ↔ (x + 1 < k) := by omega
        simp only [ec]
        refine ⟨?_, ?_, ?_⟩
        · rw [wr_ne (by omega), wr_ne (by omega), wr_nk e]; exact o1
        · rw [wr_ne (by omega), wr_nk e, wr_ne (by omega)]; exact o2
        · rw [wr_nk e, wr_ne (by omega), wr_ne (by omega)]; exact o3
    · dsimp only
      rw [wr_ne (by omega), wr_ne (by omega), wr_ne (by omega)]; exact u4 a ha
  · obtain ⟨z, z', M⟩ := u
    obtain ⟨u1, u1', u2, u3, u4⟩ := hu
    dsimp only at u1 u1' u2 u3 u4
    subst u1
    subst u1'
    have ep : N - (N - p) = p := by omega
    rw [ep] at u3 ⊢
    have fin : An (d_41_108 φ (zI f) (zI l) (zI e) (zI ((p : Nat) : Int)) M) (fun q => q.1 = zI (p : Nat) ∧ FV q.2 φ ((N + 1 : Nat) : Int) (ins F p f) (ins L p l) (ins E p e) ∧ ∀ a, a < φ ∨ φ + 3 < a → q.2 a = m a) := by
      unfold d_41_108
      rw [a1, a2, a3, a4, a5, a6, if_pos (in_k (by omega) (by decide)), z_ix (by omega), wbs, if_pos (in_k (by omega) (by decide)), wbs, if_pos (in_k (by omega) (by decide)), wbs, wbs]
      refine An.so ⟨rfl, ⟨?_, fun k hk => ?_⟩, fun a ha => ?_⟩
      · dsimp only
        rw [wr_eq, wr_ne (by omega), wr_ne (by omega), wr_ne (by omega), u2, h1, zl_1, zI_add]; rfl
      · dsimp only
        by_cases e : k = p
        · subst e
          unfold ins
          simp only [if_neg (Nat.lt_irrefl _), if_pos rfl]
          refine ⟨?_, ?_, ?_⟩
          · rw [wr_ne (by omega), wr_ne (by omega), wr_ne (by omega), wr_eq]; rfl
          · rw [wr_ne (by omega), wr_ne (by omega), wr_eq]; rfl
          · rw [wr_ne (by omega), wr_eq]; rfl
        · obtain ⟨o1, o2, o3⟩ := u3 k (by omega) e
          have ei : ∀ (G : Nat → Int) (v : Int), ins G p v k = if p < k then G (k - 1) else G k := fun G v => by
            unfold ins
            by_cases q : k < p
            · rw [if_pos q, if_neg (by omega)]
            · rw [if_neg q, if_neg e, if_pos (by omega)]
          rw [ei, ei, ei]
          refine ⟨?_, ?_, ?_⟩
          · rw [wr_ne (by omega), wr_ne (by omega), wr_ne (by omega), wr_nk e]; exact o1
          · rw [wr_ne (by omega), wr_ne (by omega), wr_nk e, wr_ne (by omega)]; exact o2
          · rw [wr_ne (by omega), wr_nk e, wr_ne (by omega), wr_ne (by omega)]; exact o3
      · dsimp only
        rw [wr_ne (by omega), wr_ne (by omega), wr_ne (by omega), wr_ne (by omega)]; exact u4 a ha
    show An (s_41_30 φ (zI f) (zI l) (zI e) (zI ((p : Nat) : Int)) (zI ((p : Nat) : Int)) M) _
    unfold s_41_30
    by_cases q0 : p = 0
    · rw [if_pos (by rw [q0]; decide)]
      exact An.mo (fin.mp (fun q hq => hq))
    · obtain ⟨o1, o2, o3⟩ := u3 (p - 1) (by omega) (by omega)
      rw [if_neg (by omega)] at o1
      have bx := hF (p - 1) (by omega)
      have := p3 (by omega)
      rw [if_neg (by rw [zl_0, zI_le (by omega) (by omega) (by omega) (by omega)]; omega), zl_1, zI_sub, show ((p : Nat) : Int) - 1 = ((p - 1 : Nat) : Int) by omega, a1, a4, if_pos (in_k (by omega) (by decide)), z_ix (show p - 1 ≤ 2147483647 by omega), o1, if_pos (by rw [zI_le (by omega) (by omega) (by omega) (by omega)]; exact this)]
      exact An.mo (fin.mp (fun q hq => hq))
theorem m241 {M : Mm} (hM : MR M r) (h8 : 0 ≤ r 8 ∧ r 8 < 8) (hF : ∀ k : Nat, (k : Int) < r 8 → 0 ≤ r (280 + 3 * k) ∧ r (280 + 3 * k) ≤ 9999) {f l e : Int} (hf : 0 ≤ f ∧ f ≤ 9999) :
    An (d_241 249 (zI f) (zI l) (zI e) M) (fun q => q.1 = zI (ip (fun k => r (280 + 3 * k)) f (r 8).toNat : Nat) ∧ MR q.2 (raf r (ip (fun k => r (280 + 3 * k)) f (r 8).toNat) f l e) ∧ ∀ a, a ≠ 250 → q.2 a = M a) := by
  obtain ⟨N, hN⟩ : ∃ N : Nat, r 8 = (N : Nat) := ⟨(r 8).toNat, by omega⟩
  have eN : (r 8).toNat = N := by omega
  rw [eN]
  obtain ⟨p1, p2, p3⟩ := ip_f (F := fun k => r (280 + 3 * k)) (v := f) (N := N)
  generalize hp : ip (fun k => r (280 + 3 * k)) f N = p at *
  unfold d_241
  rw [show (8 : Int32) = zI ((8 : Nat) : Int) from rfl]
  refine i_r (by decide) ?_
  rw [mr_k (by decide) hM, hN]
  unfold d_241_9
  refine it_inv (fun j (u : Int32 × Mm) => u.1 = zI ((N - j : Nat) : Int) ∧ MR u.2 (fun k => if 280 + 3 * (N - j + 1) ≤ k ∧ k < 280 + 3 * (N + 1) then r (k - 3) else r k) ∧ ∀ a, a ≠ 250 → u.2 a = M a) _ (N - p) ⟨rfl, hM.cg (fun k hk => if_neg (by omega)), fun _ _ => rfl⟩ (fun j hj u hu => ?_) (fun u hu => ?_)
  · obtain ⟨z, M2⟩ := u
    obtain ⟨u1, u2, u3⟩ := hu
    dsimp only at u1 u2 u3
    subst u1
    obtain ⟨x, hx⟩ : ∃ x, N - j = x + 1 := ⟨N - j - 1, by omega⟩
    rw [hx] at u2 ⊢
    have bx := hF x (by omega)
    have px := p2 x (by omega) (by omega)
    have e231 : ∀ (M3 : Mm) (ρ : Nat → Int) (w : Nat), MR M3 ρ → w < 3 → d_231 249 (zI ((x : Nat) : Int)) (zI ((w : Nat) : Int)) M3 = some (zI (ρ (280 + 3 * x + w))) := fun M3 ρ w h3 hw => m231 h3 (by omega) hw
    show An (s_241_9 249 (zI f) (zI l) (zI e) (zI ((x + 1 : Nat) : Int)) M2) _
    unfold s_241_9
    rw [if_neg (by rw [zl_0, zI_le (by omega) (by omega) (by omega) (by omega)]; omega), zl_1, zI_sub, show ((x + 1 : Nat) : Int) - 1 = ((x : Nat) : Int) by omega, show d_231 249 (zI ((x : Nat) : Int)) 0 M2 = d_231 249 (zI ((x : Nat) : Int)) (zI ((0 : Nat) : Int)) M2 from rfl, e231 M2 _ 0 u2 (by decide)]
    simp only [obs]
    rw [if_neg (show ¬ (280 + 3 * (x + 1 + 1) ≤ 280 + 3 * x + 0 ∧ 280 + 3 * x + 0 < 280 + 3 * (N + 1)) by omega), Nat.add_zero, if_neg (by rw [zI_le (by omega) (by omega) (by omega) (by omega)]; omega)]
    have ej : N - (j + 1) = x := by omega
    unfold d_241_30
    rw [zl_0]
    refine (it_inv (fun w (u : Int32 × Mm) => u.1 = zI ((w : Nat) : Int) ∧ MR u.2 (fun k => if (280 + 3 * (x + 1 + 1) ≤ k ∧ k < 280 + 3 * (N + 1)) ∨ (280 + 3 * (x + 1) ≤ k ∧ k < 280 + 3 * (x + 1) + w) then r (k - 3) else r k) ∧ ∀ a, a ≠ 250 → u.2 a = M a) (fun (v : (Int32 × Mm) ⊕ (Int32 × Mm)) => ∃ M3, v = .inl (zI ((x : Nat) : Int), M3) ∧ MR M3 (fun k => if 280 + 3 * (x + 1) ≤ k ∧ k < 280 + 3 * (N + 1) then r (k - 3) else r k) ∧ ∀ a, a ≠ 250 → M3 a = M a) 3 ⟨rfl, u2.cg (fun k hk => ?_), u3⟩ (fun w hw v hv => ?_) (fun v hv => ?_)).mp (fun v hv => ?_)
    · by_cases q : 280 + 3 * (x + 1 + 1) ≤ k ∧ k < 280 + 3 * (N + 1)
      · rw [if_pos (Or.inl q), if_pos q]
      · rw [if_neg (by omega), if_neg q]
    · obtain ⟨z, M3⟩ := v
      obtain ⟨v1, v2, v3⟩ := hv
      dsimp only at v1 v2 v3
      subst v1
      show An (s_241_30 249 (zI f) (zI l) (zI e) (zI ((x + 1 : Nat) : Int)) (zI ((w : Nat) : Int)) M3) _
      unfold s_241_30
      rw [if_neg (by rw [zl_3, zI_le (by omega) (by omega) (by omega) (by omega)]; omega), zl_1, zI_sub, show ((x + 1 : Nat) : Int) - 1 = ((x : Nat) : Int) by omega, e231 M3 _ w v2 hw]
      simp only [obs]
      rw [zl_280, zl_3, zI_mul, zI_add, zI_add, show (280 : Int) + 3 * ((x + 1 : Nat) : Int) + (w : Nat) = ((280 + 3 * (x + 1) + w : Nat) : Int) by omega, if_neg (show ¬ (280 + 3 * (x + 1 + 1) ≤ 280 + 3 * x + w ∧ 280 + 3 * x + w < 280 + 3 * (N + 1) ∨ 280 + 3 * (x + 1) ≤ 280 + 3 * x + w ∧ 280 + 3 * x + w < 280 + 3 * (x + 1) + w) by omega)]
      refine i_r (by omega) ?_
      rw [wbs, wbs]
      refine An.so ⟨by dsimp only; rw [zI_add]; rfl, (v2.pt (k := 280 + 3 * (x + 1) + w) (by omega)).cg (fun k hk => ?_), fun a ha => by dsimp only; rw [wr_r ha]; exact v3 a ha⟩
      unfold rs
      dsimp only
      by_cases k1 : k = 280 + 3 * (x + 1) + w
      · rw [if_pos (by omega), if_pos k1, k1]
        exact congrArg r (by omega)
      · rw [if_neg k1]
        by_cases k2 : (280 + 3 * (x + 1 + 1) ≤ k ∧ k < 280 + 3 * (N + 1)) ∨ (280 + 3 * (x + 1) ≤ k ∧ k < 280 + 3 * (x + 1) + w)
        · rw [if_pos k2, if_pos (by omega)]
        · rw [if_neg k2, if_neg (by omega)]
    · obtain ⟨z, M3⟩ := v
      obtain ⟨v1, v2, v3⟩ := hv
      dsimp only at v1 v2 v3
      subst v1
      show An (s_241_30 249 (zI f) (zI l) (zI e) (zI ((x + 1 : Nat) : Int)) (zI ((3 : Nat) : Int)) M3) _
      unfold s_241_30 d_241_68
      rw [if_pos (by decide), zl_1, zI_sub, show ((x + 1 : Nat) : Int) - 1 = ((x : Nat) : Int) by omega, wbs]
      refine An.mo (An.so ⟨M3, rfl, v2.cg (fun k hk => ?_), v3⟩)
      by_cases k2 : 280 + 3 * (x + 1) ≤ k ∧ k < 280 + 3 * (N + 1)
      · rw [if_pos k2, if_pos (by omega)]
      · rw [if_neg k2, if_neg (by omega)]
    · obtain ⟨M3, e, g3, f3⟩ := hv
      rw [e]
      exact ⟨by dsimp only; rw [ej], by rw [ej]; exact g3, f3⟩
  · obtain ⟨z, M2⟩ := u
    obtain ⟨u1, u2, u3⟩ := hu
    dsimp only at u1 u2 u3
    subst u1
    have ep : N - (N - p) = p := by omega
    rw [ep] at u2 ⊢
    have fin : An (d_241_77 249 (zI f) (zI l) (zI e) (zI ((p : Nat) : Int)) M2) (fun q => q.1 = zI (p : Nat) ∧ MR q.2 (raf r p f l e) ∧ ∀ a, a ≠ 250 → q.2 a = M a) := by
      unfold d_241_77
      rw [zl_280, zl_3, zI_mul, zI_add, show (280 : Int) + 3 * ((p : Nat) : Int) = ((280 + 3 * p : Nat) : Int) by omega, z1n, z2n, z_ad, z_ad, show (8 : Int32) = zI ((8 : Nat) : Int) from rfl]
      refine i_r (by omega) ?_
      rw [wbs]
      have h1 := u2.pt (k := 280 + 3 * p) (by omega) (v := f)
      refine i_r (by omega) ?_
      rw [wbs]
      have h2 := h1.pt (k := 280 + 3 * p + 1) (by omega) (v := l)
      refine i_r (by omega) ?_
      rw [wbs]
      have h3 := h2.pt (k := 280 + 3 * p + 2) (by omega) (v := e)
      refine i_r (by decide) (i_r (by decide) ?_)
      rw [mr_k (by decide) h3, rs_ne (by omega), rs_ne (by omega), rs_ne (by omega), if_neg (by omega), zI_add, wbs]
      have h4 := h3.pt (k := 8) (by decide) (v := r 8 + (1 : Nat))
      refine An.so ⟨rfl, h4.cg (fun k hk => ?_), fun a ha => by dsimp only; rw [wr_r ha, wr_r ha, wr_r ha, wr_r ha]; exact u3 a ha⟩
      unfold raf rs
      rw [eN]
      by_cases k8 : k = 8
      · rw [if_pos k8, if_pos k8]; rfl
      · rw [if_neg k8, if_neg k8]
        by_cases k1 : k = 280 + 3 * p
        · rw [if_pos (by omega), if_pos k1, if_neg (by omega), if_neg (by omega), if_pos k1]
        · by_cases k2 : k = 281 + 3 * p
          · rw [if_pos (by omega), if_neg k1, if_pos k2, if_neg (by omega), if_pos (by omega)]
          · by_cases k3 : k = 282 + 3 * p
            · rw [if_pos (by omega), if_neg k1, if_neg k2, if_pos k3, if_pos (by omega)]
            · rw [if_neg k1, if_neg k2, if_neg k3, if_neg (show ¬ k = 280 + 3 * p + 2 by omega), if_neg (show ¬ k = 280 + 3 * p + 1 by omega), if_neg k1]
              dsimp only
              by_cases k4 : 280 + 3 * p ≤ k ∧ k < 280 + 3 * (N + 1)
              · rw [if_pos k4, if_pos (by omega)]
              · rw [if_neg k4, if_neg (by omega)]
    show An (s_241_9 249 (zI f) (zI l) (zI e) (zI ((p : Nat) : Int)) M2) _
    unfold s_241_9
    by_cases q0 : p = 0
    · rw [if_pos (by rw [q0]; decide)]
      exact An.mo (fin.mp (fun q hq => hq))
    · have bx := hF (p - 1) (by omega)
      have px := p3 (by omega)
      have e231 : d_231 249 (zI ((p - 1 : Nat) : Int)) (zI ((0 : Nat) : Int)) M2 = some (zI (r (280 + 3 * (p - 1)))) := by
        rw [m231 u2 (by omega) (by decide), if_neg (by omega)]
        rfl
      rw [if_neg (by rw [zl_0, zI_le (by omega) (by omega) (by omega) (by omega)]; omega), zl_1, zI_sub, show ((p : Nat) : Int) - 1 = ((p - 1 : Nat) : Int) by omega, show d_231 249 (zI ((p - 1 : Nat) : Int)) 0 M2 = d_231 249 (zI ((p - 1 : Nat) : Int)) (zI ((0 : Nat) : Int)) M2 from rfl, e231]
      simp only [obs]
      rw [if_pos (by rw [zI_le (by omega) (by omega) (by omega) (by omega)]; exact px)]
      exact An.mo (fin.mp (fun q hq => hq))
theorem m240x {M : Mm} (hM : MR M r) (h8 : 0 ≤ r 8 ∧ r 8 ≤ 8) (hF : ∀ k : Nat, (k : Int) < r 8 → 0 ≤ r (280 + 3 * k) ∧ r (280 + 3 * k) ≤ 9999) {v : Int} (v1 : 0 ≤ v) (v2 : v ≤ 9999) : An (d_240 249 (zI v) M) (fun q => q = -1 ↔ ¬ ff (fun k => decide (r (280 + 3 * k) = v)) (r 8).toNat < (r 8).toNat) := by
  obtain ⟨N, hN⟩ : ∃ N : Nat, r 8 = (N : Nat) := ⟨(r 8).toNat, by omega⟩
  have eN : (r 8).toNat = N := by omega
  rw [eN]
  have key := it_ff (F := fun s => s_240_2 249 (zI v) M s) (fun k => zI (k : Nat)) (fun k => decide (r (280 + 3 * k) = v)) (fun k => zI (k : Nat)) (-1) N (fun k hk hp => ?_) (fun k hk hp => ?_) ?_
  · unfold d_240 d_240_2
    rw [zl_0]
    refine An.of key ?_
    by_cases q : ff (fun k => decide (r (280 + 3 * k) = v)) N < N
    · rw [if_pos q]
      refine ⟨fun e => ?_, fun h => absurd q h⟩
      rw [show (-1 : Int32) = zI (-1) from by decide, zI_inj (by omega) (by omega) (by omega) (by omega)] at e
      omega
    · rw [if_neg q]
      exact ⟨fun _ => q, fun _ => rfl⟩
  · have bx := hF k (by omega)
    have hp' := of_decide_eq_false hp
    unfold s_240_2
    rw [show (8 : Int32) = zI ((8 : Nat) : Int) from rfl, if_pos (in_r (by decide)), mr_k (by decide) hM, hN, if_neg (by rw [zI_le (by omega) (by omega) (by omega) (by omega)]; omega), z0n, m231 hM (by omega) (by decide)]
    simp only [obs]
    rw [Nat.add_zero, if_pos (by rw [zI_inj (by omega) (by omega) (by omega) (by omega)]; exact hp'), wbs, zl_1, zI_add]
    rfl
  · have bx := hF k (by omega)
    have hp' := of_decide_eq_true hp
    unfold s_240_2
    rw [show (8 : Int32) = zI ((8 : Nat) : Int) from rfl, if_pos (in_r (by decide)), mr_k (by decide) hM, hN, if_neg (by rw [zI_le (by omega) (by omega) (by omega) (by omega)]; omega), z0n, m231 hM (by omega) (by decide)]
    simp only [obs]
    rw [Nat.add_zero, if_neg (by rw [hp']; exact fun e => e rfl)]
  · unfold s_240_2
    rw [show (8 : Int32) = zI ((8 : Nat) : Int) from rfl, if_pos (in_r (by decide)), mr_k (by decide) hM, hN, if_pos (by rw [zI_le (by omega) (by omega) (by omega) (by omega)]; omega)]
theorem P_37 (hn : n ≤ 512) (hI : Inv n m) : ∀ (a1 a2 a3 : Int32), PR n m (d_341 20 a1 a2 a3 266 m) (fun m1 => d_278 249 a1 a2 a3 m1) := by
  intro f l e
  obtain ⟨f, rfl, hf⟩ := zI_ex f
  obtain ⟨l, rfl, hl⟩ := zI_ex l
  obtain ⟨e, rfl, he⟩ := zI_ex e
  obtain ⟨r, W, H, hG⟩ := hI.2.2.1
  have hW := iG_w hG
  have hk := hG.2.1.rok
  obtain ⟨f1, f2, f3⟩ := iG_F hG
  have h8 : 0 ≤ r 8 ∧ r 8 ≤ 8 := ⟨by omega, hk.1⟩
  have hF : ∀ k : Nat, (k : Int) < r 8 → 0 ≤ r (280 + 3 * k) ∧ r (280 + 3 * k) ≤ 9999 := fun k hk => (f2.2 k (by omega)).1
  have e34 : m 34 3 = zI (r 8) := by rw [f3]; exact f1.1
  have no : ∀ M, d_278_41 249 (zI f) (zI l) (zI e) false M = some (0, wr M 249 0 (zI 1)) := fun M => by
    unfold d_278_41
    simp only [m183, obs, ifn, Bool.false_eq_true]
  by_cases q1 : 0 ≤ f ∧ f ≤ 9999
  · by_cases q2 : 1 ≤ l ∧ l ≤ 999
    · by_cases q3 : 1 ≤ e ∧ e ≤ 9
      · have y1 : ∀ M, d_278 249 (zI f) (zI l) (zI e) M = d_278_41 249 (zI f) (zI l) (zI e) true M := fun M => by
          unfold d_278
          rw [zl_0, zl_9999, zl_1, show (999 : Int32) = zI 999 from rfl, zl_9, m185 hf.1 hf.2 (by decide) (by decide) (by decide) (by decide), decide_eq_true q1]
          simp only [obs, ift]
          rw [m185 hl.1 hl.2 (by decide) (by decide) (by decide) (by decide), decide_eq_true q2]
          simp only [obs, ift]
          rw [m185 he.1 he.2 (by decide) (by decide) (by decide) (by decide), decide_eq_true q3]
          simp only [obs, ift]
        have e39 : d_39 34 m = some (decide (8 ≤ r 8)) := by
          unfold d_39
          rw [e34]
          by_cases q : r 8 < 8
          · rw [if_pos (by rw [zl_8, zI_lt (by omega) (by omega) (by omega) (by omega)]; exact q), decide_eq_false (by omega)]
          · rw [if_neg (by rw [zl_8, zI_lt (by omega) (by omega) (by omega) (by omega)]; exact q), decide_eq_true (by omega)]
        have e40 := c40 iG_o f1 f2 q1.1 q1.2
        have cls : ∀ (g : Option ((Int32 ⊕ Nat) × Mm)), (d_159 20 (zI f) (zI l) (zI e) m = g) → d_341 20 (zI f) (zI l) (zI e) 266 m = bE g (fun v2 m1 => if ev_in 0 (sh_n 266) = true then (wb (wr m1 266 (ix 0) v2) fun m3 => some (0, m3)) else none) (fun e4 m1 => if e4 = 0 then (some (1, m1)) else if e4 = 2 then (some (2, m1)) else none) := fun g hg => by
          unfold d_341
          rw [hg]
        have c159 : d_159 20 (zI f) (zI l) (zI e) m = if 8 ≤ r 8 then some (.inr 2, m) else if ff (fun k => decide (rF r k = f)) (r 8).toNat < (r 8).toNat then some (.inr 2, m) else ((d_65 80 23 m).bind fun m9 => (d_41 34 (zI f) (zI l) (zI e) m9).bind fun r10 => some (.inl r10.1, r10.2)) := by
          unfold d_159 d_159_50
          rw [zl_0, zl_9999, zl_1, show (999 : Int32) = zI 999 from rfl, zl_9, k177y hf.1 hf.2 (by decide) (by decide) (by decide) (by decide) q1, bE_l, k177y hl.1 hl.2 (by decide) (by decide) (by decide) (by decide) q2, bE_l, k177y he.1 he.2 (by decide) (by decide) (by decide) (by decide) q3, bE_l, fogs_r, e39, k_r1, k_r5]
          simp only [obs]
          by_cases q : 8 ≤ r 8
          · rw [decide_eq_true q, if_pos rfl, if_pos q]
          · rw [decide_eq_false q, if_neg (by decide), if_neg q, e40]
            simp only [obs]
            by_cases qf : ff (fun k => decide (rF r k = f)) (r 8).toNat < (r 8).toNat
            · rw [decide_eq_true qf, if_pos rfl, if_pos qf]
            · rw [decide_eq_false qf, if_neg (by decide), if_neg qf]
        have ref2 : ∀ M, MR M r → (8 ≤ r 8 ∨ ff (fun k => decide (rF r k = f)) (r 8).toNat < (r 8).toNat) → d_278_41 249 (zI f) (zI l) (zI e) true M = some (0, wr M 249 0 (zI 2)) := fun M hM hq => by
          unfold d_278_41
          simp only [m183, obs, ift]
          rw [show (8 : Int32) = zI ((8 : Nat) : Int) from rfl, if_pos (in_r (by decide)), mr_k (by decide) hM.told]
          have no2 : d_278_79 249 (zI f) (zI l) (zI e) 249 false (wr M 249 0 (zI 0)) = some (0, wr M 249 0 (zI 2)) := by
            unfold d_278_79
            simp only [m184, obs, ifn, wr_wr, Bool.false_eq_true]
            rfl
          by_cases q : 8 ≤ r 8
          · rw [if_pos (by rw [zI_le (by omega) (by omega) (by omega) (by omega)]; exact q), no2]
          · rw [if_neg (by rw [zI_le (by omega) (by omega) (by omega) (by omega)]; exact q)]
            obtain ⟨z, ez, hz⟩ := m240x (hM.told (v := zI 0)) h8 hF q1.1 q1.2
            rw [ez]
            simp only [obs]
            rw [if_pos (fun h => (hz.mp h) (hq.resolve_left q)), no2]
        by_cases q : 8 ≤ r 8 ∨ ff (fun k => decide (rF r k = f)) (r 8).toNat < (r 8).toNat
        · refine PR_of hI (code := 2) (v := 0) (Or.inr (Or.inr (Or.inl rfl))) ?_ (fun m1 qe => ?_)
          · have : d_159 20 (zI f) (zI l) (zI e) m = some (.inr 2, m) := by
              rw [c159]
              by_cases q8 : 8 ≤ r 8
              · rw [if_pos q8]
              · rw [if_neg q8, if_pos (q.resolve_left q8)]
            rw [cls _ this, bE_r, if_neg (by decide), if_pos rfl]
            exact lq_ex (c := 2) (by decide) (Qe.rf m)
          · rw [y1, ref2 m1 (hG.q qe).1 q]
            exact rq_t (code := 2) (fun e => by cases e)
        · have q8 : ¬ 8 ≤ r 8 := fun h => q (Or.inl h)
          have qf : ¬ ff (fun k => decide (rF r k = f)) (r 8).toNat < (r 8).toNat := fun h => q (Or.inr h)
          have hRn : RG (n + 1 : Nat) r W H := hG.2.1.mono (by omega)
          obtain ⟨p1, -, -⟩ := ip_f (F := fun k => r (280 + 3 * k)) (v := f) (N := (r 8).toNat)
          have e8 : ∀ p, raf r p f l e 8 = r 8 + 1 := fun p => if_pos rfl
          generalize hp : ip (fun k => r (280 + 3 * k)) f (r 8).toNat = p at p1
          have hR' : RG (n + 1 : Nat) (raf r p f l e) W H := by
            refine hRn.cF (fun j _ hj => raf_n hj (by omega)) ?_
            unfold rF_ FB
            rw [e8]
            refine ⟨by omega, by omega, fun k hk2 => ?_⟩
            dsimp only
            obtain ⟨o1, o2, o3⟩ := raf_0 (r := r) (p := p) (k := k) (f := f) (l := l) (e := e) p1 (by omega)
            rw [o1, o2, o3]
            unfold ins
            by_cases qa : k < p
            · simp only [if_pos qa]
              exact f2.2 k (by omega)
            · simp only [if_neg qa]
              by_cases qb : k = p
              · simp only [if_pos qb]
                exact ⟨q1, q2, q3⟩
              · simp only [if_neg qb]
                exact f2.2 (k - 1) (by omega)
          refine PR_ch hI hG hR' (v := zI (p : Nat)) ?_ (fun M hM _ hc => ?_)
          · rw [cls _ rfl, c159, if_neg q8, if_neg qf]
            refine ch_bE (r' := raf r p f l e) ?_
            refine (c65i hI hG).bd (fun M0 h0 => ?_)
            obtain ⟨g0, k0, f0⟩ := h0
            have f1' : FV M0 34 ((r 8).toNat : Nat) (rF r) (rL r) (rE r) := f1.mm (fun a a1 a2 => f0 a (by omega) (by omega))
            refine (c41 iG_o f1' (by omega) (fun k hk => hF k (by omega)) q1 (l := l) (e := e)).bd (fun q10 h10 => ?_)
            obtain ⟨t1, t2, t3⟩ := h10
            have hp' : ip (rF r) f (r 8).toNat = p := hp
            rw [hp'] at t1 t2
            rw [t1]
            refine An.so ⟨M0, q10.2, rfl, k0, f0, fun a ha => t3 a (by omega), g0.cF hW hk.2.1 hk.2.2 (fun a a1 a2 a3 => t3 a (by omega)) (fun j _ hj => raf_n hj (by omega)) ?_⟩
            have ecast : (((r 8).toNat + 1 : Nat) : Int) = r 8 + 1 := by omega
            rw [ecast] at t2
            rw [e8]
            exact FV.cg t2 (fun k hk => (raf_0 (r := r) (p := p) (k := k) (f := f) (l := l) (e := e) p1 (by omega)).1) (fun k hk => (raf_0 (r := r) (p := p) (k := k) (f := f) (l := l) (e := e) p1 (by omega)).2.1) (fun k hk => (raf_0 (r := r) (p := p) (k := k) (f := f) (l := l) (e := e) p1 (by omega)).2.2)
          · show An (d_278 249 (zI f) (zI l) (zI e) M) _
            rw [y1]
            unfold d_278_41
            simp only [m183, obs, ift]
            rw [show (8 : Int32) = zI ((8 : Nat) : Int) from rfl, if_pos (in_r (by decide)), mr_k (by decide) hM.told, if_neg (by rw [zI_le (by omega) (by omega) (by omega) (by omega)]; exact q8)]
            obtain ⟨z, ez, hz⟩ := m240x (hM.told (v := zI 0)) h8 hF q1.1 q1.2
            rw [ez]
            simp only [obs]
            rw [if_neg (fun h => h (hz.mpr qf))]
            unfold d_278_79
            simp only [m184, obs, ift, wr_wr]
            refine m188.bd (fun M0 h0 => ?_)
            have g0 : MR M0 r := hM.told.mm (h0.2 250 (by decide))
            refine (m241 g0 (by omega) hF q1 (l := l) (e := e)).bd (fun q5 h5 => ?_)
            obtain ⟨t1, t2, t3⟩ := h5
            rw [hp] at t1 t2
            rw [t1]
            exact (chM.of hM hc h0 (fun b _ hb => t3 b hb) t2).bd (fun r2 h2 => An.so h2)
      · refine PR_of hI (code := 1) (v := 0) (Or.inr (Or.inl rfl)) ?_ (fun m1 qe => ?_)
        · unfold d_341 d_159
          rw [zl_0, zl_9999, zl_1, show (999 : Int32) = zI 999 from rfl, zl_9, k177y hf.1 hf.2 (by decide) (by decide) (by decide) (by decide) q1, bE_l, k177y hl.1 hl.2 (by decide) (by decide) (by decide) (by decide) q2, bE_l, k177n he.1 he.2 (by decide) (by decide) (by decide) (by decide) q3, bE_r, bE_r, if_pos rfl, ← zl_1]
          exact lq_ex (c := 1) (by decide) (Qe.rf m)
        · unfold d_278
          rw [zl_0, zl_9999, zl_1, show (999 : Int32) = zI 999 from rfl, zl_9, m185 hf.1 hf.2 (by decide) (by decide) (by decide) (by decide), decide_eq_true q1]
          simp only [obs, ift]
          rw [m185 hl.1 hl.2 (by decide) (by decide) (by decide) (by decide), decide_eq_true q2]
          simp only [obs, ift]
          rw [m185 he.1 he.2 (by decide) (by decide) (by decide) (by decide), decide_eq_false q3]
          simp only [obs, ifn, Bool.false_eq_true, no]
          exact rq_t (code := 1) (fun e => by cases e)
    · refine PR_of hI (code := 1) (v := 0) (Or.inr (Or.inl rfl)) ?_ (fun m1 qe => ?_)
      · unfold d_341 d_159
        rw [zl_0, zl_9999, zl_1, show (999 : Int32) = zI 999 from rfl, zl_9, k177y hf.1 hf.2 (by decide) (by decide) (by decide) (by decide) q1, bE_l, k177n hl.1 hl.2 (by decide) (by decide) (by decide) (by decide) q2, bE_r, bE_r, if_pos rfl, ← zl_1]
        exact lq_ex (c := 1) (by decide) (Qe.rf m)
      · unfold d_278
        rw [zl_0, zl_9999, zl_1, show (999 : Int32) = zI 999 from rfl, zl_9, m185 hf.1 hf.2 (by decide) (by decide) (by decide) (by decide), decide_eq_true q1]
        simp only [obs, ift]
        rw [m185 hl.1 hl.2 (by decide) (by decide) (by decide) (by decide), decide_eq_false q2]
        simp only [obs, ifn, Bool.false_eq_true, no]
        exact rq_t (code := 1) (fun e => by cases e)
  · refine PR_of hI (code := 1) (v := 0) (Or.inr (Or.inl rfl)) ?_ (fun m1 qe => ?_)
    · unfold d_341 d_159
      rw [zl_0, zl_9999, k177n hf.1 hf.2 (by decide) (by decide) (by decide) (by decide) q1, bE_r, bE_r, if_pos rfl]
      exact lq_ex (c := 1) (by decide) (Qe.rf m)
    · unfold d_278
      rw [zl_0, zl_9999, m185 hf.1 hf.2 (by decide) (by decide) (by decide) (by decide), decide_eq_false q1]
      simp only [obs, ifn, Bool.false_eq_true, no]
      exact rq_t (code := 1) (fun e => by cases e)
end HI
