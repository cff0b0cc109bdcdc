/-! What the reference changes in its row. -/
section MX
variable {m : Mm} {W H : Nat} {r : Nat → Int}
/-- a row copied -/
theorem m186 {a b : Nat} (hab : a ≠ b) (ha : sh_n a = 584) (hb : sh_n b = 584) : An (d_186 a b m) (fun m' => (∀ k, k < 584 → m' b k = m a k) ∧ ∀ c, c ≠ b → m' c = m c) := by
  unfold d_186 d_186_2
  rw [zl_0]
  refine it_inv (fun j (u : Int32 × Mm) => u.1 = zI (j : Nat) ∧ (∀ k, k < j → u.2 b k = m a k) ∧ ∀ c, c ≠ b → u.2 c = m c) _ 584 ⟨rfl, fun k hk => absurd hk (Nat.not_lt_zero k), fun _ _ => rfl⟩ (fun j hj u hu => ?_) (fun u hu => ?_)
  · obtain ⟨x, m2⟩ := u
    obtain ⟨e1, e2, e3⟩ := hu
    dsimp only at e1 e2 e3
    subst e1
    show An (s_186_2 a b (zI (j : Nat)) m2) _
    unfold s_186_2
    rw [if_neg (by rw [show (584 : Int32) = zI 584 from rfl, zI_le (by omega) (by omega) (by omega) (by omega)]; omega), ha, hb, if_pos (in_k hj (by decide)), if_pos (in_k hj (by decide)), z_ix (by omega), e3 a hab]
    simp only [wbs]
    refine An.so ⟨by rw [zl_1, zI_add]; rfl, fun k hk => ?_, fun c hc => ?_⟩
    · dsimp only
      rw [wr_at]
      by_cases q : k = j
      · rw [if_pos q, q]
      · rw [if_neg q]; exact e2 k (by omega)
    · dsimp only
      rw [wr_ne hc]; exact e3 c hc
  · obtain ⟨x, m2⟩ := u
    obtain ⟨e1, e2, e3⟩ := hu
    dsimp only at e1 e2 e3
    subst e1
    show An (s_186_2 a b (zI ((584 : Nat) : Int)) m2) _
    unfold s_186_2
    rw [if_pos (by decide)]
    exact An.so ⟨e2, e3⟩
theorem mr_k {k : Nat} (hk : k < 584) {M : Mm} {ρ : Nat → Int} (h : MR M ρ) : M (sh_r 249 1) (ix (zI (k : Int))) = zI (ρ k) := by
  rw [m_r1, z_ix (by omega)]; exact h k hk
theorem in_r {k : Nat} (hk : k < 584) : ev_in (zI (k : Int)) (sh_n (sh_r 249 1)) = true := m_in hk
/-- a number of the row put -/
theorem MR.pt {M : Mm} {ρ : Nat → Int} (h : MR M ρ) {k : Nat} (hk : k < 584) {v : Int} : MR (wr M (sh_r 249 1) (ix (zI (k : Int))) (zI v)) (rs ρ k v) := by
  rw [m_r1, z_ix (by omega)]; exact h.put
theorem wr_r {M : Mm} {k : Nat} {v : Int32} {a : Nat} (ha : a ≠ 250) : wr M (sh_r 249 1) (ix (zI (k : Int))) v a = M a := by
  rw [m_r1]; exact wr_ne ha
theorem MW.cg {M : Mm} {ρ ρ' : Nat → Int} (h : MW M ρ W H) (e : ∀ k, k < 584 → ρ' k = ρ k) : MW M ρ' W H := ⟨h.1.cg e, by rw [e 0 (by decide)]; exact h.2.1, by rw [e 1 (by decide)]; exact h.2.2.1, h.2.2.2⟩
theorem rmv_at {t c d k : Nat} {v : Int} (hcd : c ≠ d) : rmv r t c d v k = if k = t + d then v else if k = t + c then 0 else r k := by
  unfold rmv rs
  by_cases q1 : k = t + d
  · rw [if_neg (by omega), if_pos q1, if_pos q1]
  · rw [if_neg q1, if_neg q1]
/-- the end of a change of a board -/
theorem bfl {α : Type} (a b : α) : (if false = true then a else b) = b := if_neg Bool.false_ne_true
theorem btr {α : Type} (a b : α) : (if true = true then a else b) = a := if_pos rfl
theorem m251e (h : MW m r W H) {q s : Nat} (hq : q ≤ 1) {B : Bool} (hb : BD W H (fun c => r (24 + 64 * q + c))) {x y X Y : Nat} (hx : x < W) (hy : y < H) (hX : X < W) (hY : Y < H) (hn : ¬ (x = X ∧ y = Y)) {ρ : Nat → Int}
    (hρ : ∀ k, k < 584 → ρ k = if 24 + 64 * q ≤ k ∧ k < 88 + 64 * q then mb W H (fun c => r (24 + 64 * q + c)) x y X Y (k - (24 + 64 * q)) else if k = 9 + q ∧ B = true then r (9 + q) + 1 else if k = 17 + q then (s : Nat) else if k = 19 + q then ((x + W * y : Nat) : Int) else if k = 21 + q then ((X + W * Y : Nat) : Int) else r k) :
    An (d_251_76 249 (zI (q : Nat)) (zI (s : Nat)) (zI ((x + W * y : Nat) : Int)) (zI ((X + W * Y : Nat) : Int)) B (zI ((24 + 64 * q : Nat) : Int)) m) (fun m' => MR m' ρ ∧ ∀ a, a ≠ 250 → m' a = m a) := by
  have hw := h.2.2.2
  have c1 := cell_64 hw hx hy
  have c2 := cell_64 hw hX hY
  have hcd : x + W * y ≠ X + W * Y := fun e => hn ((cell_in hx hX).mp e)
  unfold d_251_76
  rw [m206 h (by omega) hb hx hy hX hY]
  simp only [obs]
  have h3 := h.mv_ (t := 24 + 64 * q) (c := x + W * y) (d := X + W * Y) (by omega) (v := av H (r (24 + 64 * q + (x + W * y))) Y)
  have f3 : ∀ a, a ≠ 250 → wr (wr m 250 (24 + 64 * q + (X + W * Y)) (zI (av H (r (24 + 64 * q + (x + W * y))) Y))) 250 (24 + 64 * q + (x + W * y)) (zI 0) a = m a := fun a ha => by rw [wr_ne ha, wr_ne ha]
  generalize wr (wr m 250 (24 + 64 * q + (X + W * Y)) (zI (av H (r (24 + 64 * q + (x + W * y))) Y))) 250 (24 + 64 * q + (x + W * y)) (zI 0) = m3 at h3 f3 ⊢
  have z9 : (9 : Int32) + zI (q : Nat) = zI ((9 + q : Nat) : Int) := z_ad 9 q
  have z17 : (17 : Int32) + zI (q : Nat) = zI ((17 + q : Nat) : Int) := z_ad 17 q
  have z19 : (19 : Int32) + zI (q : Nat) = zI ((19 + q : Nat) : Int) := z_ad 19 q
  have z21 : (21 : Int32) + zI (q : Nat) = zI ((21 + q : Nat) : Int) := z_ad 21 q
  rw [z9, z17, z19, z21, if_pos (in_r (k := 17 + q) (by omega))]
  rw [wbs]
  have h4 := h3.1.pt (k := 17 + q) (by omega) (v := (s : Nat))
  have f4 : ∀ a, a ≠ 250 → wr m3 (sh_r 249 1) (ix (zI ((17 + q : Nat) : Int))) (zI (s : Nat)) a = m a := fun a ha => by rw [wr_r ha]; exact f3 a ha
  generalize wr m3 (sh_r 249 1) (ix (zI ((17 + q : Nat) : Int))) (zI (s : Nat)) = m4 at h4 f4 ⊢
  rw [if_pos (in_r (k := 19 + q) (by omega))]
  rw [wbs]
  have h5 := h4.pt (k := 19 + q) (by omega) (v := ((x + W * y : Nat) : Int))
  have f5 : ∀ a, a ≠ 250 → wr m4 (sh_r 249 1) (ix (zI ((19 + q : Nat) : Int))) (zI ((x + W * y : Nat) : Int)) a = m a := fun a ha => by rw [wr_r ha]; exact f4 a ha
  generalize wr m4 (sh_r 249 1) (ix (zI ((19 + q : Nat) : Int))) (zI ((x + W * y : Nat) : Int)) = m5 at h5 f5 ⊢
  rw [if_pos (in_r (k := 21 + q) (by omega))]
  rw [wbs]
  have h6 := h5.pt (k := 21 + q) (by omega) (v := ((X + W * Y : Nat) : Int))
  have f6 : ∀ a, a ≠ 250 → wr m5 (sh_r 249 1) (ix (zI ((21 + q : Nat) : Int))) (zI ((X + W * Y : Nat) : Int)) a = m a := fun a ha => by rw [wr_r ha]; exact f5 a ha
  generalize wr m5 (sh_r 249 1) (ix (zI ((21 + q : Nat) : Int))) (zI ((X + W * Y : Nat) : Int)) = m6 at h6 f6 ⊢
  have now : ∀ k, 24 + 64 * q ≤ k → k < 88 + 64 * q → mb W H (fun c => r (24 + 64 * q + c)) x y X Y (k - (24 + 64 * q)) = rmv r (24 + 64 * q) (x + W * y) (X + W * Y) (av H (r (24 + 64 * q + (x + W * y))) Y) k := fun k k1 k2 => by
    rw [rmv_at hcd]
    unfold mb
    by_cases q1 : k = 24 + 64 * q + (X + W * Y)
    · rw [if_pos (by omega), if_pos q1]
    · rw [if_neg (by omega), if_neg q1]
      by_cases q2 : k = 24 + 64 * q + (x + W * y)
      · rw [if_pos (by omega), if_pos q2]
      · rw [if_neg (by omega), if_neg q2]
        exact congrArg r (by omega)
  have off : ∀ k, ¬ (24 + 64 * q ≤ k ∧ k < 88 + 64 * q) → rmv r (24 + 64 * q) (x + W * y) (X + W * Y) (av H (r (24 + 64 * q + (x + W * y))) Y) k = r k := fun k hk => rmv_ne (by omega) (by omega)
  cases B
  · rw [bfl]
    refine An.so ⟨h6.cg (fun k hk => ?_), f6⟩
    rw [hρ k hk]
    by_cases k1 : 24 + 64 * q ≤ k ∧ k < 88 + 64 * q
    · rw [if_pos k1, now k k1.1 k1.2, rs_ne (by omega), rs_ne (by omega), rs_ne (by omega)]
    · rw [if_neg k1, if_neg (show ¬ (k = 9 + q ∧ false = true) from fun e => Bool.noConfusion e.2)]
      unfold rs
      rw [off k k1]
      repeat' split
      all_goals first | rfl | omega
  · rw [btr, if_pos (in_r (k := 9 + q) (by omega)), if_pos (in_r (k := 9 + q) (by omega)), mr_k (k := 9 + q) (by omega) h6, zl_1, zI_add]
    rw [wbs]
    refine An.so ⟨(h6.pt (k := 9 + q) (by omega)).cg (fun k hk => ?_), fun a ha => by rw [wr_r ha]; exact f6 a ha⟩
    rw [hρ k hk, rs_ne (show 9 + q ≠ 21 + q by omega), rs_ne (show 9 + q ≠ 19 + q by omega), rs_ne (show 9 + q ≠ 17 + q by omega), off (9 + q) (by omega)]
    by_cases k1 : 24 + 64 * q ≤ k ∧ k < 88 + 64 * q
    · rw [if_pos k1, now k k1.1 k1.2, rs_ne (by omega), rs_ne (by omega), rs_ne (by omega), rs_ne (by omega)]
    · rw [if_neg k1]
      unfold rs
      rw [off k k1]
      by_cases k9 : k = 9 + q
      · rw [if_pos ⟨k9, rfl⟩, if_pos k9]
      · rw [if_neg (fun e => k9 e.1), if_neg k9]
        repeat' split
        all_goals first | rfl | omega
/-- a board copied ahead of a change of it -/
theorem m251l (h : MR m r) {q : Nat} (hq : q ≤ 1) {B : Bool} {x1 x2 x3 x4 : Int32} {Q : Mm → Prop}
    (hQ : ∀ m', MR m' (if B = true then (fun k => if 152 + 64 * q ≤ k ∧ k < 216 + 64 * q then r (k - 128) else r k) else (fun k => if 24 + 64 * q ≤ k ∧ k < 88 + 64 * q then r (k + 128) else r k)) → (∀ a, a ≠ 250 → m' a = m a) → An (d_251_76 249 x1 x2 x3 x4 B (zI ((24 + 64 * q : Nat) : Int)) m') Q) :
    An (d_251_15 249 x1 x2 x3 x4 B (zI ((24 + 64 * q : Nat) : Int)) (zI ((152 + 64 * q : Nat) : Int)) 0 m) Q := by
  unfold d_251_15
  rw [zl_0]
  refine it_inv (fun j (u : Int32 × Mm) => u.1 = zI (j : Nat) ∧ MR u.2 (if B = true then (fun k => if 152 + 64 * q ≤ k ∧ k < 152 + 64 * q + j then r (k - 128) else r k) else (fun k => if 24 + 64 * q ≤ k ∧ k < 24 + 64 * q + j then r (k + 128) else r k)) ∧ ∀ a, a ≠ 250 → u.2 a = m a) _ 64 ⟨rfl, ?_, fun _ _ => rfl⟩ (fun j hj u hu => ?_) (fun u hu => ?_)
  · refine h.cg (fun k hk => ?_)
    cases B
    · rw [bfl]; exact if_neg (by omega)
    · rw [btr]; exact if_neg (by omega)
  · obtain ⟨z, m2⟩ := u
    obtain ⟨e1, e2, e3⟩ := hu
    dsimp only at e1 e2 e3
    subst e1
    show An (s_251_15 249 x1 x2 x3 x4 B (zI ((24 + 64 * q : Nat) : Int)) (zI ((152 + 64 * q : Nat) : Int)) (zI (j : Nat)) m2) _
    unfold s_251_15
    rw [if_neg (by rw [zl_64, zI_le (by omega) (by omega) (by omega) (by omega)]; omega), z_ad, z_ad]
    cases B
    · rw [bfl] at e2
      rw [bfl, if_pos (in_r (by omega)), if_pos (in_r (by omega)), mr_k (by omega) e2]
      simp only [wbs]
      refine An.so ⟨by rw [zl_1, zI_add]; rfl, ?_, fun a ha => by dsimp only; rw [wr_r ha]; exact e3 a ha⟩
      dsimp only
      rw [bfl]
      refine (e2.pt (by omega)).cg (fun k hk => ?_)
      unfold rs
      dsimp only
      by_cases k1 : k = 24 + 64 * q + j
      · rw [if_pos k1, if_pos (by omega), if_neg (by omega), k1]
        exact congrArg r (by omega)
      · rw [if_neg k1]
        by_cases k2 : 24 + 64 * q ≤ k ∧ k < 24 + 64 * q + j
        · rw [if_pos k2, if_pos (by omega)]
        · rw [if_neg k2, if_neg (by omega)]
    · rw [btr] at e2
      rw [btr, if_pos (in_r (by omega)), if_pos (in_r (by omega)), mr_k (by omega) e2]
      simp only [wbs]
      refine An.so ⟨by rw [zl_1, zI_add]; rfl, ?_, fun a ha => by dsimp only; rw [wr_r ha]; exact e3 a ha⟩
      dsimp only
      simp only [ift]
      refine (e2.pt (by omega)).cg (fun k hk => ?_)
      unfold rs
      dsimp only
      by_cases k1 : k = 152 + 64 * q + j
      · rw [if_pos k1, if_pos (by omega), if_neg (by omega), k1]
        exact congrArg r (by omega)
      · rw [if_neg k1]
        by_cases k2 : 152 + 64 * q ≤ k ∧ k < 152 + 64 * q + j
        · rw [if_pos k2, if_pos (by omega)]
        · rw [if_neg k2, if_neg (by omega)]
  · obtain ⟨z, m2⟩ := u
    obtain ⟨e1, e2, e3⟩ := hu
    dsimp only at e1 e2 e3
    subst e1
    show An (s_251_15 249 x1 x2 x3 x4 B (zI ((24 + 64 * q : Nat) : Int)) (zI ((152 + 64 * q : Nat) : Int)) (zI ((64 : Nat) : Int)) m2) _
    unfold s_251_15
    rw [if_pos (by decide)]
    refine An.mo ((hQ m2 ?_ e3).mp (fun v hv => hv))
    refine e2.cg (fun k hk => ?_)
    cases B
    · rw [bfl, bfl, show 24 + 64 * q + 64 = 88 + 64 * q by omega]
    · rw [btr, btr, show 152 + 64 * q + 64 = 216 + 64 * q by omega]
theorem m251 (h : MW m r W H) {q s : Nat} (hq : q ≤ 1) {B : Bool} (hb : BD W H (fun c => r ((if B = true then 24 else 152) + 64 * q + c))) {x y X Y : Nat} (hx : x < W) (hy : y < H) (hX : X < W) (hY : Y < H) (hn : ¬ (x = X ∧ y = Y)) :
    An (d_251 249 (zI (q : Nat)) (zI (s : Nat)) (zI ((x + W * y : Nat) : Int)) (zI ((X + W * Y : Nat) : Int)) B m) (fun m' => MR m' (if B = true then rb1 W H r q s x y X Y else rb3 W H r q s x y X Y) ∧ ∀ a, a ≠ 250 → m' a = m a) := by
  have hw := h.2.2.2
  unfold d_251
  rw [m194, m195]
  simp only [obs]
  rw [show (24 : Int) + 64 * (q : Nat) = ((24 + 64 * q : Nat) : Int) by omega, show (152 : Int) + 64 * (q : Nat) = ((152 + 64 * q : Nat) : Int) by omega]
  refine m251l h.1 hq (fun m' hM hf => ?_)
  cases B
  · rw [bfl] at hM hb
    rw [bfl]
    have hMW : MW m' (fun k => if 24 + 64 * q ≤ k ∧ k < 88 + 64 * q then r (k + 128) else r k) W H := ⟨hM, (if_neg (by omega)).trans h.2.1, (if_neg (by omega)).trans h.2.2.1, hw⟩
    have eb : ∀ c, c < 64 → (if 24 + 64 * q ≤ 24 + 64 * q + c ∧ 24 + 64 * q + c < 88 + 64 * q then r (24 + 64 * q + c + 128) else r (24 + 64 * q + c)) = r (152 + 64 * q + c) := fun c hc => by
      rw [if_pos (by omega)]
      exact congrArg r (by omega)
    refine (m251e hMW hq (fun u v hu hv => ?_) hx hy hX hY hn (s := s) (ρ := rb3 W H r q s x y X Y) (fun k hk => ?_)).mp (fun m2 h2 => ⟨h2.1, fun a ha => by rw [h2.2 a ha, hf a ha]⟩)
    · have := hb u v hu hv
      dsimp only at this ⊢
      rw [eb _ (cell_64 hw hu hv)]
      exact this
    · unfold rb3
      by_cases k1 : 24 + 64 * q ≤ k ∧ k < 88 + 64 * q
      · rw [if_pos k1, if_pos k1]
        have c1 := cell_64 hw hx hy
        unfold mb
        dsimp only
        rw [eb _ c1, eb _ (by omega)]
      · rw [if_neg k1, if_neg k1, if_neg (show ¬ (k = 9 + q ∧ false = true) from fun e => Bool.noConfusion e.2), if_neg k1]
  · rw [btr] at hM hb
    rw [btr]
    have hMW : MW m' (fun k => if 152 + 64 * q ≤ k ∧ k < 216 + 64 * q then r (k - 128) else r k) W H := ⟨hM, (if_neg (by omega)).trans h.2.1, (if_neg (by omega)).trans h.2.2.1, hw⟩
    have eb : ∀ c, c < 64 → (if 152 + 64 * q ≤ 24 + 64 * q + c ∧ 24 + 64 * q + c < 216 + 64 * q then r (24 + 64 * q + c - 128) else r (24 + 64 * q + c)) = r (24 + 64 * q + c) := fun c hc => if_neg (by omega)
    refine (m251e hMW hq (fun u v hu hv => ?_) hx hy hX hY hn (s := s) (ρ := rb1 W H r q s x y X Y) (fun k hk => ?_)).mp (fun m2 h2 => ⟨h2.1, fun a ha => by rw [h2.2 a ha, hf a ha]⟩)
    · have := hb u v hu hv
      dsimp only at this ⊢
      rw [eb _ (cell_64 hw hu hv)]
      exact this
    · unfold rb1
      by_cases k1 : 24 + 64 * q ≤ k ∧ k < 88 + 64 * q
      · rw [if_pos k1, if_pos k1]
        have c1 := cell_64 hw hx hy
        unfold mb
        dsimp only
        rw [eb _ c1, eb _ (by omega)]
      · rw [if_neg k1, if_neg k1]
        by_cases k2 : 152 + 64 * q ≤ k ∧ k < 216 + 64 * q
        · rw [if_pos k2, if_neg (by omega), if_neg (by omega), if_neg (by omega), if_neg (by omega), if_pos k2]
        · rw [if_neg k2]
          by_cases k9 : k = 9 + q
          · rw [if_pos k9, if_pos ⟨k9, rfl⟩, if_neg (by omega)]
          · rw [if_neg k9, if_neg (show ¬ (k = 9 + q ∧ true = true) from fun e => k9 e.1)]
            simp only [if_neg k2]
/-- a row opened -/
theorem m259 (h : MR m r) {ci ba w : Nat} (hci : ci < ba) (hba : ba + 20 * w ≤ 584) (w1 : 1 ≤ w) (h0 : 0 ≤ r ci) (h20 : r ci ≤ 20) :
    An (d_259 249 (zI (ci : Nat)) (zI (ba : Nat)) (zI (w : Nat)) m) (fun p => p.1 = zI ((ba : Nat) + (w : Nat) * ((if r ci = 20 then 19 else (r ci).toNat : Nat) : Int)) ∧ MR p.2 (fun k => if k = ci then (if r ci = 20 then 20 else r ci + 1) else if r ci = 20 ∧ ba ≤ k ∧ k < ba + 19 * w then r (k + w) else r k) ∧ ∀ a, a ≠ 250 → p.2 a = m a) := by
  have e55 : ∀ (M : Mm) (ρ : Nat → Int), MR M ρ → d_259_55 249 (zI (ci : Nat)) (zI (ba : Nat)) (zI (w : Nat)) M = some (zI ((ba : Nat) + (w : Nat) * ρ ci), wr M (sh_r 249 1) (ix (zI (ci : Nat))) (zI (ρ ci + 1))) := fun M ρ hM => by
    unfold d_259_55
    rw [if_pos (in_r (by omega)), if_pos (in_r (by omega)), mr_k (by omega) hM, zl_1, zI_add, wbs, if_pos (in_r (by omega)), mr_k (by omega) (hM.pt (k := ci) (by omega) (v := ρ ci + 1)), rs_eq, zI_sub, zI_mul, zI_add, show ρ ci + 1 - 1 = ρ ci by omega]
  unfold d_259
  rw [if_pos (in_r (by omega)), mr_k (by omega) h]
  by_cases q : r ci = 20
  · rw [if_neg (by rw [q]; exact fun e => e rfl)]
    simp only [if_pos q]
    unfold d_259_14
    refine it_inv (fun j (u : Int32 × Mm) => u.1 = zI ((ba + j : Nat) : Int) ∧ MR u.2 (fun k => if ba ≤ k ∧ k < ba + j then r (k + w) else r k) ∧ ∀ a, a ≠ 250 → u.2 a = m a) _ (19 * w) ⟨rfl, h.cg (fun k hk => if_neg (by omega)), fun _ _ => rfl⟩ (fun j hj u hu => ?_) (fun u hu => ?_)
    · obtain ⟨z, m2⟩ := u
      obtain ⟨e1, e2, e3⟩ := hu
      dsimp only at e1 e2 e3
      subst e1
      show An (s_259_14 249 (zI (ci : Nat)) (zI (ba : Nat)) (zI (w : Nat)) (zI ((ba + j : Nat) : Int)) m2) _
      unfold s_259_14
      rw [show (19 : Int32) = zI 19 from rfl, zI_mul, zI_add, if_neg (by rw [zI_le (by omega) (by omega) (by omega) (by omega)]; omega), z_ad, if_pos (in_r (by omega)), if_pos (in_r (by omega)), mr_k (by omega) e2]
      simp only [wbs]
      refine An.so ⟨by rw [zl_1, zI_add]; rfl, ?_, fun a ha => by dsimp only; rw [wr_r ha]; exact e3 a ha⟩
      dsimp only
      refine (e2.pt (by omega)).cg (fun k hk => ?_)
      unfold rs
      dsimp only
      by_cases k1 : k = ba + j
      · rw [if_pos k1, if_pos (by omega), if_neg (by omega), k1]
      · rw [if_neg k1]
        by_cases k2 : ba ≤ k ∧ k < ba + j
        · rw [if_pos k2, if_pos (by omega)]
        · rw [if_neg k2, if_neg (by omega)]
    · obtain ⟨z, m2⟩ := u
      obtain ⟨e1, e2, e3⟩ := hu
      dsimp only at e1 e2 e3
      subst e1
      show An (s_259_14 249 (zI (ci : Nat)) (zI (ba : Nat)) (zI (w : Nat)) (zI ((ba + 19 * w : Nat) : Int)) m2) _
      unfold s_259_14 d_259_47
      rw [show (19 : Int32) = zI 19 from rfl, zI_mul, zI_add, if_pos (by rw [zI_le (by omega) (by omega) (by omega) (by omega)]; omega), if_pos (in_r (by omega)), wbs, e55 _ _ (e2.pt (k := ci) (by omega) (v := 19)), rs_eq]
      refine An.mo (An.so ⟨rfl, ((e2.pt (k := ci) (by omega) (v := 19)).pt (k := ci) (by omega) (v := 19 + 1)).cg (fun k hk => ?_), fun a ha => by dsimp only; rw [wr_r ha, wr_r ha]; exact e3 a ha⟩)
      unfold rs
      by_cases k1 : k = ci
      · rw [if_pos k1, if_pos k1]; rfl
      · rw [if_neg k1, if_neg k1, if_neg k1]
        dsimp only
        by_cases k2 : ba ≤ k ∧ k < ba + 19 * w
        · rw [if_pos ⟨q, k2⟩, if_pos k2]
        · rw [if_neg (fun e => k2 e.2), if_neg k2]
  · rw [if_pos (by rw [show (20 : Int32) = zI 20 from rfl, zI_inj (by omega) (by omega) (by omega) (by omega)]; exact q), e55 _ _ h]
    refine An.so ⟨?_, (h.pt (k := ci) (by omega) (v := r ci + 1)).cg (fun k hk => ?_), fun a ha => wr_r ha⟩
    · rw [if_neg q, show (((r ci).toNat : Nat) : Int) = r ci by omega]
    · unfold rs
      by_cases k1 : k = ci
      · rw [if_pos k1, if_pos k1, if_neg q]
      · rw [if_neg k1, if_neg k1, if_neg (fun e => q e.1)]
/-- what the sender's board would come to -/
theorem m260 (h : MW m r W H) {s : Nat} (hs : s ≤ 1) (hb : BD W H (fun c => r (24 + 64 * s + c))) {x y X Y : Nat} (hx : x < W) (hy : y < H) (hX : X < W) (hY : Y < H) (hn : ¬ (x = X ∧ y = Y)) :
    An (d_260 249 (zI (s : Nat)) (zI ((x + W * y : Nat) : Int)) (zI ((X + W * Y : Nat) : Int)) m) (fun p => p.1 = zI (2 + (twi W H (fun c => r (24 + 64 * s + c)) x y X Y).tmod 5) ∧ MR p.2 r ∧ ∀ a, a ≠ 250 → p.2 a = m a) := by
  have hw := h.2.2.2
  have c1 := cell_64 hw hx hy
  have c2 := cell_64 hw hX hY
  have hN := WH_n hw
  unfold d_260
  rw [m194, t24]
  simp only [obs]
  rw [z_ad, z_ad, if_pos (in_r (by omega)), wbs, if_pos (in_r (by omega)), wbs, mr_k (by omega) h.1, mr_k (by omega) h.1, m206 h (by omega) hb hx hy hX hY]
  simp only [obs]
  have h3 := h.mv_ (t := 24 + 64 * s) (c := x + W * y) (d := X + W * Y) (by omega) (v := av H (r (24 + 64 * s + (x + W * y))) Y)
  have f3 : ∀ a, a ≠ 250 → wr (wr m 250 (24 + 64 * s + (X + W * Y)) (zI (av H (r (24 + 64 * s + (x + W * y))) Y))) 250 (24 + 64 * s + (x + W * y)) (zI 0) a = m a := fun a ha => by rw [wr_ne ha, wr_ne ha]
  generalize wr (wr m 250 (24 + 64 * s + (X + W * Y)) (zI (av H (r (24 + 64 * s + (x + W * y))) Y))) 250 (24 + 64 * s + (x + W * y)) (zI 0) = m3 at h3 f3 ⊢
  have tn := tot_nn hw (BD_mb hb hx hy (X := X) (Y := Y)) (W * H) (Nat.le_refl _)
  rw [m209 h3 (by omega), rmv_mb hx hX hn, tot_mb hx hy hX hY hn]
  rw [tot_mb hx hy hX hY hn] at tn
  simp only [obs]
  rw [if_pos (in_r (by omega)), wbs, if_pos (in_r (by omega)), wbs, zl_5, zl_2, zI_tm (by omega) (by omega), zI_add]
  refine An.so ⟨rfl, ((h3.1.pt (k := 24 + 64 * s + (x + W * y)) (by omega)).pt (k := 24 + 64 * s + (X + W * Y)) (by omega)).cg (fun k hk => ?_), fun a ha => by dsimp only; rw [wr_r ha, wr_r ha]; exact f3 a ha⟩
  unfold rs
  by_cases q1 : k = 24 + 64 * s + (X + W * Y)
  · rw [if_pos q1, q1]
  · rw [if_neg q1]
    by_cases q2 : k = 24 + 64 * s + (x + W * y)
    · rw [if_pos q2, q2]
    · rw [if_neg q2, rmv_ne q2 q1]
end MX
