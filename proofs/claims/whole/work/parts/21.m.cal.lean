/-! The moves, printed. -/
section CN
variable {m : Mm} {r : Nat → Int} {W H n : Nat}
def cl (W : Nat) (z : Int) : List Int32 := [zI (97 + (z.toNat % W : Nat)), zI (49 + (z.toNat / W : Nat))]
theorem ch97 : ∀ x : Nat, x < 8 → (((97 : Int32) + zI (x : Nat)).toUInt32 % 65536).toInt32 = zI (97 + (x : Nat)) := by decide +kernel
theorem ch49 : ∀ x : Nat, x < 8 → (((49 : Int32) + zI (x : Nat)).toUInt32 % 65536).toInt32 = zI (49 + (x : Nat)) := by decide +kernel
theorem c170 {m' : Mm} {l : List Int32} {z : Int} (h : OC m m' l) (hl : l.length + 2 ≤ 279) (hw : WH W H) (z0 : 0 ≤ z) (z1 : z < (W * H : Nat)) : An (d_170 20 (zI (gi W z)) m') (fun m2 => OC m m2 (l ++ cl W z)) := by
  obtain ⟨x, y, hx, hy, e1, e3, e4, e2⟩ := gio_c hw (c := z.toNat) (by omega)
  have hw' := hw
  obtain ⟨w1, w2, w3, w4⟩ := hw'
  unfold d_170 gi cl
  rw [e2, c13 (by omega), e3, e4]
  simp only [obs]
  rw [ch97 x (by omega)]
  refine (c171 h (by omega)).bd (fun m2 h2 => ?_)
  rw [c14 (by omega) (by omega)]
  simp only [obs]
  rw [ch49 y (by omega)]
  refine (c171 h2 (by rw [List.length_append, List.length_singleton]; omega)).bd (fun m3 h3 => ?_)
  refine An.so ?_
  rw [List.append_assoc] at h3
  exact h3
theorem OM.mw {m' : Mm} {l : List Int32} (h : OM m m' l) (hG : MW m r W H) : MW m' r W H := ⟨fun k hk => by rw [h.1 250 (by decide) (by decide)]; exact hG.1 k hk, hG.2⟩
theorem m308 {m' : Mm} {l : List Int32} {z : Int} (h : OM m m' l) (hl : l.length + 2 ≤ 279) (hG : MW m r W H) (z0 : 0 ≤ z) (z1 : z < (W * H : Nat)) : An (d_308 249 (zI z) m') (fun m2 => OM m m2 (l ++ cl W z)) := by
  obtain ⟨x, y, hx, hy, e1, e3, e4, -⟩ := gio_c hG.2.2.2 (c := z.toNat) (by omega)
  unfold d_308 cl
  rw [show z = ((x + W * y : Nat) : Int) by omega, m198 (h.mw hG) hx hy]
  simp only [obs]
  rw [show (((x + W * y : Nat) : Int)).toNat = z.toNat by omega, e3, e4, show (97 : Int32) = zI 97 from rfl, zI_add]
  refine (m305 h (by omega)).bd (fun m2 h2 => ?_)
  rw [m199 (h2.mw hG) hx hy]
  simp only [obs]
  rw [show (49 : Int32) = zI 49 from rfl, zI_add]
  refine (m305 h2 (by rw [List.length_append, List.length_singleton]; omega)).bd (fun m3 h3 => ?_)
  refine An.so ?_
  rw [List.append_assoc] at h3
  exact h3
theorem rp_s {l : List Int32} {j : Nat} {x : Int32} : l ++ List.replicate j x ++ [x] = l ++ List.replicate (j + 1) x := by
  rw [List.append_assoc, List.replicate_succ']
theorem c51r {m' : Mm} {l : List Int32} {N c : Int} (h : OC m m' l) (hL : LV m 40 N c 6 (made_ r W)) (hN : N ≤ 20) {k : Nat} (hk : (k : Int) < N) {t : Nat} (t1 : 1 ≤ t) (t2 : t ≤ 9) (et : made_ r W k 4 = (t : Nat)) (hl : l.length + (t - 1) ≤ 279) : An (d_169_51 20 (zI (k : Nat)) 40 1 m') (fun m2 => OC m m2 (l ++ List.replicate (t - 1) 63)) := by
  have hl4 : lA 40 := (gA_F gA_23).2.2.2.2.2.2.2.2.2
  have e72 : ∀ m2 l2, OC m m2 l2 → d_72 40 (zI (k : Nat)) 4 m2 = some (zI (t : Nat)) := fun m2 l2 h2 => by
    have := c72 hl4 (hL.mm (fun a a1 a2 => h2.1 a (by omega) (by omega))) hN hk (j := 4) (by decide) (by decide)
    rw [et] at this
    exact this
  unfold d_169_51
  refine it_inv (fun j (s : Int32 × Mm) => s.1 = zI (((1 + j : Nat) : Nat) : Int) ∧ OC m s.2 (l ++ List.replicate j 63)) _ (t - 1) ⟨rfl, by simpa using h⟩ (fun j hj s hs => ?_) (fun s hs => ?_)
  · obtain ⟨x, m2⟩ := s
    obtain ⟨rfl, h2⟩ := hs
    show An (s_169_51 20 (zI (k : Nat)) 40 (zI (((1 + j : Nat) : Nat) : Int)) m2) _
    unfold s_169_51
    rw [e72 m2 _ h2]
    simp only [obs]
    rw [if_neg (by rw [zI_le (by omega) (by omega) (by omega) (by omega)]; omega)]
    refine (c171 h2 (by rw [List.length_append, List.length_replicate]; omega)).bd (fun m3 h3 => ?_)
    simp only [wbs]
    refine An.so ⟨?_, by rw [← rp_s]; exact h3⟩
    rw [zl_1, zI_add]
    exact congrArg zI (by omega)
  · obtain ⟨x, m2⟩ := s
    obtain ⟨rfl, h2⟩ := hs
    show An (s_169_51 20 (zI (k : Nat)) 40 (zI (((1 + (t - 1) : Nat) : Nat) : Int)) m2) _
    unfold s_169_51
    rw [e72 m2 _ h2]
    simp only [obs]
    rw [if_pos (by rw [zI_le (by omega) (by omega) (by omega) (by omega)]; omega)]
    exact An.so h2
/-- a move that was answered, as it is printed -/
def mvb (r : Nat → Int) (W k : Nat) : List Int32 := cl W (r (464 + 6 * k + 1)) ++ [if r (464 + 6 * k + 3) = -1 then 45 else 120] ++ cl W (r (464 + 6 * k + 2)) ++ List.replicate ((r (464 + 6 * k + 4)).toNat - 1) 63
theorem c169 {m' : Mm} {l : List Int32} (h : OC m m' l) (hG : iGam n m r W H) (hn : n ≤ 512) {k : Nat} (hk : (k : Int) < r 14) (hl : l.length + 13 ≤ 279) : An (d_169 20 (zI (k : Nat)) m') (fun m2 => OC m m2 (l ++ mvb r W k)) := by
  have hw := iG_w hG
  have h14 := hG.2.1.2.2.2.2.2.2.2.2.1
  obtain ⟨-, b1, b2, b3, b4⟩ := hG.2.1.2.2.2.2.2.2.2.2.2.2.2 k hk
  have hL := hG.2.2.2.2.2.2.1
  have hl4 : lA 40 := (gA_F gA_23).2.2.2.2.2.2.2.2.2
  have e72 : ∀ m2 l2, OC m m2 l2 → ∀ j : Nat, j < 6 → d_72 40 (zI (k : Nat)) (zI (j : Nat)) m2 = some (zI (made_ r W k j)) := fun m2 l2 h2 j hj => c72 hl4 (hL.mm (fun a a1 a2 => h2.1 a (by omega) (by omega))) h14.2 hk hj (by decide)
  have s1 : made_ r W k 1 = gi W (r (464 + 6 * k + 1)) := by unfold made_; rw [if_pos (Or.inl rfl)]
  have s2 : made_ r W k 2 = gi W (r (464 + 6 * k + 2)) := by unfold made_; rw [if_pos (Or.inr rfl)]
  have s3 : made_ r W k 3 = r (464 + 6 * k + 3) := by unfold made_; rw [if_neg (by decide)]
  have s4 : made_ r W k 4 = (((r (464 + 6 * k + 4)).toNat : Nat) : Int) := by unfold made_; rw [if_neg (by decide)]; omega
  have tl : ∀ (m2 : Mm) (l2 : List Int32), OC m m2 l2 → l2.length + 11 ≤ 279 → ∀ x : Int32, An (d_169_36 20 (zI (k : Nat)) 40 20 x m2) (fun m3 => OC m m3 (l2 ++ [x] ++ cl W (r (464 + 6 * k + 2)) ++ List.replicate ((r (464 + 6 * k + 4)).toNat - 1) 63)) := by
    intro m2 l2 h2 hl2 x
    unfold d_169_36
    refine (c171 h2 (by omega)).bd (fun m3 h3 => ?_)
    rw [show (2 : Int32) = zI ((2 : Nat) : Int) from rfl, e72 m3 _ h3 2 (by decide), s2]
    simp only [obs]
    refine (c170 h3 (by rw [List.length_append, List.length_singleton]; omega) hw b2.1 b2.2).bd (fun m4 h4 => ?_)
    exact c51r h4 hL h14.2 hk (by omega) (by omega) s4 (by simp only [List.length_append, List.length_singleton, cl, List.length_cons, List.length_nil]; omega)
  unfold d_169
  rw [log_a, show (1 : Int32) = zI ((1 : Nat) : Int) from rfl, e72 m' _ h 1 (by decide), s1]
  simp only [obs]
  refine (c170 h (by omega) hw b1.1 b1.2).bd (fun m2 h2 => ?_)
  rw [show (3 : Int32) = zI ((3 : Nat) : Int) from rfl, e72 m2 _ h2 3 (by decide), s3]
  simp only [obs]
  have hl2 : (l ++ cl W (r (464 + 6 * k + 1))).length + 11 ≤ 279 := by simp only [List.length_append, cl, List.length_cons, List.length_nil]; omega
  have ee : zI (r (464 + 6 * k + 3)) = -zI ((1 : Nat) : Int) ↔ r (464 + 6 * k + 3) = -1 := by rw [zI_neg, zI_inj (by omega) (by omega) (by omega) (by omega)]; omega
  unfold mvb
  by_cases q : r (464 + 6 * k + 3) = -1
  · rw [if_neg (fun h => h (ee.2 q)), if_pos q]
    have := tl m2 _ h2 hl2 45
    simp only [List.append_assoc] at this ⊢
    exact this
  · rw [if_pos (fun h => q (ee.1 h)), if_neg q]
    have := tl m2 _ h2 hl2 120
    simp only [List.append_assoc] at this ⊢
    exact this
end CN
