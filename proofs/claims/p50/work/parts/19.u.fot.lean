/-! What is foretold. -/
def fG (r : Nat → Int) (s x y X Y : Nat) : Nat → Nat := mg (1 + (r (9 + s)).toNat % 2) x y X Y
def rF (r : Nat → Int) : Nat → Int := fun k => r (280 + 3 * k)
def rL (r : Nat → Int) : Nat → Int := fun k => r (281 + 3 * k)
def rE (r : Nat → Int) : Nat → Int := fun k => r (282 + 3 * k)
def rsee (r : Nat → Int) (t : Int) (c : Nat) : Nat := see (r 8).toNat (rF r) (rL r) (rE r) t c
def fl (r : Nat → Int) (s x y X Y : Nat) (t : Int) : Nat → Nat := fun k => rsee r (t + (gs (fG r s x y X Y) (r 5).toNat k : Nat)) (fG r s x y X Y k)
noncomputable def frd (W H : Nat) (r : Nat → Int) (s q x y X Y : Nat) (t : Int) : Int := rdx W H r s q (fl r s x y X Y t)
/-- the cells that are seen -/
def sx (l : Nat → Nat) : Nat := l 1 - 1
def sy (l : Nat → Nat) : Nat := l 2 - 1
def sX (l : Nat → Nat) : Nat := l 3 - 1
def sY (l : Nat → Nat) : Nat := l 4 - 1
noncomputable def fan (W H : Nat) (r : Nat → Int) (s q x y X Y : Nat) (t : Int) : Int := if frd W H r s q x y X Y t = 0 then 1 else 2 + tbh W H (fun c => r (24 + 64 * q + c)) (fun c => r (152 + 64 * q + c)) (frd W H r s q x y X Y t) (sx (fl r s x y X Y t)) (sy (fl r s x y X Y t)) (sX (fl r s x y X Y t)) (sY (fl r s x y X Y t)) % 5
def flen (r : Nat → Int) (s x y X Y : Nat) : Nat := gs (fG r s x y X Y) (r 5).toNat 6
noncomputable def fsn (W H : Nat) (r : Nat → Int) (s q x y X Y : Nat) (t : Int) : Nat := rsee r (t + (flen r s x y X Y : Nat)) (fan W H r s q x y X Y t).toNat
noncomputable def fia (W H : Nat) (r : Nat → Int) (s q x y X Y : Nat) (t : Int) : Bool := decide ((fsn W H r s q x y X Y t : Int) = 2 + (twi W H (fun c => r (24 + 64 * s + c)) x y X Y).tmod 5)
noncomputable def ftk (W H : Nat) (r : Nat → Int) (s q x y X Y : Nat) (t : Int) : Int := (flen r s x y X Y : Nat) + fan W H r s q x y X Y t + r 5
/-- the class's sending shows what is foretold -/
def SN (m : Mm) (W H : Nat) (r : Nat → Int) (s q x y X Y : Nat) (t : Int) : Prop :=
  m 234 2 = zI (flen r s x y X Y : Nat) ∧ m 234 3 = zI (frd W H r s q x y X Y t) ∧ m 234 4 = zI (fan W H r s q x y X Y t) ∧ m 234 5 = zI (fsn W H r s q x y X Y t : Nat) ∧ m 234 6 = bi (fia W H r s q x y X Y t) ∧ m 234 7 = zI (ftk W H r s q x y X Y t) ∧ (∀ k, k < 6 → m 235 k = zI (fG r s x y X Y k : Nat)) ∧ ∀ k, k < 6 → m 236 k = zI (fl r s x y X Y t k : Nat)
theorem SN.mm {m m' : Mm} {W H : Nat} {r : Nat → Int} {s q x y X Y : Nat} {t : Int} (h : SN m W H r s q x y X Y t) (e : ∀ a, 234 ≤ a → a ≤ 236 → m' a = m a) : SN m' W H r s q x y X Y t := by
  unfold SN
  rw [e 234 (by decide) (by decide), e 235 (by decide) (by decide), e 236 (by decide) (by decide)]
  exact h
theorem fG_le {r : Nat → Int} {s x y X Y : Nat} (hx : x < 8) (hy : y < 8) (hX : X < 8) (hY : Y < 8) (k : Nat) : fG r s x y X Y k ≤ 9 := by
  unfold fG mg
  repeat' split
  all_goals omega
theorem GR.bd {m : Mm} {g W H : Nat} {r : Nat → Int} (h : GR m g r W H) {s : Nat} (hs : s ≤ 1) : BV m (g + 1 + 5 * s) W H (fun c => r (24 + 64 * s + c)) (fun c => r (152 + 64 * s + c)) (r (9 + s)) (r (17 + s)) (gi W (r (19 + s))) (gi W (r (21 + s))) := by
  have : s = 0 ∨ s = 1 := by omega
  rcases this with rfl | rfl
  · exact h.1
  · exact h.2.1
theorem gA_b {g s : Nat} (h : gA g) (hs : s ≤ 1) : bA (g + 1 + 5 * s) := by
  have k := gA_F h
  have : s = 0 ∨ s = 1 := by omega
  rcases this with rfl | rfl
  · exact k.2.2.2.2.2.1
  · exact k.2.2.2.2.2.2.1
theorem c51 {g s : Nat} (h : gA g) (hs : s ≤ 1) : d_51 g (zI (s : Nat)) = some (g + 1 + 5 * s) := by
  have k := gA_F h
  have : s = 0 ∨ s = 1 := by omega
  unfold d_51
  rw [k.1, k.2.1]
  rcases this with rfl | rfl
  · rfl
  · rfl
theorem tbh_nn {W H : Nat} {bn bb : Nat → Int} (hw : WH W H) (h1 : BD W H bn) (h2 : BD W H bb) {rd : Int} {x y X Y : Nat} (hx : x < W) (hy : y < H) (hX : X < W) (hY : Y < H) (hn : rd = 1 ∨ rd = 3 → ¬ (x = X ∧ y = Y)) : 0 ≤ tbh W H bn bb rd x y X Y ∧ tbh W H bn bb rd x y X Y ≤ 60000 := by
  have hN := WH_n hw
  unfold tbh
  by_cases q1 : rd = 1
  · rw [if_pos q1, ← tot_mb hx hy hX hY (hn (Or.inl q1))]
    have := tot_nn hw (BD_mb h1 hx hy (X := X) (Y := Y)) (W * H) (Nat.le_refl _)
    omega
  · rw [if_neg q1]
    by_cases q3 : rd = 3
    · rw [if_pos q3, ← tot_mb hx hy hX hY (hn (Or.inr q3))]
      have := tot_nn hw (BD_mb h2 hx hy (X := X) (Y := Y)) (W * H) (Nat.le_refl _)
      omega
    · rw [if_neg q3]
      have := tot_nn hw h1 (W * H) (Nat.le_refl _)
      omega
theorem rdx_mv {W H : Nat} {r : Nat → Int} {s q : Nat} {l : Nat → Nat} (h : rdx W H r s q l ≠ 0) : okm W H l ∧ (rdx W H r s q l = 1 → mv W (fun c => r (24 + 64 * q + c)) s (sx l) (sy l) (sX l) (sY l) = true) ∧ (rdx W H r s q l = 3 → mv W (fun c => r (152 + 64 * q + c)) s (sx l) (sy l) (sX l) (sY l) = true) := by
  by_cases ho : okm W H l
  · refine ⟨ho, ?_, ?_⟩
    · rw [rdx_y ho]
      unfold rd0 sx sy sX sY
      intro e
      repeat' split at e
      all_goals first | assumption | omega
    · rw [rdx_y ho]
      unfold rd0 sx sy sX sY
      intro e
      repeat' split at e
      all_goals first | assumption | omega
  · exact absurd (rdx_n ho) h
theorem okm_c {W H : Nat} {l : Nat → Nat} (h : okm W H l) : sx l < W ∧ sy l < H ∧ sX l < W ∧ sY l < H ∧ l 1 = sx l + 1 ∧ l 2 = sy l + 1 ∧ l 3 = sX l + 1 ∧ l 4 = sY l + 1 := by
  obtain ⟨-, o1, o2, o3, o4, -⟩ := h
  unfold sx sy sX sY
  omega
theorem fan_r {W H : Nat} {r : Nat → Int} {k : Int} (hR : RG k r W H) {s q x y X Y : Nat} (hq : q ≤ 1) {t : Int} : 1 ≤ fan W H r s q x y X Y t ∧ fan W H r s q x y X Y t ≤ 6 := by
  obtain ⟨⟨-, -, hw⟩, -, -, -, -, -, -, -, -, hS, -⟩ := hR
  obtain ⟨-, -, -, -, c5, c6⟩ := hS q hq
  unfold fan
  by_cases e : frd W H r s q x y X Y t = 0
  · rw [if_pos e]; omega
  · rw [if_neg e]
    omega
theorem zI_tm {a : Int} (h1 : -2147483648 < a) (h2 : a ≤ 2147483647) : zI a - zI a / zI 5 * zI 5 = zI (a.tmod 5) := by
  rw [zI_div h1 h2 (by omega) (by omega), zI_mul, zI_sub]
  have := Int.tmod_add_mul_tdiv a 5
  congr 1
  omega
theorem tm_r (a : Int) : -5 < a.tmod 5 ∧ a.tmod 5 < 5 := by
  have h1 := Int.tmod_lt_of_pos a (show (0 : Int) < 5 by decide)
  have h2 := Int.lt_tmod_of_pos a (show (0 : Int) < 5 by decide)
  omega
theorem twi_r {W H : Nat} {b : Nat → Int} (hw : WH W H) (hb : BD W H b) {x y X Y : Nat} (hx : x < W) (hy : y < H) (hX : X < W) (hY : Y < H) : -60000 ≤ twi W H b x y X Y ∧ twi W H b x y X Y ≤ 60000 := by
  have h1 := tot_nn hw hb (W * H) (Nat.le_refl _)
  have hN := WH_n hw
  have b1 := hb x y hx hy
  have b2 := hb X Y hX hY
  have b3 := av_r (H := H) (y := Y) b1.1 b1.2
  have c1 := cell_64 hw hx hy
  have c2 := cell_64 hw hX hY
  have k : ∀ (c : Nat) (B : Int), c < 64 → 0 ≤ B → B ≤ 12 → 0 ≤ ((c : Int) + 1) * B ∧ ((c : Int) + 1) * B ≤ 64 * 12 := fun c B hc q1 q2 => ⟨Int.mul_nonneg (by omega) q1, Int.mul_le_mul (by omega) q2 q1 (by decide)⟩
  have k1 := k _ _ c1 b1.1 b1.2
  have k2 := k _ _ c2 b2.1 b2.2
  have k3 := k _ _ c2 b3.1 b3.2
  unfold twi
  omega
section FO
variable {m : Mm} {W H g : Nat} {r : Nat → Int}
theorem c90 {l : Nat → Nat} (hl : ∀ k, k < 6 → m 236 k = zI (l k : Nat)) : d_90 234 m = some (zI (((l 1 : Int) - 1) + 8 * ((l 2 : Int) - 1))) := by
  unfold d_90 d_12
  rw [s_r1, s_n6, if_pos (by decide), if_pos (by decide), show ix (1 : Int32) = 1 from by decide, show ix (2 : Int32) = 2 from by decide, hl 1 (by decide), hl 2 (by decide), zl_1, zl_8, zI_sub, zI_sub, zI_mul, zI_add]
  rfl
theorem c91 {l : Nat → Nat} (hl : ∀ k, k < 6 → m 236 k = zI (l k : Nat)) : d_91 234 m = some (zI (((l 3 : Int) - 1) + 8 * ((l 4 : Int) - 1))) := by
  unfold d_91 d_12
  rw [s_r1, s_n6, if_pos (by decide), if_pos (by decide), show ix (3 : Int32) = 3 from by decide, show ix (4 : Int32) = 4 from by decide, hl 3 (by decide), hl 4 (by decide), zl_1, zl_8, zI_sub, zI_sub, zI_mul, zI_add]
  rfl
theorem GR.fg (h : GR m g r W H) (h8 : 0 ≤ r 8) : FV m (g + 11) ((r 8).toNat : Nat) (rF r) (rL r) (rE r) := by
  rw [show (((r 8).toNat : Nat) : Int) = r 8 by omega]
  exact h.2.2.1
theorem c131 (hg : gA g) (hg2 : g + 18 < 234) (h : GR m g r W H) {k : Int} (hk : k ≤ 520) (hR : RG k r W H) {s q : Nat} (hs : s + q = 1) {t : Int} (t1 : 0 ≤ t) (t2 : t ≤ 8000000) {x y X Y : Nat} (hx : x < W) (hy : y < H) (hX : X < W) (hY : Y < H)
    (e2 : m 234 2 = zI (flen r s x y X Y : Nat)) (e4 : m 234 4 = zI (fan W H r s q x y X Y t)) :
    An (d_59_131 g 234 (zI ((x + 8 * y : Nat) : Int)) (zI ((X + 8 * Y : Nat) : Int)) (zI t) (g + 1 + 5 * s) m) (fun m' => m' 234 2 = m 234 2 ∧ m' 234 3 = m 234 3 ∧ m' 234 4 = m 234 4 ∧ m' 234 5 = zI (fsn W H r s q x y X Y t : Nat) ∧ m' 234 6 = bi (fia W H r s q x y X Y t) ∧ m' 234 7 = zI (ftk W H r s q x y X Y t) ∧ ∀ a, a ≠ 234 → m' a = m a) := by
  have ha := fan_r hR (s := s) (q := q) (x := x) (y := y) (X := X) (Y := Y) (t := t) (by omega)
  obtain ⟨⟨-, -, hw⟩, -, -, -, h5, -, -, -, -, hS, hF, -⟩ := hR
  obtain ⟨-, -, -, -, c5, -⟩ := hS s (by omega)
  have hw' := hw
  obtain ⟨w1, w2, w3, w4⟩ := hw'
  have hl : flen r s x y X Y ≤ 84 := gs_le (fun k _ => fG_le (by omega) (by omega) (by omega) (by omega) k) (by omega) 6 (Nat.le_refl _)
  have F := gA_F hg
  have e45 := c45 F.2.2.2.2.2.2.2.1 (h.fg hF.1) hF.2 (t := t + (flen r s x y X Y : Nat)) (by omega) (by omega) (c := (fan W H r s q x y X Y t).toNat) (by omega)
  rw [show (((fan W H r s q x y X Y t).toNat : Nat) : Int) = fan W H r s q x y X Y t by omega] at e45
  have sl : fsn W H r s q x y X Y t ≤ 1000 := by
    have := see_le (n := (r 8).toNat) (F := rF r) (L := rL r) (E := rE r) (t := t + (flen r s x y X Y : Nat)) (c := (fan W H r s q x y X Y t).toNat)
    unfold fsn rsee
    omega
  have bv := h.bd (s := s) (by omega)
  have ba := gA_b hg (s := s) (by omega)
  unfold d_59_131
  rw [F.2.2.1, e2, e4, zI_add, e45]
  simp only [obs, wbs]
  have bv' : FR (wr m 234 5 (zI (see (r 8).toNat (rF r) (rL r) (rE r) (t + (flen r s x y X Y : Nat)) (fan W H r s q x y X Y t).toNat : Nat))) (g + 1 + 5 * s + 1) W H (fun c => r (24 + 64 * s + c)) := bv.1.mm (wr_ne (by omega)) (wr_ne (by omega))
  rw [ba.1, c34 ba.2.2.1 bv' hw c5.1 hx hy hX hY, wr_eq]
  simp only [obs]
  have tr := twi_r hw c5.1 hx hy hX hY
  have tm := tm_r (twi W H (fun c => r (24 + 64 * s + c)) x y X Y)
  rw [zl_5, zI_tm (by omega) (by omega), zl_2, zI_add]
  have ne : g ≠ 234 := by omega
  have e8 : m g 8 = zI (r 5) := h.2.2.2.2.2.2.2.2.1
  have fin : ∀ B : Bool, d_59_180 g 234 234 B (wr m 234 5 (zI (fsn W H r s q x y X Y t : Nat))) = some (wr (wr (wr m 234 5 (zI (fsn W H r s q x y X Y t : Nat))) 234 6 (bi B)) 234 7 (zI (ftk W H r s q x y X Y t))) := by
    intro B
    unfold d_59_180
    simp only [wbs]
    rw [wr_nk (by decide), wr_nk (by decide), wr_nk (by decide), wr_nk (by decide), wr_ne ne, wr_ne ne, e2, e4, e8, zI_add, zI_add]
    rfl
  have done : ∀ B : Bool, B = fia W H r s q x y X Y t → An (some (wr (wr (wr m 234 5 (zI (fsn W H r s q x y X Y t : Nat))) 234 6 (bi B)) 234 7 (zI (ftk W H r s q x y X Y t)))) (fun m' => m' 234 2 = m 234 2 ∧ m' 234 3 = m 234 3 ∧ m' 234 4 = m 234 4 ∧ m' 234 5 = zI (fsn W H r s q x y X Y t : Nat) ∧ m' 234 6 = bi (fia W H r s q x y X Y t) ∧ m' 234 7 = zI (ftk W H r s q x y X Y t) ∧ ∀ a, a ≠ 234 → m' a = m a) := by
    intro B hB
    subst hB
    refine An.so ⟨?_, ?_, ?_, ?_, ?_, ?_, fun a ha => ?_⟩
    · rw [wr_nk (by decide), wr_nk (by decide), wr_nk (by decide)]
    · rw [wr_nk (by decide), wr_nk (by decide), wr_nk (by decide)]
    · rw [wr_nk (by decide), wr_nk (by decide), wr_nk (by decide)]
    · rw [wr_nk (by decide), wr_nk (by decide), wr_eq]
    · rw [wr_nk (by decide), wr_eq]
    · rw [wr_eq]
    · rw [wr_ne ha, wr_ne ha, wr_ne ha]
  have es : see (r 8).toNat (rF r) (rL r) (rE r) (t + (flen r s x y X Y : Nat)) (fan W H r s q x y X Y t).toNat = fsn W H r s q x y X Y t := rfl
  rw [es, ← e2, ← e4] at *
  by_cases qq : (fsn W H r s q x y X Y t : Int) = 2 + (twi W H (fun c => r (24 + 64 * s + c)) x y X Y).tmod 5
  · rw [if_neg (by rw [qq]; exact fun q => q rfl), fin]
    exact done true (by unfold fia; rw [decide_eq_true qq])
  · rw [if_pos (by rw [zI_inj (by omega) (by omega) (by omega) (by omega)]; exact qq), fin]
    exact done false (by unfold fia; rw [decide_eq_false qq])
end FO
