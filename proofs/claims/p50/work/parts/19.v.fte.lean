/-! What is foretold, whole. -/
section FE
variable {m : Mm} {W H g : Nat} {r : Nat → Int}
theorem c94 (hg : gA g) (hg2 : g + 18 < 234) (h : GR m g r W H) {k : Int} (hk : k ≤ 520) (hR : RG k r W H) {s q : Nat} (hs : s + q = 1) {t : Int} (t1 : 0 ≤ t) (t2 : t ≤ 8000000) {x y X Y : Nat} (hx : x < W) (hy : y < H) (hX : X < W) (hY : Y < H)
    (e2 : m 234 2 = zI (flen r s x y X Y : Nat)) (e3 : m 234 3 = zI (frd W H r s q x y X Y t)) (e6 : ∀ k, k < 6 → m 236 k = zI (fl r s x y X Y t k : Nat)) :
    An (d_59_94 g 234 (zI ((x + 8 * y : Nat) : Int)) (zI ((X + 8 * Y : Nat) : Int)) (zI t) (g + 1 + 5 * s) (g + 1 + 5 * q) m) (fun m' => m' 234 2 = zI (flen r s x y X Y : Nat) ∧ m' 234 3 = zI (frd W H r s q x y X Y t) ∧ m' 234 4 = zI (fan W H r s q x y X Y t) ∧ m' 234 5 = zI (fsn W H r s q x y X Y t : Nat) ∧ m' 234 6 = bi (fia W H r s q x y X Y t) ∧ m' 234 7 = zI (ftk W H r s q x y X Y t) ∧ ∀ a, a ≠ 234 → m' a = m a) := by
  have hR' := hR
  obtain ⟨⟨-, -, hw⟩, -, -, -, h5, -, -, -, -, hS, hF, -⟩ := hR'
  obtain ⟨-, -, -, -, c5, c6⟩ := hS q (by omega)
  have rr := rdx_r (W := W) (H := H) (r := r) (s := s) (q := q) (l := fl r s x y X Y t)
  have rr' : 0 ≤ frd W H r s q x y X Y t ∧ frd W H r s q x y X Y t ≤ 3 := rr
  have sub : ∀ m1 : Mm, (∀ a, a ≠ 234 → m1 a = m a) → m1 234 2 = m 234 2 → m1 234 3 = m 234 3 → m1 234 4 = zI (fan W H r s q x y X Y t) →
      An (d_59_131 g 234 (zI ((x + 8 * y : Nat) : Int)) (zI ((X + 8 * Y : Nat) : Int)) (zI t) (g + 1 + 5 * s) m1) (fun m' => m' 234 2 = zI (flen r s x y X Y : Nat) ∧ m' 234 3 = zI (frd W H r s q x y X Y t) ∧ m' 234 4 = zI (fan W H r s q x y X Y t) ∧ m' 234 5 = zI (fsn W H r s q x y X Y t : Nat) ∧ m' 234 6 = bi (fia W H r s q x y X Y t) ∧ m' 234 7 = zI (ftk W H r s q x y X Y t) ∧ ∀ a, a ≠ 234 → m' a = m a) := by
    intro m1 f1 f2 f3 f4
    refine An.mp (c131 hg hg2 (h.mm (fun a _ _ => f1 a (by omega))) hk hR hs t1 t2 hx hy hX hY (by rw [f2, e2]) f4) (fun m' hm' => ?_)
    obtain ⟨g1, g2, g3, g4, g5, g6, g7⟩ := hm'
    exact ⟨by rw [g1, f2, e2], by rw [g2, f3, e3], by rw [g3, f4], g4, g5, g6, fun a ha => by rw [g7 a ha, f1 a ha]⟩
  unfold d_59_94
  simp only [wbs]
  rw [wr_nk (by decide), e3]
  by_cases q0 : frd W H r s q x y X Y t = 0
  · rw [if_pos (by rw [q0]; rfl)]
    refine sub _ (fun a ha => wr_ne ha) (wr_nk (by decide)) (wr_nk (by decide)) ?_
    rw [wr_eq]
    unfold fan
    rw [if_pos q0]; rfl
  · rw [if_neg (by rw [zl_0, zI_inj (by omega) (by omega) (by omega) (by omega)]; exact q0)]
    obtain ⟨ok, m1, m3⟩ := rdx_mv (W := W) (H := H) (r := r) (s := s) (q := q) (l := fl r s x y X Y t) q0
    obtain ⟨o1, o2, o3, o4, o5, o6, o7, o8⟩ := okm_c ok
    have e6' : ∀ k, k < 6 → wr m 234 4 1 236 k = zI (fl r s x y X Y t k : Nat) := fun k hk => by rw [wr_ne (by decide)]; exact e6 k hk
    have cx : ((fl r s x y X Y t 1 : Int) - 1) + 8 * ((fl r s x y X Y t 2 : Int) - 1) = ((sx (fl r s x y X Y t) + 8 * sy (fl r s x y X Y t) : Nat) : Int) := by omega
    have cX : ((fl r s x y X Y t 3 : Int) - 1) + 8 * ((fl r s x y X Y t 4 : Int) - 1) = ((sX (fl r s x y X Y t) + 8 * sY (fl r s x y X Y t) : Nat) : Int) := by omega
    rw [c90 e6', c91 e6', cx, cX]
    simp only [obs]
    have bv := (h.bd (s := q) (by omega)).mm (m' := wr m 234 4 1) (fun a _ _ => wr_ne (by omega))
    rw [c7 (gA_b hg (by omega)) bv hw c5.1 c6.1 rr'.1 rr'.2 o1 o2 o3 o4]
    simp only [obs]
    have tn := tbh_nn hw c5.1 c6.1 (rd := frd W H r s q x y X Y t) o1 o2 o3 o4 (fun e => by
      rcases e with e | e
      · exact (mv_f (m1 e)).1
      · exact (mv_f (m3 e)).1)
    rw [zl_5, zl_2, zI_rm tn.1 (by omega) (by omega) (by omega), zI_add]
    refine sub _ (fun a ha => by rw [wr_ne ha, wr_ne ha]) (by rw [wr_nk (by decide), wr_nk (by decide)]) (by rw [wr_nk (by decide), wr_nk (by decide)]) ?_
    rw [wr_eq]
    unfold fan
    rw [if_neg q0]
theorem c59 (hg : gA g) (hg2 : g + 18 < 234) (h : GR m g r W H) {k : Int} (hk : k ≤ 520) (hR : RG k r W H) {s q : Nat} (hs : s + q = 1) (h3 : r 3 = s) {t : Int} (t1 : 0 ≤ t) (t2 : t ≤ 8000000) {x y X Y : Nat} (hx : x < W) (hy : y < H) (hX : X < W) (hY : Y < H) :
    An (d_59 g 234 (zI ((x + 8 * y : Nat) : Int)) (zI ((X + 8 * Y : Nat) : Int)) (zI t) m) (fun m' => SN m' W H r s q x y X Y t ∧ ∀ a, a < 234 ∨ 236 < a → m' a = m a) := by
  have hR' := hR
  obtain ⟨⟨-, -, hw⟩, -, -, -, h5, -, -, -, -, hS, hF, -⟩ := hR'
  obtain ⟨s1, -, -, -, -, -⟩ := hS s (by omega)
  obtain ⟨q1, q2, q3, q4, q5, q6⟩ := hS q (by omega)
  have hw' := hw
  obtain ⟨w1, w2, w3, w4⟩ := hw'
  have F := gA_F hg
  have e6 : m g 6 = zI (s : Nat) := by rw [h.2.2.2.2.2.2.1, h3]
  have e8 : m g 8 = zI ((r 5).toNat : Nat) := by rw [h.2.2.2.2.2.2.2.2.1]; congr 1; omega
  have eq : zI 1 - zI (s : Nat) = zI (q : Nat) := by rw [zI_sub]; congr 1; omega
  have bs := h.bd (s := s) (by omega)
  have bq := h.bd (s := q) (by omega)
  unfold d_59
  rw [e6, zl_1, eq, c51 hg (by omega), c51 hg (by omega)]
  simp only [obs]
  rw [c5 (c := (r (9 + s)).toNat) (by rw [bs.2.2.1]; congr 1; omega), show (1 : Int) + (((r (9 + s)).toNat % 2 : Nat) : Int) = ((1 + (r (9 + s)).toNat % 2 : Nat) : Int) by omega]
  simp only [obs]
  refine An.bd (c86 (by omega) (by omega) (by omega) (by omega) (by omega)) (fun m6 k6 => ?_)
  have f6 : ∀ a, a < 234 ∨ 236 < a → m6 a = m a := fun a ha => k6.2 a (by omega)
  have h6 : GR m6 g r W H := h.mm (fun a _ _ => f6 a (by omega))
  rw [F.2.2.1, show m6 g 8 = zI ((r 5).toNat : Nat) by rw [f6 g (by omega)]; exact e8]
  refine An.bd (c88 F.2.2.2.2.2.2.2.1 (by omega) (h6.fg hF.1) hF.2 (G := fG r s x y X Y) k6.1 (fun k _ => fG_le (by omega) (by omega) (by omega) (by omega) k) t1 (by omega) (by omega)) (fun m7 k7 => ?_)
  obtain ⟨k71, k72, k73, k74⟩ := k7
  have f7 : ∀ a, a < 234 ∨ 236 < a → m7 a = m a := fun a ha => by rw [k74 a (by omega) (by omega), f6 a ha]
  simp only [wbs]
  generalize hm8 : wr m7 234 3 0 = m8
  have f8 : ∀ a, a ≠ 234 → m8 a = m7 a := fun a ha => by rw [← hm8, wr_ne ha]
  have l8 : ∀ k, k < 6 → m8 236 k = zI (fl r s x y X Y t k : Nat) := fun k hk => by rw [f8 236 (by decide)]; exact k71 k hk
  have lb : ∀ k, k < 6 → fl r s x y X Y t k ≤ 1000 := fun k _ => by
    have := see_le (n := (r 8).toNat) (F := rF r) (L := rL r) (E := rE r) (t := t + (gs (fG r s x y X Y) (r 5).toNat k : Nat)) (c := fG r s x y X Y k)
    have := fG_le (r := r) (s := s) (x := x) (y := y) (X := X) (Y := Y) (by omega) (by omega) (by omega) (by omega) k
    unfold fl rsee
    omega
  have h8 : GR m8 g r W H := h.mm (fun a _ _ => by rw [f8 a (by omega), f7 a (by omega)])
  have bq8 := h8.bd (s := q) (by omega)
  have ba := gA_b hg (s := q) (by omega)
  have e89 := c89 bq8.1 hw l8 lb
  have fin : ∀ m9 : Mm, (∀ a, a ≠ 234 → m9 a = m8 a) → m9 234 2 = zI (flen r s x y X Y : Nat) → m9 234 3 = zI (frd W H r s q x y X Y t) →
      An (d_59_94 g 234 (zI ((x + 8 * y : Nat) : Int)) (zI ((X + 8 * Y : Nat) : Int)) (zI t) (g + 1 + 5 * s) (g + 1 + 5 * q) m9) (fun m' => SN m' W H r s q x y X Y t ∧ ∀ a, a < 234 ∨ 236 < a → m' a = m a) := by
    intro m9 g1 g2 g3
    refine An.mp (c94 hg hg2 (h8.mm (fun a _ _ => g1 a (by omega))) hk hR hs t1 t2 hx hy hX hY g2 g3 (fun k hk => by rw [g1 236 (by decide)]; exact l8 k hk)) (fun m' hm' => ?_)
    obtain ⟨u1, u2, u3, u4, u5, u6, u7⟩ := hm'
    refine ⟨⟨u1, u2, u3, u4, u5, u6, fun k hk => ?_, fun k hk => ?_⟩, fun a ha => ?_⟩
    · rw [u7 235 (by decide), g1 235 (by decide), f8 235 (by decide), k74 235 (by decide) (by decide)]; exact k6.1 k hk
    · rw [u7 236 (by decide), g1 236 (by decide)]; exact l8 k hk
    · rw [u7 a (by omega), g1 a (by omega), f8 a (by omega), f7 a ha]
  have e82 : m8 234 2 = zI (flen r s x y X Y : Nat) := by rw [← hm8, wr_nk (by decide)]; exact k72
  rw [ba.1]
  by_cases ok : okm W H (fl r s x y X Y t)
  · rw [e89.1 ok]
    simp only [obs, ift]
    obtain ⟨o1, o2, o3, o4, o5, o6, o7, o8⟩ := okm_c ok
    have cx : ((fl r s x y X Y t 1 : Int) - 1) + 8 * ((fl r s x y X Y t 2 : Int) - 1) = ((sx (fl r s x y X Y t) + 8 * sy (fl r s x y X Y t) : Nat) : Int) := by omega
    have cX : ((fl r s x y X Y t 3 : Int) - 1) + 8 * ((fl r s x y X Y t 4 : Int) - 1) = ((sX (fl r s x y X Y t) + 8 * sY (fl r s x y X Y t) : Nat) : Int) := by omega
    have e85 : d_85 234 0 m8 = some (zI (fl r s x y X Y t 0 : Nat)) := by
      unfold d_85
      rw [s_r1, s_n6, if_neg (by decide), if_neg (by decide), if_pos (by decide), show ix (0 : Int32) = 0 from by decide, l8 0 (by decide)]
    have e66 : m8 g 6 = zI (s : Nat) := by rw [f8 g (by omega), f7 g (by omega)]; exact e6
    have b0 := lb 0 (by decide)
    rw [e85, c90 l8, c91 l8, cx, cX, e66]
    simp only [obs]
    rw [c6 ba bq8 hw q5.1 q6.1 q1.1 (by omega) q3.1 q3.2 q4 (s := s) (by omega) (by omega) (by omega) o1 o2 o3 o4]
    simp only [obs]
    refine fin _ (fun a ha => wr_ne ha) (by rw [wr_nk (by decide)]; exact e82) ?_
    rw [wr_eq]
    unfold frd
    rw [rdx_y ok]
    rfl
  · rw [e89.2 ok]
    simp only [obs, Bool.false_eq_true, ifn]
    refine fin _ (fun a _ => rfl) e82 ?_
    unfold frd
    rw [rdx_n ok, ← hm8, wr_eq]
    rfl
end FE
