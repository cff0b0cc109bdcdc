/-! What the calls' arguments must be, in both. -/
theorem k_r0 : sh_r 20 0 = 21 := by decide +kernel
theorem k_r1 : sh_r 20 1 = 23 := by decide +kernel
theorem k_r2 : sh_r 20 2 = 42 := by decide +kernel
theorem k_r3 : sh_r 20 3 = 61 := by decide +kernel
theorem k_r5 : sh_r 20 5 = 80 := by decide +kernel
theorem k_r6 : sh_r 20 6 = 234 := by decide +kernel
theorem k_r7 : sh_r 20 7 = 237 := by decide +kernel
theorem k_r8 : sh_r 20 8 = 243 := by decide +kernel
theorem k_r9 : sh_r 20 9 = 248 := by decide +kernel
theorem gA_23 : gA 23 := Or.inl rfl
theorem gA_42 : gA 42 := Or.inr (Or.inl rfl)
theorem gA_61 : gA 61 := Or.inr (Or.inr (Or.inl rfl))
theorem gA_h {j : Nat} (h : j < 8) : gA (82 + 19 * j) := Or.inr (Or.inr (Or.inr ⟨j, h, rfl⟩))
theorem bE_l {T α : Type} {v : T} {m : Mm} {f : T → Mm → Option α} {g : Nat → Mm → Option α} : bE (some (.inl v, m)) f g = f v m := (Eq.refl (f v m)).trans rfl
theorem bE_r {T α : Type} {e : Nat} {m : Mm} {f : T → Mm → Option α} {g : Nat → Mm → Option α} : bE (some (.inr e, m)) f g = g e m := (Eq.refl (g e m)).trans rfl
theorem An_bE {T α : Type} {q : Option ((T ⊕ Nat) × Mm)} {f : T → Mm → Option α} {g : Nat → Mm → Option α} {P : (T ⊕ Nat) × Mm → Prop} {Q : α → Prop} (h : An q P) (k1 : ∀ v m, P (.inl v, m) → An (f v m) Q) (k2 : ∀ e m, P (.inr e, m) → An (g e m) Q) : An (bE q f g) Q := by
  obtain ⟨⟨w, m'⟩, e, hv⟩ := h
  rw [e]
  match w, hv with
  | .inl v, hv => rw [bE_l]; exact k1 v m' hv
  | .inr c, hv => rw [bE_r]; exact k2 c m' hv
section AP
variable {m : Mm} {r : Nat → Int} {W H : Nat}
theorem k175y {a : Int} (h : a = 0 ∨ a = 1) : d_175 (zI a) m = some (.inl (), m) := by
  unfold d_175
  rcases h with rfl | rfl
  · rw [if_pos (show zI 0 = 0 from rfl)]
  · rw [if_neg (by decide), if_pos (show zI 1 = 1 from rfl)]
theorem k175n {a : Int} (a1 : -2147483648 ≤ a) (a2 : a ≤ 2147483647) (h : ¬ (a = 0 ∨ a = 1)) : d_175 (zI a) m = some (.inr 1, m) := by
  unfold d_175
  rw [if_neg (by rw [zl_0, zI_inj a1 a2 (by decide) (by decide)]; omega), if_neg (by rw [zl_1, zI_inj a1 a2 (by decide) (by decide)]; omega)]
theorem k178 (h : GR m 23 r W H) (hw : WH W H) {x y : Int} (h1 : -2147483648 ≤ x) (h2 : x ≤ 2147483647) (h3 : -2147483648 ≤ y) (h4 : y ≤ 2147483647) :
    d_178 20 (zI x) (zI y) m = some (if 0 ≤ x ∧ x < W ∧ 0 ≤ y ∧ y < H then .inl () else .inr 0, m) := by
  have F := gA_F gA_23
  unfold d_178
  rw [k_r1, F.1, F.2.2.2.2.2.1.1, c15 h.1.1 hw h1 h2 h3 h4]
  simp only [obs]
  by_cases q : 0 ≤ x ∧ x < W ∧ 0 ≤ y ∧ y < H
  · rw [decide_eq_true q, if_pos rfl, if_pos q]
  · rw [decide_eq_false q, if_neg (by decide), if_neg q]
theorem m183 {B : Bool} : d_183 249 B m = some (B, wr m 249 0 (zI (if B = true then 0 else 1))) := by
  cases B <;> rfl
theorem m184 {B : Bool} {c : Int32} : d_184 249 B c m = some (B, wr m 249 0 (if B = true then zI 0 else c)) := by
  cases B <;> rfl
theorem m212 {a : Int} (a1 : -2147483648 ≤ a) (a2 : a ≤ 2147483647) : d_212 (zI a) = some (decide (0 ≤ a ∧ a ≤ 1)) := by
  unfold d_212
  rw [zl_0, zl_1, m185 a1 a2 (by decide) (by decide) (by decide) (by decide)]
  simp only [obs]
theorem m213 (h : MW m r W H) {x y : Int} (h1 : -2147483648 ≤ x) (h2 : x ≤ 2147483647) (h3 : -2147483648 ≤ y) (h4 : y ≤ 2147483647) : d_213 249 (zI x) (zI y) m = some (decide (0 ≤ x ∧ x < W ∧ 0 ≤ y ∧ y < H)) := by
  obtain ⟨w1, w2, w3, w4⟩ := h.2.2.2
  have e0 : m 250 0 = zI (W : Nat) := by rw [h.1 0 (by omega), h.2.1]
  have e1 : m 250 1 = zI (H : Nat) := by rw [h.1 1 (by omega), h.2.2.1]
  unfold d_213
  rw [m_r1, n_250, if_pos (by decide), if_pos (by decide), show ix (0 : Int32) = 0 from by decide, show ix (1 : Int32) = 1 from by decide, e0, e1, zl_0, zl_1, zI_sub, zI_sub, m185 h1 h2 (by omega) (by omega) (by omega) (by omega), m185 h3 h4 (by omega) (by omega) (by omega) (by omega)]
  simp only [obs]
  by_cases q1 : 0 ≤ x ∧ x < W
  · rw [decide_eq_true (by omega), if_pos rfl]
    by_cases q2 : 0 ≤ y ∧ y < H
    · rw [decide_eq_true (by omega), if_pos rfl, decide_eq_true ⟨q1.1, q1.2, q2.1, q2.2⟩]
    · rw [decide_eq_false (by omega), if_neg (by decide), decide_eq_false (by omega)]
  · rw [decide_eq_false (by omega), if_neg (by decide), decide_eq_false (by omega)]
theorem Qe.told {v : Int32} : Qe m (wr m 249 0 v) := ⟨fun a ha => wr_ne (by unfold core at ha; omega), fun k hk => wr_nk hk⟩
theorem Qe.out {v : Int32} : Qe m (wr m 266 0 v) := ⟨fun a ha => wr_ne (by unfold core at ha; omega), fun _ _ => by rw [wr_ne (by decide)]⟩
theorem iGam.q {n : Int} {m' : Mm} (h : iGam n m r W H) (q : Qe m m') : iGam n m' r W H :=
  ⟨h.1.mm (q.1 250 (by unfold core; omega)), h.2.1, h.2.2.mm (fun a _ _ => q.1 a (by unfold core; omega))⟩
theorem iGam.mw {n : Int} (h : iGam n m r W H) : MW m r W H := ⟨h.1, h.2.1.1.1, h.2.1.1.2.1, h.2.1.1.2.2⟩
theorem VL.q {m' : Mm} (h : VL m) (q : Qe m m') : VL m' := by
  unfold VL; rw [q.1 0 (by unfold core; omega), q.1 1 (by unfold core; omega)]; exact h
end AP
/-- the end of a law's own method that got a number -/
theorem lq_ok {m m1 : Mm} {v : Int32} (q : Qe m m1) : LQ (if ev_in 0 (sh_n 266) = true then (wb (wr m1 266 (ix 0) v) fun m3 => some ((0 : Int32), m3)) else none) m 0 v := by
  rw [if_pos (by decide)]
  refine An.so ⟨rfl, fun _ => ?_, q.tr Qe.out⟩
  show wr m1 266 (ix 0) v 266 0 = v
  rw [show ix (0 : Int32) = 0 from by decide, wr_eq]
theorem lq_ex {m m1 : Mm} {c : Int} {v : Int32} (hc : c ≠ 0) (q : Qe m m1) : LQ (some (zI c, m1)) m c v := An.so ⟨rfl, fun e => absurd e hc, q⟩
theorem rq_ok {m m' : Mm} {w v : Int32} {code : Int} (h1 : m' 249 0 = zI code) (h2 : code = 0 → w = v) (h3 : Qe m m') (h4 : m' 266 = m 266) : RQ (some (w, m')) m code v := An.so ⟨h1, h2, h3, h4⟩
theorem rq_t {m : Mm} {w v : Int32} {code : Int} (h2 : code = 0 → w = v) : RQ (some (w, wr m 249 0 (zI code))) m code v := rq_ok wr_eq h2 Qe.told (wr_ne (by decide))
/-! clock -/
section CK
variable {m : Mm} {r : Nat → Int} {W H : Nat} {n : Int}
theorem q6c (h : iGam n m r W H) {a : Int} (a1 : -2147483648 ≤ a) (a2 : a ≤ 2147483647) : LQ (d_312 20 (zI a) 266 m) m (if a = 0 ∨ a = 1 then 0 else 1) (zI (r (15 + a.toNat))) := by
  unfold d_312 d_126
  by_cases q : a = 0 ∨ a = 1
  · have e : d_52 23 (zI a) m = some (zI (r (15 + a.toNat))) := by
      have hs := h.2.2.2.2.2.2.2
      unfold d_52
      rcases q with rfl | rfl
      · rw [if_neg (by decide), hs.2.2.2.2.2.2.1]; rfl
      · rw [if_pos (by decide), hs.2.2.2.2.2.2.2]; rfl
    rw [k175y q, bE_l, k_r1, e, if_pos q]
    simp only [obs]
    rw [bE_l]
    exact lq_ok (Qe.rf m)
  · rw [k175n a1 a2 q, bE_r, bE_r, if_neg q, if_pos rfl]
    exact lq_ex (c := 1) (by decide) (Qe.rf m)
theorem q6m (h : iGam n m r W H) {a : Int} (a1 : -2147483648 ≤ a) (a2 : a ≤ 2147483647) : RQ (d_216 249 (zI a) m) m (if a = 0 ∨ a = 1 then 0 else 1) (zI (r (15 + a.toNat))) := by
  unfold d_216
  rw [m212 a1 a2]
  simp only [obs]
  rw [m183]
  simp only [obs]
  by_cases q : a = 0 ∨ a = 1
  · rw [decide_eq_true (by omega), if_pos rfl, if_pos rfl, if_pos q]
    have t : zI 15 + zI a = zI ((15 + a.toNat : Nat) : Int) := by rw [zI_add]; congr 1; omega
    rw [zl_15, t, if_pos (m_in (by omega)), m_rd (h.mw.1.mm (wr_ne (by decide)) |> fun u => (⟨u, h.mw.2⟩ : MW _ r W H)) (by omega)]
    exact rq_t (code := 0) (fun _ => rfl)
  · rw [decide_eq_false (by omega), if_neg (by decide), if_neg (by decide), if_neg q]
    exact rq_t (code := 1) (fun e => by cases e)
end CK
/-- what a turn comes to -/
def TN (n L : Nat) (q : Option ((Int32 × Mm) ⊕ (Bool × Mm))) : Prop := An q (fun w => ∃ m', w = .inl (zI ((7 * n + 7 : Nat) : Int), m') ∧ Inv (n + 1) m')
theorem in_i {n L j : Nat} (hi : 7 * n + 7 ≤ L) (hL : L ≤ 3584) (hj : j < 7) : ev_in (zI ((7 * n : Nat) : Int) + zI (j : Nat)) L = true := by
  rw [z_ad]; exact in_k (by omega) (by omega)
theorem turn_6 {n L : Nat} {m : Mm} (hI : Inv n m) (hi : 7 * n + 7 ≤ L) (hL : L ≤ 3584) : TN n L (d_348_437 L (zI ((7 * n : Nat) : Int)) m) := by
  obtain ⟨r, W, H, hG⟩ := hI.2.2.1
  have z1 : (1 : Int32) = zI ((1 : Nat) : Int) := rfl
  unfold d_348_437
  rw [z1, if_pos (in_i hi hL (by decide))]
  obtain ⟨a, ea, a1, a2⟩ := zI_ex (m 2 (ix (zI ((7 * n : Nat) : Int) + zI ((1 : Nat) : Int))))
  rw [ea]
  refine An.bd (q6c hG a1 a2) (fun r1 h1 => ?_)
  obtain ⟨h11, h12, h13⟩ := h1
  rw [if_pos (in_i hi hL (by decide)), h13.1 2 (by unfold core; omega), ea]
  refine An.bd (q6m (hG.q h13) a1 a2) (fun r2 h2 => ?_)
  obtain ⟨h21, h22, h23, h24⟩ := h2
  rw [i182]
  simp only [obs]
  rw [turnE (code := if a = 0 ∨ a = 1 then 0 else 1) (by split <;> omega) h11 h12 h21 h22 h24]
  exact An.so ⟨_, by rw [show ((7 * n : Nat) : Int) + 7 = ((7 * n + 7 : Nat) : Int) by omega], hI.q (h13.tr h23)⟩
