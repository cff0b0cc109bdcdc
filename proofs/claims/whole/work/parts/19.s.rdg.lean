/-! How a message is read. -/
def KU (W H : Nat) (b : Nat → Int) : Prop := ∀ s : Int, 0 ≤ s → s ≤ 1 → ∀ c c', c < W * H → c' < W * H → b c = 1 + 6 * s → b c' = 1 + 6 * s → c = c'
def BG (W H : Nat) (b : Nat → Int) : Prop := BD W H b ∧ KU W H b ∧ cnt W H b 0 ≤ 31 ∧ cnt W H b 1 ≤ 31
/-- what is so of a row of a game after so many calls -/
def RG (k : Int) (r : Nat → Int) (W H : Nat) : Prop := (r 0 = W ∧ r 1 = H ∧ WH W H) ∧ (0 ≤ r 2 ∧ r 2 ≤ 10000 * k) ∧ (0 ≤ r 3 ∧ r 3 ≤ 1) ∧ (0 ≤ r 4 ∧ r 4 ≤ 2) ∧ (1 ≤ r 5 ∧ r 5 ≤ 5) ∧ (0 ≤ r 6 ∧ r 6 ≤ 9) ∧ (1 ≤ r 7 ∧ r 7 ≤ 9) ∧ (0 ≤ r 13 ∧ r 13 ≤ 20) ∧ (0 ≤ r 14 ∧ r 14 ≤ 20) ∧
  (∀ s, s ≤ 1 → (0 ≤ r (9 + s) ∧ r (9 + s) ≤ 20 * k) ∧ (0 ≤ r (15 + s) ∧ r (15 + s) ≤ 9999) ∧ (-1 ≤ r (17 + s) ∧ r (17 + s) ≤ 1) ∧ (r (17 + s) ≠ -1 → (0 ≤ r (19 + s) ∧ r (19 + s) < (W * H : Nat)) ∧ (0 ≤ r (21 + s) ∧ r (21 + s) < (W * H : Nat))) ∧ BG W H (fun c => r (24 + 64 * s + c)) ∧ BG W H (fun c => r (152 + 64 * s + c))) ∧
  (0 ≤ r 8 ∧ FB (r 8).toNat (fun k => r (280 + 3 * k)) (fun k => r (281 + 3 * k)) (fun k => r (282 + 3 * k))) ∧
  (∀ j : Nat, (j : Int) < r 14 → (0 ≤ r (464 + 6 * j) ∧ r (464 + 6 * j) ≤ 1) ∧ (0 ≤ r (464 + 6 * j + 1) ∧ r (464 + 6 * j + 1) < (W * H : Nat)) ∧ (0 ≤ r (464 + 6 * j + 2) ∧ r (464 + 6 * j + 2) < (W * H : Nat)) ∧ (-1 ≤ r (464 + 6 * j + 3) ∧ r (464 + 6 * j + 3) ≤ 5) ∧ (1 ≤ r (464 + 6 * j + 4) ∧ r (464 + 6 * j + 4) ≤ 9))
def okm (W H : Nat) (l : Nat → Nat) : Prop := (l 0 = 1 ∨ l 0 = 2) ∧ (1 ≤ l 1 ∧ l 1 ≤ W) ∧ (1 ≤ l 2 ∧ l 2 ≤ H) ∧ (1 ≤ l 3 ∧ l 3 ≤ W) ∧ (1 ≤ l 4 ∧ l 4 ≤ H) ∧ l 5 = ck l
/-- the reading of what is seen, by the side q, of the side s -/
def rd0 (W : Nat) (bn bb : Nat → Int) (C S fr to : Int) (s : Nat) (tn : Int) (x y X Y : Nat) : Int :=
  if tn = 1 + C % 2 then (if mv W bn s x y X Y = true then 1 else 0)
  else if C = 0 then 0 else if ¬ S = (s : Int) then 0
  else if fr = ((x + W * y : Nat) : Int) ∧ to = ((X + W * Y : Nat) : Int) then 2
  else if mv W bb s x y X Y = true then 3 else 0
def rdg (W H : Nat) (r : Nat → Int) (s q : Nat) (l : Nat → Nat) [Decidable (okm W H l)] : Int :=
  if okm W H l then rd0 W (fun c => r (24 + 64 * q + c)) (fun c => r (152 + 64 * q + c)) (r (9 + q)) (r (17 + q)) (r (19 + q)) (r (21 + q)) s (l 0) (l 1 - 1) (l 2 - 1) (l 3 - 1) (l 4 - 1) else 0
noncomputable def rdx (W H : Nat) (r : Nat → Int) (s q : Nat) (l : Nat → Nat) : Int := @rdg W H r s q l (Classical.propDecidable _)
theorem rdx_y {W H : Nat} {r : Nat → Int} {s q : Nat} {l : Nat → Nat} (h : okm W H l) : rdx W H r s q l = rd0 W (fun c => r (24 + 64 * q + c)) (fun c => r (152 + 64 * q + c)) (r (9 + q)) (r (17 + q)) (r (19 + q)) (r (21 + q)) s (l 0) (l 1 - 1) (l 2 - 1) (l 3 - 1) (l 4 - 1) := by
  unfold rdx rdg; rw [if_pos h]
theorem rdx_n {W H : Nat} {r : Nat → Int} {s q : Nat} {l : Nat → Nat} (h : ¬ okm W H l) : rdx W H r s q l = 0 := by
  unfold rdx rdg; rw [if_neg h]
theorem rd0_r {W : Nat} {bn bb : Nat → Int} {C S fr to : Int} {s : Nat} {tn : Int} {x y X Y : Nat} : 0 ≤ rd0 W bn bb C S fr to s tn x y X Y ∧ rd0 W bn bb C S fr to s tn x y X Y ≤ 3 := by
  unfold rd0
  repeat' split
  all_goals omega
theorem rdx_r {W H : Nat} {r : Nat → Int} {s q : Nat} {l : Nat → Nat} : 0 ≤ rdx W H r s q l ∧ rdx W H r s q l ≤ 3 := by
  by_cases h : okm W H l
  · rw [rdx_y h]; exact rd0_r
  · rw [rdx_n h]; exact ⟨by decide, by decide⟩
section RR
variable {m : Mm} {r : Nat → Int} {W H : Nat}
theorem m247 (h : MW m r W H) {l : Nat → Nat} (hl : ∀ k, k < 6 → m 263 k = zI (l k : Nat)) (hb : ∀ k, k < 6 → l k ≤ 1000) : d_247 249 m = some (decide ((1 ≤ l 1 ∧ l 1 ≤ W) ∧ (1 ≤ l 2 ∧ l 2 ≤ H) ∧ (1 ≤ l 3 ∧ l 3 ≤ W) ∧ (1 ≤ l 4 ∧ l 4 ≤ H))) := by
  obtain ⟨w1, w2, w3, w4⟩ := h.2.2.2
  have e0 : m 250 0 = zI (W : Nat) := by rw [h.1 0 (by omega), h.2.1]
  have e1 : m 250 1 = zI (H : Nat) := by rw [h.1 1 (by omega), h.2.2.1]
  have b1 := hb 1 (by decide)
  have b2 := hb 2 (by decide)
  have b3 := hb 3 (by decide)
  have b4 := hb 4 (by decide)
  have z1 : (1 : Int32) = zI 1 := rfl
  unfold d_247
  rw [m_r1, m_r16, n_250, n_263, show ix (1 : Int32) = 1 from by decide, show ix (2 : Int32) = 2 from by decide, show ix (3 : Int32) = 3 from by decide, show ix (4 : Int32) = 4 from by decide, show ix (0 : Int32) = 0 from by decide, e0, e1, hl 1 (by decide), hl 2 (by decide), hl 3 (by decide), hl 4 (by decide)]
  rw [if_pos (by decide), if_pos (by decide), z1, m185 (by omega) (by omega) (by omega) (by omega) (by omega) (by omega)]
  simp only [obs]
  by_cases q1 : 1 ≤ l 1 ∧ l 1 ≤ W
  · rw [decide_eq_true (by omega), if_pos rfl, if_pos (by decide), if_pos (by decide), m185 (by omega) (by omega) (by omega) (by omega) (by omega) (by omega)]
    simp only [obs]
    by_cases q2 : 1 ≤ l 2 ∧ l 2 ≤ H
    · rw [decide_eq_true (by omega), if_pos rfl, if_pos (by decide), if_pos (by decide), m185 (by omega) (by omega) (by omega) (by omega) (by omega) (by omega)]
      simp only [obs]
      by_cases q3 : 1 ≤ l 3 ∧ l 3 ≤ W
      · rw [decide_eq_true (by omega), if_pos rfl, if_pos (by decide), if_pos (by decide), m185 (by omega) (by omega) (by omega) (by omega) (by omega) (by omega)]
        simp only [obs]
        by_cases q4 : 1 ≤ l 4 ∧ l 4 ≤ H
        · rw [decide_eq_true (by omega), if_pos rfl, decide_eq_true ⟨q1, q2, q3, q4⟩]
        · rw [decide_eq_false (by omega), if_neg (by decide), decide_eq_false (fun q => q4 q.2.2.2)]
      · rw [decide_eq_false (by omega), if_neg (by decide), decide_eq_false (fun q => q3 q.2.2.1)]
    · rw [decide_eq_false (by omega), if_neg (by decide), decide_eq_false (fun q => q2 q.2.1)]
  · rw [decide_eq_false (by omega), if_neg (by decide), decide_eq_false (fun q => q1 q.1)]
theorem m214 (h : MW m r W H) {x y : Int} : d_214 249 (zI x) (zI y) m = some (zI (x + W * y)) := by
  have e0 : m 250 0 = zI (W : Nat) := by rw [h.1 0 (by omega), h.2.1]
  unfold d_214
  rw [m_r1, n_250, if_pos (by decide), show ix (0 : Int32) = 0 from by decide, e0, zI_mul, zI_add]
theorem m248 (h : MW m r W H) {l : Nat → Nat} (hl : ∀ k, k < 6 → m 263 k = zI (l k : Nat)) : d_248 249 m = some (zI (((l 1 : Int) - 1) + W * ((l 2 : Int) - 1))) := by
  unfold d_248
  rw [m_r16, n_263, if_pos (by decide), if_pos (by decide), show ix (1 : Int32) = 1 from by decide, show ix (2 : Int32) = 2 from by decide, hl 1 (by decide), hl 2 (by decide), zl_1, zI_sub, zI_sub, m214 h]
  rfl
theorem m249 (h : MW m r W H) {l : Nat → Nat} (hl : ∀ k, k < 6 → m 263 k = zI (l k : Nat)) : d_249 249 m = some (zI (((l 3 : Int) - 1) + W * ((l 4 : Int) - 1))) := by
  unfold d_249
  rw [m_r16, n_263, if_pos (by decide), if_pos (by decide), show ix (3 : Int32) = 3 from by decide, show ix (4 : Int32) = 4 from by decide, hl 3 (by decide), hl 4 (by decide), zl_1, zI_sub, zI_sub, m214 h]
  rfl
theorem lk_c {W : Nat} {a b : Nat} (ha : 1 ≤ a) (hb : 1 ≤ b) : ((a : Int) - 1) + (W : Int) * ((b : Int) - 1) = (((a - 1) + W * (b - 1) : Nat) : Int) := by
  rw [← cc]
  rw [show ((a - 1 : Nat) : Int) = (a : Int) - 1 by omega, show ((b - 1 : Nat) : Int) = (b : Int) - 1 by omega]
theorem m250 (h : MW m r W H) {k : Int} (hk : k ≤ 1000) (hR : RG k r W H) {s q : Nat} (hs : s + q = 1) (h3 : r 3 = s) {l : Nat → Nat} (hl : ∀ k, k < 6 → m 263 k = zI (l k : Nat)) (hb : ∀ k, k < 6 → l k ≤ 1000) :
    d_250 249 m = some (zI (rdx W H r s q l)) := by
  have hw := h.2.2.2
  obtain ⟨w1, w2, w3, w4⟩ := h.2.2.2
  obtain ⟨-, -, -, -, -, -, -, -, -, hS, -⟩ := hR
  obtain ⟨c1, -, c3, c4, c5, c6⟩ := hS q (by omega)
  have hN := WH_n hw
  have e3 : m 250 3 = zI (s : Nat) := by rw [h.1 3 (by omega), h3]
  have e9 : m 250 (9 + q) = zI (r (9 + q)) := h.1 _ (by omega)
  have e17 : m 250 (17 + q) = zI (r (17 + q)) := h.1 _ (by omega)
  have e19 : m 250 (19 + q) = zI (r (19 + q)) := h.1 _ (by omega)
  have e21 : m 250 (21 + q) = zI (r (21 + q)) := h.1 _ (by omega)
  have b0 := hb 0 (by decide)
  have b1 := hb 1 (by decide)
  have b2 := hb 2 (by decide)
  have b3 := hb 3 (by decide)
  have b4 := hb 4 (by decide)
  have b5 := hb 5 (by decide)
  have eq : zI 1 - zI (s : Nat) = zI (q : Nat) := by rw [zI_sub]; congr 1; omega
  have z9 : zI 9 + zI (q : Nat) = zI ((9 + q : Nat) : Int) := z_ad 9 q
  have z17 : zI 17 + zI (q : Nat) = zI ((17 + q : Nat) : Int) := z_ad 17 q
  have z19 : zI 19 + zI (q : Nat) = zI ((19 + q : Nat) : Int) := z_ad 19 q
  have z21 : zI 21 + zI (q : Nat) = zI ((21 + q : Nat) : Int) := z_ad 21 q
  have i9 := in_k (k := 9 + q) (n := 584) (by omega) (by decide)
  have i17 := in_k (k := 17 + q) (n := 584) (by omega) (by decide)
  have i19 := in_k (k := 19 + q) (n := 584) (by omega) (by decide)
  have i21 := in_k (k := 21 + q) (n := 584) (by omega) (by decide)
  have e242 := m242 (m := m) (a := 263) n_263 (l := l) (fun k hk => hl k (by omega)) (fun k hk => hb k (by omega))
  have hck : ck l ≤ 7 := by unfold ck; omega
  unfold d_250
  simp only [wbs]
  rw [m_r1, m_r16, n_250, n_263, show ix (3 : Int32) = 3 from by decide, show ix (0 : Int32) = 0 from by decide, show ix (5 : Int32) = 5 from by decide, e3, hl 0 (by decide), hl 5 (by decide)]
  rw [if_pos (by decide), if_pos (by decide), zl_1, zl_2, m185 (by omega) (by omega) (by omega) (by omega) (by omega) (by omega), m247 h hl hb, e242, m248 h hl, m249 h hl]
  simp only [obs]
  by_cases ok : okm W H l
  · obtain ⟨o0, o1, o2, o3, o4, o5⟩ := ok
    rw [rdx_y ⟨o0, o1, o2, o3, o4, o5⟩]
    rw [decide_eq_true (by omega), if_pos rfl, decide_eq_true ⟨o1, o2, o3, o4⟩, if_pos rfl, if_pos (by decide), if_pos (by rw [o5]), if_pos (by decide)]
    rw [lk_c o1.1 o2.1, lk_c o3.1 o4.1, zl_9, eq, z9, if_pos i9, z_ix (by omega), e9, zl_17, z17, zl_19, z19, zl_21, z21]
    rw [if_pos i9, if_pos i17, if_pos i19, if_pos i21, z_ix (by omega), z_ix (by omega), z_ix (by omega), e17, e19, e21]
    generalize hx : l 1 - 1 = x
    generalize hy : l 2 - 1 = y
    generalize hX : l 3 - 1 = X
    generalize hY : l 4 - 1 = Y
    have c1' := cell_64 hw (x := x) (y := y) (by omega) (by omega)
    have c2' := cell_64 hw (x := X) (y := Y) (by omega) (by omega)
    have g1 := m203 h (t := 24 + 64 * q) (by omega) c5.1 (s := s) (by omega) (by omega) (x := x) (y := y) (X := X) (Y := Y) (by omega) (by omega) (by omega) (by omega)
    have g2 := m203 h (t := 152 + 64 * q) (by omega) c6.1 (s := s) (by omega) (by omega) (x := x) (y := y) (X := X) (Y := Y) (by omega) (by omega) (by omega) (by omega)
    have t1 : (24 : Int) + 64 * (q : Nat) = ((24 + 64 * q : Nat) : Int) := by omega
    have t2 : (152 : Int) + 64 * (q : Nat) = ((152 + 64 * q : Nat) : Int) := by omega
    unfold rd0 d_250_163
    rw [m194, m195]
    simp only [obs]
    rw [t1, t2, g1, g2]
    simp only [obs]
    rw [zI_rm c1.1 (by omega) (by omega) (by omega), zI_add]
    by_cases q1 : (l 0 : Int) = 1 + r (9 + q) % 2
    · rw [if_neg (by rw [q1]; exact fun q => q rfl), if_pos q1]
      cases mv W (fun c => r (24 + 64 * q + c)) s x y X Y <;> rfl
    · rw [if_pos (by rw [zI_inj (by omega) (by omega) (by omega) (by omega)]; exact q1), if_neg q1]
      by_cases q2 : r (9 + q) = 0
      · rw [if_pos (by rw [q2]; rfl), if_pos q2]; rfl
      · rw [if_neg (by rw [zl_0, zI_inj (by omega) (by omega) (by omega) (by omega)]; exact q2), if_neg q2]
        by_cases q3 : r (17 + q) = (s : Int)
        · have c4' := c4 (by omega)
          rw [if_pos (show zI (r (17 + q)) = zI (s : Nat) by rw [q3]), if_neg (show ¬ ¬ r (17 + q) = (s : Int) from fun e => e q3)]
          by_cases q4 : r (19 + q) = ((x + W * y : Nat) : Int)
          · rw [if_neg (show ¬ ¬ zI (r (19 + q)) = zI ((x + W * y : Nat) : Int) by rw [q4]; exact fun q => q rfl)]
            by_cases q5 : r (21 + q) = ((X + W * Y : Nat) : Int)
            · rw [if_neg (show ¬ ¬ zI (r (21 + q)) = zI ((X + W * Y : Nat) : Int) by rw [q5]; exact fun q => q rfl), if_pos ⟨q4, q5⟩]
            · rw [if_pos (show ¬ zI (r (21 + q)) = zI ((X + W * Y : Nat) : Int) by rw [zI_inj (by omega) (by omega) (by omega) (by omega)]; exact q5), if_neg (show ¬ (r (19 + q) = ((x + W * y : Nat) : Int) ∧ r (21 + q) = ((X + W * Y : Nat) : Int)) from fun e => q5 e.2)]
              cases mv W (fun c => r (152 + 64 * q + c)) s x y X Y <;> rfl
          · rw [if_pos (show ¬ zI (r (19 + q)) = zI ((x + W * y : Nat) : Int) by rw [zI_inj (by omega) (by omega) (by omega) (by omega)]; exact q4), if_neg (show ¬ (r (19 + q) = ((x + W * y : Nat) : Int) ∧ r (21 + q) = ((X + W * Y : Nat) : Int)) from fun e => q4 e.1)]
            cases mv W (fun c => r (152 + 64 * q + c)) s x y X Y <;> rfl
        · rw [if_neg (show ¬ zI (r (17 + q)) = zI (s : Nat) by rw [zI_inj (by omega) (by omega) (by omega) (by omega)]; exact q3), if_pos q3]; rfl
  · rw [rdx_n ok]
    by_cases o0 : l 0 = 1 ∨ l 0 = 2
    · rw [decide_eq_true (by omega), if_pos rfl]
      by_cases o1 : (1 ≤ l 1 ∧ l 1 ≤ W) ∧ (1 ≤ l 2 ∧ l 2 ≤ H) ∧ (1 ≤ l 3 ∧ l 3 ≤ W) ∧ (1 ≤ l 4 ∧ l 4 ≤ H)
      · rw [decide_eq_true o1, if_pos rfl, if_pos (by decide)]
        rw [if_neg]
        · rfl
        · rw [zI_inj (by omega) (by omega) (by omega) (by omega)]
          exact fun e => ok ⟨o0, o1.1, o1.2.1, o1.2.2.1, o1.2.2.2, by omega⟩
      · rw [decide_eq_false o1, if_neg (by decide)]; rfl
    · rw [decide_eq_false (by omega), if_neg (by decide)]; rfl
end RR
