/-! How the class reads and answers a message. -/
theorem gio_in {W H c x y : Nat} (hw : WH W H) (hc : c < W * H) (hx : x < W) (hy : y < H) : gio W c = ((x + 8 * y : Nat) : Int) ↔ c = x + W * y := by
  obtain ⟨u, v, hu, hv, rfl, -, -, e⟩ := gio_c hw hc
  obtain ⟨a, a2, a3, a4⟩ := hw
  rw [e, cell_in hu hx]
  omega
theorem tot_put {b : Nat → Int} {d : Nat} {v : Int} : ∀ n, tot n (fun c => if c = d then v else b c) = tot n b + (if d < n then ((d : Int) + 1) * v - ((d : Int) + 1) * b d else 0) := by
  intro n
  induction n with
  | zero => rw [if_neg (Nat.not_lt_zero _)]; rfl
  | succ n ih =>
    unfold tot at *
    rw [fo_s, fo_s, ih]
    dsimp only
    by_cases e : n = d
    · subst e
      rw [if_pos rfl, if_neg (Nat.lt_irrefl _), if_pos (Nat.lt_succ_self _)]
      omega
    · rw [if_neg e]
      by_cases q : d < n
      · rw [if_pos q, if_pos (by omega)]; omega
      · rw [if_neg q, if_neg (by omega)]; omega
theorem tot_mb {W H : Nat} {b : Nat → Int} {x y X Y : Nat} (hx : x < W) (hy : y < H) (hX : X < W) (hY : Y < H) (hn : ¬ (x = X ∧ y = Y)) : tot (W * H) (mb W H b x y X Y) = twi W H b x y X Y := by
  have c1 := cell_lt hx hy
  have c2 := cell_lt hX hY
  have hc : ¬ X + W * Y = x + W * y := by rw [cell_in hX hx]; omega
  have e1 := tot_put (b := fun c => if c = x + W * y then 0 else b c) (d := X + W * Y) (v := av H (b (x + W * y)) Y) (W * H)
  have e2 := tot_put (b := b) (d := x + W * y) (v := 0) (W * H)
  rw [if_pos c2, if_neg hc] at e1
  rw [if_pos c1] at e2
  unfold twi
  have : mb W H b x y X Y = fun c => if c = X + W * Y then av H (b (x + W * y)) Y else (fun c => if c = x + W * y then 0 else b c) c := rfl
  rw [this, e1, e2]
  omega
theorem tot_nn {W H : Nat} {b : Nat → Int} (hw : WH W H) (hb : BD W H b) : ∀ n, n ≤ W * H → 0 ≤ tot n b ∧ tot n b ≤ 800 * n := by
  intro n
  induction n with
  | zero => intro _; exact ⟨Int.le_refl 0, Int.le_refl 0⟩
  | succ n ih =>
    intro hn
    have i := ih (by omega)
    obtain ⟨x, y, hx, hy, rfl⟩ := mxy hw (k := n) (by omega)
    have b1 := hb x y hx hy
    have c1 := cell_64 hw hx hy
    unfold tot at *
    rw [fo_s]
    generalize b (x + W * y) = B at *
    have k1 : 0 ≤ (((x + W * y : Nat) : Int) + 1) * B := Int.mul_nonneg (by omega) b1.1
    have k2 : (((x + W * y : Nat) : Int) + 1) * B ≤ 64 * 12 := Int.mul_le_mul (by omega) b1.2 b1.1 (by decide)
    omega
section FT
variable {m : Mm} {β W H : Nat} {bn bb : Nat → Int} {C S fr to : Int}
theorem c5 {c : Nat} (h : m β 2 = zI (c : Nat)) : d_5 β m = some (zI (1 + ((c % 2 : Nat) : Int))) := by
  unfold d_5
  rw [h, zl_1, zI_and1, zI_add]
theorem c6 (hb : bA β) (h : BV m β W H bn bb C S (gi W fr) (gi W to)) (hw : WH W H) (h1 : BD W H bn) (h2 : BD W H bb) (hC : 0 ≤ C) (hC2 : C ≤ 1000000) (hS : -1 ≤ S) (hS2 : S ≤ 1) (hf : S ≠ -1 → (0 ≤ fr ∧ fr < (W * H : Nat)) ∧ (0 ≤ to ∧ to < (W * H : Nat)))
    {s : Nat} (hs : s ≤ 1) {tn : Int} (ht1 : 0 ≤ tn) (ht2 : tn ≤ 1000) {x y X Y : Nat} (hx : x < W) (hy : y < H) (hX : X < W) (hY : Y < H) :
    d_6 β (zI (s : Nat)) (zI tn) (zI ((x + 8 * y : Nat) : Int)) (zI ((X + 8 * Y : Nat) : Int)) m = some (zI (rd0 W bn bb C S fr to s tn x y X Y)) := by
  have hw' := hw
  obtain ⟨a, a2, a3, a4⟩ := hw'
  obtain ⟨b1, b2, b3, b4⟩ := hb
  obtain ⟨v1, v2, v3, v4, v5⟩ := h
  have hN := WH_n hw
  have e5 : d_5 β m = some (zI (1 + C % 2)) := by
    rw [c5 (c := C.toNat) (by rw [v3]; congr 1; omega)]
    congr 3
    omega
  have k1 := c21 b3 v1 hw h1 (s := s) (by omega) (by omega) (x := x) (y := y) (X := X) (Y := Y) (by omega) (by omega) (by omega) (by omega)
  have k2 := c21 b4 v2 hw h2 (s := s) (by omega) (by omega) (x := x) (y := y) (X := X) (Y := Y) (by omega) (by omega) (by omega) (by omega)
  have al : ∀ b, alw W H b s x y X Y = mv W b s x y X Y := fun b => by unfold alw; simp only [hx, hy, hX, hY, and_self, decide_true, Bool.true_and]
  rw [al] at k1 k2
  have e64 : d_6_64 β (zI (s : Nat)) (zI ((x + 8 * y : Nat) : Int)) (zI ((X + 8 * Y : Nat) : Int)) m = some (zI (if mv W bb s x y X Y = true then 3 else 0)) := by
    unfold d_6_64
    rw [b2, k2]
    cases mv W bb s x y X Y <;> rfl
  unfold d_6 rd0
  rw [e5, b1, k1, v3, v4]
  simp only [obs]
  by_cases q1 : tn = 1 + C % 2
  · rw [if_neg (by rw [q1]; exact fun q => q rfl), if_pos q1]
    cases mv W bn s x y X Y <;> rfl
  · rw [if_pos (by rw [zI_inj (by omega) (by omega) (by omega) (by omega)]; exact q1), if_neg q1]
    by_cases q2 : C = 0
    · rw [if_pos (by rw [q2]; rfl), if_pos q2]; rfl
    · rw [if_neg (by rw [zl_0, zI_inj (by omega) (by omega) (by omega) (by omega)]; exact q2), if_neg q2]
      by_cases q3 : S = (s : Int)
      · obtain ⟨f1, f2⟩ := hf (by omega)
        obtain ⟨v6, v7⟩ := v5 (by omega)
        rw [if_pos (show zI S = zI (s : Nat) by rw [q3]), if_neg (show ¬ ¬ S = (s : Int) from fun e => e q3), v6, v7, e64]
        have g1 := gio_in hw (c := fr.toNat) (by omega) hx hy
        have g2 := gio_in hw (c := to.toNat) (by omega) hX hY
        have r1 : 0 ≤ gi W fr ∧ gi W fr ≤ 1000 := by
          obtain ⟨u, v, hu, hv, -, -, -, e⟩ := gio_c hw (c := fr.toNat) (by omega)
          unfold gi; omega
        have r2 : 0 ≤ gi W to ∧ gi W to ≤ 1000 := by
          obtain ⟨u, v, hu, hv, -, -, -, e⟩ := gio_c hw (c := to.toNat) (by omega)
          unfold gi; omega
        by_cases q4 : fr = ((x + W * y : Nat) : Int)
        · have e4 : gi W fr = ((x + 8 * y : Nat) : Int) := g1.mpr (by omega)
          rw [if_neg (show ¬ ¬ zI ((x + 8 * y : Nat) : Int) = zI (gi W fr) by rw [e4]; exact fun q => q rfl)]
          by_cases q5 : to = ((X + W * Y : Nat) : Int)
          · have e5' : gi W to = ((X + 8 * Y : Nat) : Int) := g2.mpr (by omega)
            rw [if_neg (show ¬ ¬ zI ((X + 8 * Y : Nat) : Int) = zI (gi W to) by rw [e5']; exact fun q => q rfl), if_pos ⟨q4, q5⟩]
            rfl
          · rw [if_pos (show ¬ zI ((X + 8 * Y : Nat) : Int) = zI (gi W to) by
              rw [zI_inj (by omega) (by omega) (by omega) (by omega)]
              exact fun e => q5 (by have := g2.mp e.symm; omega)), if_neg (show ¬ (fr = ((x + W * y : Nat) : Int) ∧ to = ((X + W * Y : Nat) : Int)) from fun e => q5 e.2)]
        · rw [if_pos (show ¬ zI ((x + 8 * y : Nat) : Int) = zI (gi W fr) by
              rw [zI_inj (by omega) (by omega) (by omega) (by omega)]
              exact fun e => q4 (by have := g1.mp e.symm; omega)), if_neg (show ¬ (fr = ((x + W * y : Nat) : Int) ∧ to = ((X + W * Y : Nat) : Int)) from fun e => q4 e.1)]
      · rw [if_neg (show ¬ zI S = zI (s : Nat) by rw [zI_inj (by omega) (by omega) (by omega) (by omega)]; exact q3), if_pos q3]
        rfl
/-- the sum behind what a reading makes -/
def tbh (W H : Nat) (bn bb : Nat → Int) (rd : Int) (x y X Y : Nat) : Int := if rd = 1 then twi W H bn x y X Y else if rd = 3 then twi W H bb x y X Y else tot (W * H) bn
theorem c7 (hb : bA β) (h : BV m β W H bn bb C S fr to) (hw : WH W H) (h1 : BD W H bn) (h2 : BD W H bb) {rd : Int} (hr1 : 0 ≤ rd) (hr2 : rd ≤ 3) {x y X Y : Nat} (hx : x < W) (hy : y < H) (hX : X < W) (hY : Y < H) :
    d_7 β (zI rd) (zI ((x + 8 * y : Nat) : Int)) (zI ((X + 8 * Y : Nat) : Int)) m = some (zI (tbh W H bn bb rd x y X Y)) := by
  obtain ⟨b1, b2, b3, b4⟩ := hb
  obtain ⟨v1, v2, v3, v4, v5⟩ := h
  unfold d_7 tbh
  rw [b1, b2, c34 b3 v1 hw h1 hx hy hX hY, c34 b4 v2 hw h2 hx hy hX hY, c33 b3 v1 hw h1]
  simp only [obs]
  by_cases q1 : rd = 1
  · rw [if_pos (by rw [q1]; rfl), if_pos q1]
  · rw [if_neg (by rw [zl_1, zI_inj (by omega) (by omega) (by omega) (by omega)]; exact q1), if_neg q1]
    by_cases q3 : rd = 3
    · rw [if_pos (by rw [q3]; rfl), if_pos q3]
    · rw [if_neg (by rw [zl_3, zI_inj (by omega) (by omega) (by omega) (by omega)]; exact q3), if_neg q3]
theorem c89 {f : Nat} {b : Nat → Int} (h : FR m f W H b) (hw : WH W H) {l : Nat → Nat} (hl : ∀ k, k < 6 → m 236 k = zI (l k : Nat)) (hb : ∀ k, k < 6 → l k ≤ 1000) :
    (okm W H l → d_89 234 f m = some true) ∧ (¬ okm W H l → d_89 234 f m = some false) := by
  obtain ⟨w1, w2, w3, w4⟩ := hw
  have b0 := hb 0 (by decide)
  have b1 := hb 1 (by decide)
  have b2 := hb 2 (by decide)
  have b3 := hb 3 (by decide)
  have b4 := hb 4 (by decide)
  have b5 := hb 5 (by decide)
  have hck : ck l ≤ 7 := by unfold ck; omega
  have e87 := c87 (m := m) (a := 236) s_n6 (l := l) (fun k hk => hl k (by omega)) (fun k hk => hb k (by omega))
  have e25 : ∀ s0 : Bool, d_89_25 234 f s0 m = some (s0 && decide ((1 ≤ l 1 ∧ l 1 ≤ W) ∧ (1 ≤ l 2 ∧ l 2 ≤ H)) && decide ((1 ≤ l 3 ∧ l 3 ≤ W) ∧ (1 ≤ l 4 ∧ l 4 ≤ H)) && decide (l 5 = ck l)) := by
    intro s0
    unfold d_89_25
    rw [s_r1, s_n6, if_pos (by decide), if_pos (by decide), show ix (1 : Int32) = 1 from by decide, show ix (2 : Int32) = 2 from by decide, show ix (3 : Int32) = 3 from by decide, show ix (4 : Int32) = 4 from by decide, show ix (5 : Int32) = 5 from by decide, hl 1 (by decide), hl 2 (by decide), hl 3 (by decide), hl 4 (by decide), hl 5 (by decide), zl_1, zI_sub, zI_sub, zI_sub, zI_sub]
    rw [c15 h ⟨w1, w2, w3, w4⟩ (by omega) (by omega) (by omega) (by omega)]
    simp only [obs]
    rw [if_pos (by decide), if_pos (by decide), c15 h ⟨w1, w2, w3, w4⟩ (by omega) (by omega) (by omega) (by omega), e87]
    simp only [obs]
    cases s0
    · rfl
    · rw [if_pos rfl, Bool.true_and]
      by_cases q1 : (1 ≤ l 1 ∧ l 1 ≤ W) ∧ (1 ≤ l 2 ∧ l 2 ≤ H)
      · rw [decide_eq_true q1, decide_eq_true (by omega), if_pos rfl, Bool.true_and]
        by_cases q2 : (1 ≤ l 3 ∧ l 3 ≤ W) ∧ (1 ≤ l 4 ∧ l 4 ≤ H)
        · rw [decide_eq_true q2, decide_eq_true (by omega), if_pos rfl, Bool.true_and, if_pos (by decide)]
          by_cases q3 : l 5 = ck l
          · rw [decide_eq_true q3, if_neg (by rw [q3]; exact fun q => q rfl)]
          · rw [decide_eq_false q3, if_pos (by rw [zI_inj (by omega) (by omega) (by omega) (by omega)]; omega)]
        · rw [decide_eq_false q2, decide_eq_false (by omega), if_neg (by decide), Bool.false_and]
      · rw [decide_eq_false q1, decide_eq_false (by omega), if_neg (by decide), Bool.false_and, Bool.false_and]
  have e89 : d_89 234 f m = d_89_25 234 f (decide (l 0 = 1 ∨ l 0 = 2)) m := by
    unfold d_89
    rw [s_r1, s_n6, if_pos (by decide), show ix (0 : Int32) = 0 from by decide, hl 0 (by decide), zl_1, zl_2]
    by_cases q1 : l 0 = 1
    · rw [if_pos (by rw [q1]; rfl), decide_eq_true (Or.inl q1)]
    · rw [if_neg (by rw [zI_inj (by omega) (by omega) (by omega) (by omega)]; omega), if_pos (by decide)]
      by_cases q2 : l 0 = 2
      · rw [if_neg (by rw [q2]; exact fun q => q rfl), decide_eq_true (Or.inr q2)]
      · rw [if_pos (by rw [zI_inj (by omega) (by omega) (by omega) (by omega)]; omega), decide_eq_false (by omega)]
  rw [e89, e25]
  constructor
  · rintro ⟨o0, o1, o2, o3, o4, o5⟩
    rw [decide_eq_true o0, decide_eq_true ⟨o1, o2⟩, decide_eq_true ⟨o3, o4⟩, decide_eq_true o5]; rfl
  · intro ho
    by_cases o0 : l 0 = 1 ∨ l 0 = 2
    · by_cases o1 : (1 ≤ l 1 ∧ l 1 ≤ W) ∧ (1 ≤ l 2 ∧ l 2 ≤ H)
      · by_cases o2 : (1 ≤ l 3 ∧ l 3 ≤ W) ∧ (1 ≤ l 4 ∧ l 4 ≤ H)
        · by_cases o5 : l 5 = ck l
          · exact absurd ⟨o0, o1.1, o1.2, o2.1, o2.2, o5⟩ ho
          · rw [decide_eq_false o5, Bool.and_false]
        · rw [decide_eq_false o2, Bool.and_false, Bool.false_and]
      · rw [decide_eq_false o1, Bool.and_false, Bool.false_and, Bool.false_and]
    · rw [decide_eq_false o0, Bool.false_and, Bool.false_and, Bool.false_and]
end FT
