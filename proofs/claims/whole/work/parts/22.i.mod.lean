/-! A sending, by the reference, whole. -/
section MZ
variable {m : Mm} {W H : Nat} {r : Nat → Int}
theorem tot_cg {b b' : Nat → Int} {n : Nat} (h : ∀ c, c < n → b' c = b c) : tot n b' = tot n b := fo_congr (fun k hk s => by rw [h k hk])
theorem twi_cg {b b' : Nat → Int} {x y X Y : Nat} (hx : x < W) (hy : y < H) (hX : X < W) (hY : Y < H) (h : ∀ c, c < W * H → b' c = b c) : twi W H b' x y X Y = twi W H b x y X Y := by
  unfold twi
  rw [tot_cg h, h _ (cell_lt hx hy), h _ (cell_lt hX hY)]
theorem rfo_n {q s : Nat} {rd : Int} {x y X Y j : Nat} (hj : ¬ pB q j) : rfo W H r q s rd x y X Y j = r j := by
  unfold rfo
  split
  · exact rb1_n hj
  · split
    · exact rb3_n hj
    · rfl
theorem rfo_cg {r1 r2 : Nat → Int} {q s : Nat} {rd : Int} {x y X Y j : Nat} (hw : WH W H) (hx : rd = 1 ∨ rd = 3 → x < W ∧ y < H) (hq : q ≤ 1) (h : ∀ i, pB q i → r1 i = r2 i) (hj : pB q j) : rfo W H r1 q s rd x y X Y j = rfo W H r2 q s rd x y X Y j := by
  unfold rfo
  by_cases q1 : rd = 1
  · have c1 := cell_64 hw (hx (Or.inl q1)).1 (hx (Or.inl q1)).2
    rw [if_pos q1, if_pos q1]
    unfold rb1
    by_cases k1 : 24 + 64 * q ≤ j ∧ j < 88 + 64 * q
    · rw [if_pos k1, if_pos k1]
      unfold mb
      dsimp only
      rw [h (24 + 64 * q + (x + W * y)) (by unfold pB; omega), h (24 + 64 * q + (j - (24 + 64 * q))) (by unfold pB; omega)]
    · rw [if_neg k1, if_neg k1]
      by_cases k2 : 152 + 64 * q ≤ j ∧ j < 216 + 64 * q
      · rw [if_pos k2, if_pos k2, h (j - 128) (by unfold pB; omega)]
      · rw [if_neg k2, if_neg k2, h (9 + q) (by unfold pB; omega), h j hj]
  · rw [if_neg q1, if_neg q1]
    by_cases q3 : rd = 3
    · have c1 := cell_64 hw (hx (Or.inr q3)).1 (hx (Or.inr q3)).2
      rw [if_pos q3, if_pos q3]
      unfold rb3
      by_cases k1 : 24 + 64 * q ≤ j ∧ j < 88 + 64 * q
      · rw [if_pos k1, if_pos k1]
        unfold mb
        dsimp only
        rw [h (152 + 64 * q + (x + W * y)) (by unfold pB; omega), h (152 + 64 * q + (j - (24 + 64 * q))) (by unfold pB; omega)]
      · rw [if_neg k1, if_neg k1, h j hj]
    · rw [if_neg q3, if_neg q3, h j hj]
theorem sl_q {q s : Nat} (hq : q ≤ 1) (hs : s ≤ 1) {d : Int} {vs : Nat → Int} {r1 : Nat → Int} {i : Nat} (hi : pB q i) : rls (rsp r1 s d) vs i = r1 i := by
  unfold pB at hi
  rw [rls_n (by unfold pL; omega)]
  unfold rsp
  rw [if_neg (by omega), if_neg (by omega)]
theorem sl_cg {q s : Nat} {r1 r2 : Nat → Int} {d : Int} {vs : Nat → Int} (hs : s ≤ 1) (hq : q ≤ 1) (h : ∀ i, ¬ pB q i → r1 i = r2 i) {j : Nat} (hj : ¬ pB q j) : rls (rsp r1 s d) vs j = rls (rsp r2 s d) vs j := by
  have o : ∀ i, ¬ pB q i → rsp r1 s d i = rsp r2 s d i := fun i hi => by
    unfold rsp
    rw [h 2 (by unfold pB; omega), h (15 + s) (by unfold pB; omega), h i hi]
  have o8 : ∀ k, 304 ≤ k → ¬ pB q k := fun k hk => by unfold pB; omega
  unfold rls
  rw [o 13 (by unfold pB; omega), o 12 (by unfold pB; omega), o j hj]
  by_cases k1 : 304 ≤ j ∧ j < 464
  · rw [o (j + 8) (o8 _ (by omega))]
  · rw [if_neg k1, if_neg k1]
/-- the row behind a sending, followed ahead of what is noted -/
theorem stw_c {s q x y X Y : Nat} {w : Int} (hw : WH W H) (hs : s ≤ 1) (hq : q ≤ 1) : ∀ k, stw W H r s q x y X Y w k = rls (rsp (rfo W H r q s (frd W H r s q x y X Y (r 2 + w)) (sx (fl r s x y X Y (r 2 + w))) (sy (fl r s x y X Y (r 2 + w))) (sX (fl r s x y X Y (r 2 + w))) (sY (fl r s x y X Y (r 2 + w)))) s (w + ftk W H r s q x y X Y (r 2 + w))) (svs W H r s q x y X Y (r 2 + w)) k := by
  intro k
  unfold stw
  by_cases hk : pB q k
  · rw [sl_q hq hs hk]
    exact rfo_cg hw (fun e => by
      have := frd_i (W := W) (H := H) (r := r) (s := s) (q := q) (x := x) (y := y) (X := X) (Y := Y) (t := r 2 + w) (by omega)
      exact ⟨this.1, this.2.1⟩) hq (fun i hi => sl_q hq hs hi) hk
  · rw [rfo_n hk]
    exact sl_cg hs hq (fun i hi => (rfo_n hi).symm) hk
theorem rsc {r1 : Nat → Int} {q : Nat} (hq : q ≤ 1) (h : ∀ i, ¬ pB q i → r1 i = r i) : rF r1 = rF r ∧ rL r1 = rL r ∧ rE r1 = rE r := by
  refine ⟨funext fun k => h _ ?_, funext fun k => h _ ?_, funext fun k => h _ ?_⟩ <;> (unfold pB; omega)
/-- what comes behind the reading -/
theorem m261t {K : Int} (hK : K ≤ 520) (hR : RG K r W H) {s q : Nat} (hs : s + q = 1) {x y X Y : Nat} (hx : x < W) (hy : y < H) (hX : X < W) (hY : Y < H) (hn : ¬ (x = X ∧ y = Y)) {w : Int} (w0 : 0 ≤ w) (w9 : w ≤ 9) {r1 : Nat → Int} (h : MR m r1) (ho : ∀ i, ¬ pB q i → r1 i = r i)
    (hg : ∀ k, k < 6 → m 262 k = zI (fG r s x y X Y k : Nat)) (h253 : ∀ k, k < 584 → m 253 k = zI (r k)) (hB : BD W H (fun c => r1 (24 + 64 * q + c)))
    (ht : frd W H r s q x y X Y (r 2 + w) ≠ 0 → fan W H r s q x y X Y (r 2 + w) = 2 + tot (W * H) (fun c => r1 (24 + 64 * q + c)) % 5) :
    An (d_261_114 249 (zI ((x + W * y : Nat) : Int)) (zI ((X + W * Y : Nat) : Int)) (zI (s : Nat)) (zI (q : Nat)) (zI (r 2 + w)) (zI (fo (fun i v => v + fG r s x y X Y i) 6 0 : Nat)) (zI (fo (fun i v => v + fl r s x y X Y (r 2 + w) i) 6 0 : Nat)) (zI (frd W H r s q x y X Y (r 2 + w))) m)
      (fun p => p.1 = zI (if w + ftk W H r s q x y X Y (r 2 + w) < r (15 + s) then (if fia W H r s q x y X Y (r 2 + w) = true then 1 else 0) else -1) ∧ MR p.2 (if w + ftk W H r s q x y X Y (r 2 + w) < r (15 + s) then rls (rsp r1 s (w + ftk W H r s q x y X Y (r 2 + w))) (svs W H r s q x y X Y (r 2 + w)) else rtm r s) ∧ ∀ a, a ≠ 250 → p.2 a = m a) := by
  obtain ⟨hW, hrS, hrB, hrF, hr13, hrA⟩ := RG.iff.mp hR
  have hw := hW.2.2
  have hN := WH_n hw
  have hMW : MW m r1 W H := ⟨h, by rw [ho 0 (by unfold pB; omega)]; exact hW.1, by rw [ho 1 (by unfold pB; omega)]; exact hW.2.1, hw⟩
  have rr := rdx_r (W := W) (H := H) (r := r) (s := s) (q := q) (l := fl r s x y X Y (r 2 + w))
  have rr' : 0 ≤ frd W H r s q x y X Y (r 2 + w) ∧ frd W H r s q x y X Y (r 2 + w) ≤ 3 := rr
  have fr := fan_r hR (s := s) (q := q) (x := x) (y := y) (X := X) (Y := Y) (t := r 2 + w) (by omega)
  obtain ⟨w1, w2, w3, w4⟩ := hW.2.2
  have hl : flen r s x y X Y ≤ 84 := gs_le (fun k _ => fG_le (by omega) (by omega) (by omega) (by omega) k) (by have := hrS.2.2.2.1; omega) 6 (Nat.le_refl _)
  have h5 := hrS.2.2.2.1
  have ht2 := hrS.1
  have hcl := hrS.2.2.2.2.2.2 s (by omega)
  have ftkd : ftk W H r s q x y X Y (r 2 + w) = (flen r s x y X Y : Nat) + fan W H r s q x y X Y (r 2 + w) + r 5 := rfl
  have z15 : (15 : Int32) + zI (s : Nat) = zI ((15 + s : Nat) : Int) := z_ad 15 s
  obtain ⟨rf1, rf2, rf3⟩ := rsc (by omega) ho
  have tail : An (d_261_136 249 (zI ((x + W * y : Nat) : Int)) (zI ((X + W * Y : Nat) : Int)) (zI (s : Nat)) (zI (r 2 + w)) (zI (fo (fun i v => v + fG r s x y X Y i) 6 0 : Nat)) (zI (fo (fun i v => v + fl r s x y X Y (r 2 + w) i) 6 0 : Nat)) (zI (frd W H r s q x y X Y (r 2 + w))) (zI (fan W H r s q x y X Y (r 2 + w))) m)
      (fun p => p.1 = zI (if w + ftk W H r s q x y X Y (r 2 + w) < r (15 + s) then (if fia W H r s q x y X Y (r 2 + w) = true then 1 else 0) else -1) ∧ MR p.2 (if w + ftk W H r s q x y X Y (r 2 + w) < r (15 + s) then rls (rsp r1 s (w + ftk W H r s q x y X Y (r 2 + w))) (svs W H r s q x y X Y (r 2 + w)) else rtm r s) ∧ ∀ a, a ≠ 250 → p.2 a = m a) := by
    have e245 : d_245 249 m = some (zI (flen r s x y X Y : Nat)) := by
      unfold d_245
      rw [m244 hg]
      simp only [obs]
      rw [m_r1, n_250, if_pos (by decide), show ix (5 : Int32) = 5 from by decide, h 5 (by decide), ho 5 (by unfold pB; omega), zl_6, zI_mul, zI_add]
      unfold flen
      rw [gs_6]
      exact congrArg some (congrArg zI (by omega))
    unfold d_261_136
    rw [e245]
    simp only [obs, wbs]
    rw [z15, z5n, show (2 : Int32) = zI ((2 : Nat) : Int) from rfl, zI_add]
    refine i_r (by decide) ?_
    rw [mr_k (by decide) h, ho 5 (by unfold pB; omega), zI_add, zI_add]
    refine i_r (by omega) (i_r (by decide) ?_)
    rw [mr_k (by decide) h, mr_k (by omega) h, ho 2 (by unfold pB; omega), ho (15 + s) (by unfold pB; omega), zI_sub]
    by_cases qc : w + ftk W H r s q x y X Y (r 2 + w) < r (15 + s)
    · rw [if_pos (by rw [zI_lt (by omega) (by omega) (by omega) (by omega)]; omega)]
      simp only [if_pos qc]
      have e234 := m234 h (n := (r 8).toNat) (by rw [ho 8 (by unfold pB; omega)]; have := hrF.1; omega) (by
        have := hrF.2
        change FB (r 8).toNat (rF r) (rL r) (rE r) at this
        rw [← rf1, ← rf2, ← rf3] at this
        exact this) (t := r 2 + w + (flen r s x y X Y : Nat)) (by omega) (by omega) (c := (fan W H r s q x y X Y (r 2 + w)).toNat) (by omega)
      rw [show (((fan W H r s q x y X Y (r 2 + w)).toNat : Nat) : Int) = fan W H r s q x y X Y (r 2 + w) by omega] at e234
      change d_234 249 _ _ m = some (zI (see (r 8).toNat (rF r1) (rL r1) (rE r1) _ _ : Nat)) at e234
      rw [rf1, rf2, rf3] at e234
      change d_234 249 _ _ m = some (zI (fsn W H r s q x y X Y (r 2 + w) : Nat)) at e234
      rw [e234]
      simp only [obs]
      have sl : fsn W H r s q x y X Y (r 2 + w) ≤ 1000 := by
        have := see_le (n := (r 8).toNat) (F := rF r) (L := rL r) (E := rE r) (t := r 2 + w + (flen r s x y X Y : Nat)) (c := (fan W H r s q x y X Y (r 2 + w)).toNat)
        unfold fsn rsee
        omega
      have bs : BD W H (fun c => r1 (24 + 64 * s + c)) := fun u v hu hv => by
        have := (hrB s (by omega)).2.2.2.1.1 u v hu hv
        dsimp only at this ⊢
        have := cell_64 hw hu hv
        rw [ho (24 + 64 * s + (u + W * v)) (by unfold pB; omega)]
        assumption
      have et : twi W H (fun c => r1 (24 + 64 * s + c)) x y X Y = twi W H (fun c => r (24 + 64 * s + c)) x y X Y := twi_cg hx hy hX hY (fun c hc => ho _ (by unfold pB; omega))
      have tn := tot_nn hw (BD_mb (hrB s (by omega)).2.2.2.1.1 hx hy (X := X) (Y := Y)) (W * H) (Nat.le_refl _)
      rw [tot_mb hx hy hX hY hn] at tn
      have tm0 : 0 ≤ (twi W H (fun c => r (24 + 64 * s + c)) x y X Y).tmod 5 := Int.tmod_nonneg 5 tn.1
      have tm1 := tm_r (twi W H (fun c => r (24 + 64 * s + c)) x y X Y)
      have h13 : 0 ≤ r1 13 ∧ r1 13 ≤ 20 := by rw [ho 13 (by unfold pB; omega)]; exact hr13
      have eT : r 2 + w + (flen r s x y X Y : Nat) + fan W H r s q x y X Y (r 2 + w) + r 5 = r1 2 + (w + ftk W H r s q x y X Y (r 2 + w)) := by
        rw [ho 2 (by unfold pB; omega), ftkd]; omega
      have fin : ∀ (B : Bool) (M : Mm), MR M r1 → (∀ a, a ≠ 250 → M a = m a) → B = fia W H r s q x y X Y (r 2 + w) → An (d_261_236 249 (zI (s : Nat)) (zI (r 2 + w)) (zI (fo (fun i v => v + fG r s x y X Y i) 6 0 : Nat)) (zI (fo (fun i v => v + fl r s x y X Y (r 2 + w) i) 6 0 : Nat)) (zI (frd W H r s q x y X Y (r 2 + w))) (zI (fan W H r s q x y X Y (r 2 + w))) (zI (r 2 + w + (flen r s x y X Y : Nat) + fan W H r s q x y X Y (r 2 + w) + r 5)) (zI (fsn W H r s q x y X Y (r 2 + w) : Nat)) B M)
          (fun p => p.1 = zI (if fia W H r s q x y X Y (r 2 + w) = true then 1 else 0) ∧ MR p.2 (rls (rsp r1 s (w + ftk W H r s q x y X Y (r 2 + w))) (svs W H r s q x y X Y (r 2 + w))) ∧ ∀ a, a ≠ 250 → p.2 a = m a) := by
        intro B M hM fM hBf
        rw [eT]
        refine (m261w hM h13 (s := s) (by omega) (B := B)).mp (fun p hp => ?_)
        obtain ⟨p1, p2, p3⟩ := hp
        rw [hBf] at p1 p2
        exact ⟨p1, p2, fun a ha => by rw [p3 a ha, fM a ha]⟩
      by_cases q2 : fsn W H r s q x y X Y (r 2 + w) < 2
      · rw [if_pos (by rw [zI_lt (by omega) (by omega) (by omega) (by omega)]; omega)]
        exact fin false m h (fun _ _ => rfl) (by unfold fia; rw [decide_eq_false (by omega)])
      · rw [if_neg (by rw [zI_lt (by omega) (by omega) (by omega) (by omega)]; omega)]
        refine (m260 hMW (s := s) (by omega) bs hx hy hX hY hn).bd (fun p hp => ?_)
        obtain ⟨p1, p2, p3⟩ := hp
        rw [et] at p1
        rw [p1]
        by_cases q3 : (fsn W H r s q x y X Y (r 2 + w) : Int) = 2 + (twi W H (fun c => r (24 + 64 * s + c)) x y X Y).tmod 5
        · rw [if_neg (by rw [q3]; exact fun e => e rfl)]
          exact fin true p.2 p2 p3 (by unfold fia; rw [decide_eq_true q3])
        · rw [if_pos (by rw [zI_inj (by omega) (by omega) (by omega) (by omega)]; exact q3)]
          exact fin false p.2 p2 p3 (by unfold fia; rw [decide_eq_false q3])
    · rw [if_neg (by rw [zI_lt (by omega) (by omega) (by omega) (by omega)]; omega)]
      simp only [if_neg qc]
      rw [m_r4, m_r1]
      refine (m186 (a := 253) (b := 250) (by decide) n_253 n_250).bd (fun m2 h2 => ?_)
      have hM2 : MR m2 r := fun k hk => by rw [h2.1 k hk]; exact h253 k hk
      refine (m258 hM2 (s := s) (by omega)).bd (fun m3 h3 => ?_)
      exact An.so ⟨rfl, h3.1, fun a ha => by dsimp only; rw [h3.2 a ha, h2.2 a ha]⟩
  unfold d_261_114
  by_cases q0 : frd W H r s q x y X Y (r 2 + w) = 0
  · rw [if_neg (by rw [q0]; exact fun e => e rfl)]
    have : fan W H r s q x y X Y (r 2 + w) = 1 := by
      unfold fan
      rw [if_pos q0]
    rw [this] at tail
    exact tail
  · rw [if_pos (by rw [zl_0, zI_inj (by omega) (by omega) (by omega) (by omega)]; exact q0), m194, t24]
    simp only [obs]
    rw [m209 hMW (by omega)]
    simp only [obs]
    have tq := tot_nn hw hB (W * H) (Nat.le_refl _)
    rw [zl_5, zl_2, zI_rm tq.1 (by omega) (by omega) (by omega), zI_add, ← ht q0]
    exact tail
theorem m243r (h : MW m r W H) {K : Int} (hK : K ≤ 520) (hR : RG K r W H) {s : Nat} (hs : s ≤ 1) (h3 : r 3 = s) {x y X Y : Nat} (hx : x < W) (hy : y < H) (hX : X < W) (hY : Y < H) : An (d_243 249 (zI ((x + W * y : Nat) : Int)) (zI ((X + W * Y : Nat) : Int)) m) (fun m' => (∀ k, k < 6 → m' 262 k = zI (fG r s x y X Y k : Nat)) ∧ ∀ a, a ≠ 262 → m' a = m a) := by
  have hS := (RG.iff.mp hR).2.2.1 s hs
  exact m243 h hs h3 (C := (r (9 + s)).toNat) (by have := hS.1; omega) (by have := hS.1; omega) hx hy hX hY
/-- a sending of the reference -/
theorem m261 (h : MR m r) {K : Int} (hK : K ≤ 520) (hR : RG K r W H) {s q : Nat} (hs : s + q = 1) (h3 : r 3 = s) {x y X Y : Nat} (hx : x < W) (hy : y < H) (hX : X < W) (hY : Y < H) (hn : ¬ (x = X ∧ y = Y)) {B : Bool} {w : Int} (hB : w = if B = true then r 6 else 0) :
    An (d_261 249 (zI ((x + W * y : Nat) : Int)) (zI ((X + W * Y : Nat) : Int)) B m)
      (fun p => p.1 = zI (if w + ftk W H r s q x y X Y (r 2 + w) < r (15 + s) then (if fia W H r s q x y X Y (r 2 + w) = true then 1 else 0) else -1) ∧ MR p.2 (if w + ftk W H r s q x y X Y (r 2 + w) < r (15 + s) then stw W H r s q x y X Y w else rtm r s) ∧ ∀ a, a ≠ 250 → a ≠ 253 → a ≠ 262 → a ≠ 263 → p.2 a = m a) := by
  obtain ⟨hW, hrS, hrB, hrF, hr13, hrA⟩ := RG.iff.mp hR
  have hw := hW.2.2
  have h6 := hrS.2.2.2.2.1
  have ht2 := hrS.1
  have h5 := hrS.2.2.2.1
  obtain ⟨w1, w2, w3, w4⟩ := hW.2.2
  have w0 : 0 ≤ w ∧ w ≤ 9 := by rw [hB]; split <;> omega
  have bq := hrB q (by omega)
  have body : ∀ m3, MR m3 r → (∀ k, k < 584 → m3 253 k = zI (r k)) → An (d_261_46 249 (zI ((x + W * y : Nat) : Int)) (zI ((X + W * Y : Nat) : Int)) (zI (s : Nat)) (zI (q : Nat)) (zI (r 2)) (zI w) m3)
      (fun p => p.1 = zI (if w + ftk W H r s q x y X Y (r 2 + w) < r (15 + s) then (if fia W H r s q x y X Y (r 2 + w) = true then 1 else 0) else -1) ∧ MR p.2 (if w + ftk W H r s q x y X Y (r 2 + w) < r (15 + s) then stw W H r s q x y X Y w else rtm r s) ∧ ∀ a, a ≠ 250 → a ≠ 262 → a ≠ 263 → p.2 a = m3 a) := by
    intro m3 g3 g253
    have hMW3 : MW m3 r W H := ⟨g3, hW.1, hW.2.1, hw⟩
    unfold d_261_46
    rw [zI_add, wbs]
    refine (m243r hMW3 hK hR (by omega) h3 hx hy hX hY).bd (fun m5 h5' => ?_)
    have g5 : MR m5 r := g3.mm (h5'.2 250 (by decide))
    rw [m244 h5'.1]
    simp only [obs]
    refine (m246 g5 (n := (r 8).toNat) (by have := hrF.1; omega) hrF.2 h5'.1 (fun k _ => fG_le (by omega) (by omega) (by omega) (by omega) k) (t := r 2 + w) (by omega) (by omega) (p := (r 5).toNat) (by omega) (by omega)).bd (fun r7 h7 => ?_)
    obtain ⟨h71, h72, h73⟩ := h7
    change r7.1 = zI (fo (fun i v => v + fl r s x y X Y (r 2 + w) i) 6 0 : Nat) at h71
    change ∀ k, k < 6 → r7.2 263 k = zI (fl r s x y X Y (r 2 + w) k : Nat) at h72
    have g7 : MR r7.2 r := g5.mm (h73 250 (by decide))
    have hMW7 : MW r7.2 r W H := ⟨g7, hW.1, hW.2.1, hw⟩
    have lb : ∀ k, k < 6 → fl r s x y X Y (r 2 + w) k ≤ 1000 := fun k _ => Nat.le_trans (Nat.le_trans see_le (fG_le (by omega) (by omega) (by omega) (by omega) k)) (by decide)
    rw [m250 hMW7 (k := K) (by omega) hR hs h3 h72 lb, h71]
    simp only [obs]
    have rr := rdx_r (W := W) (H := H) (r := r) (s := s) (q := q) (l := fl r s x y X Y (r 2 + w))
    have g262 : ∀ k, k < 6 → r7.2 262 k = zI (fG r s x y X Y k : Nat) := fun k hk => by rw [h73 262 (by decide)]; exact h5'.1 k hk
    have g7253 : ∀ k, k < 584 → r7.2 253 k = zI (r k) := fun k hk => by rw [h73 253 (by decide), h5'.2 253 (by decide)]; exact g253 k hk
    have f7 : ∀ a, a ≠ 250 → a ≠ 262 → a ≠ 263 → r7.2 a = m3 a := fun a a1 a2 a3 => by rw [h73 a a3, h5'.2 a a2]
    change An (if zI (frd W H r s q x y X Y (r 2 + w)) = 1 then _ else _) _
    change 0 ≤ frd W H r s q x y X Y (r 2 + w) ∧ frd W H r s q x y X Y (r 2 + w) ≤ 3 at rr
    have fin : ∀ (M : Mm) (r1 : Nat → Int), MR M r1 → (∀ a, a ≠ 250 → M a = r7.2 a) → r1 = rfo W H r q s (frd W H r s q x y X Y (r 2 + w)) (sx (fl r s x y X Y (r 2 + w))) (sy (fl r s x y X Y (r 2 + w))) (sX (fl r s x y X Y (r 2 + w))) (sY (fl r s x y X Y (r 2 + w))) →
        An (d_261_114 249 (zI ((x + W * y : Nat) : Int)) (zI ((X + W * Y : Nat) : Int)) (zI (s : Nat)) (zI (q : Nat)) (zI (r 2 + w)) (zI (fo (fun i v => v + fG r s x y X Y i) 6 0 : Nat)) (zI (fo (fun i v => v + fl r s x y X Y (r 2 + w) i) 6 0 : Nat)) (zI (frd W H r s q x y X Y (r 2 + w))) M) (fun p => p.1 = zI (if w + ftk W H r s q x y X Y (r 2 + w) < r (15 + s) then (if fia W H r s q x y X Y (r 2 + w) = true then 1 else 0) else -1) ∧ MR p.2 (if w + ftk W H r s q x y X Y (r 2 + w) < r (15 + s) then stw W H r s q x y X Y w else rtm r s) ∧ ∀ a, a ≠ 250 → a ≠ 262 → a ≠ 263 → p.2 a = m3 a) := by
      intro M r1 gM fM e1
      have ho : ∀ i, ¬ pB q i → r1 i = r i := fun i hi => by rw [e1]; exact rfo_n hi
      have now : ∀ c, c < W * H → r1 (24 + 64 * q + c) = if frd W H r s q x y X Y (r 2 + w) = 1 then mb W H (fun c => r (24 + 64 * q + c)) (sx (fl r s x y X Y (r 2 + w))) (sy (fl r s x y X Y (r 2 + w))) (sX (fl r s x y X Y (r 2 + w))) (sY (fl r s x y X Y (r 2 + w))) c else if frd W H r s q x y X Y (r 2 + w) = 3 then mb W H (fun c => r (152 + 64 * q + c)) (sx (fl r s x y X Y (r 2 + w))) (sy (fl r s x y X Y (r 2 + w))) (sX (fl r s x y X Y (r 2 + w))) (sY (fl r s x y X Y (r 2 + w))) c else r (24 + 64 * q + c) := fun c hc => by
        have hN := WH_n hw
        rw [e1]
        unfold rfo
        by_cases q1 : frd W H r s q x y X Y (r 2 + w) = 1
        · rw [if_pos q1, if_pos q1]; exact rb1_a (by omega)
        · rw [if_neg q1, if_neg q1]
          by_cases q3 : frd W H r s q x y X Y (r 2 + w) = 3
          · rw [if_pos q3, if_pos q3]; exact rb3_a (by omega)
          · rw [if_neg q3, if_neg q3]
      have hB1 : BD W H (fun c => r1 (24 + 64 * q + c)) := fun u v hu hv => by
        dsimp only
        rw [now _ (cell_lt hu hv)]
        by_cases q1 : frd W H r s q x y X Y (r 2 + w) = 1
        · obtain ⟨o1, o2, o3, o4⟩ := frd_i (W := W) (H := H) (r := r) (s := s) (q := q) (x := x) (y := y) (X := X) (Y := Y) (t := r 2 + w) (by omega)
          rw [if_pos q1]
          exact BD_mb bq.2.2.2.1.1 o1 o2 u v hu hv
        · rw [if_neg q1]
          by_cases q3 : frd W H r s q x y X Y (r 2 + w) = 3
          · obtain ⟨o1, o2, o3, o4⟩ := frd_i (W := W) (H := H) (r := r) (s := s) (q := q) (x := x) (y := y) (X := X) (Y := Y) (t := r 2 + w) (by omega)
            rw [if_pos q3]
            exact BD_mb bq.2.2.2.2.1 o1 o2 u v hu hv
          · rw [if_neg q3]
            exact bq.2.2.2.1.1 u v hu hv
      have htot : frd W H r s q x y X Y (r 2 + w) ≠ 0 → fan W H r s q x y X Y (r 2 + w) = 2 + tot (W * H) (fun c => r1 (24 + 64 * q + c)) % 5 := fun ne => by
        obtain ⟨ok, v1, v3⟩ := rdx_mv ne
        obtain ⟨o1, o2, o3, o4, -⟩ := okm_c ok
        unfold fan tbh
        rw [if_neg ne]
        congr 2
        by_cases q1 : frd W H r s q x y X Y (r 2 + w) = 1
        · rw [if_pos q1, ← tot_mb o1 o2 o3 o4 (mv_f (v1 q1)).1]
          exact (tot_cg (fun c hc => by rw [now c hc, if_pos q1])).symm
        · rw [if_neg q1]
          by_cases q3 : frd W H r s q x y X Y (r 2 + w) = 3
          · rw [if_pos q3, ← tot_mb o1 o2 o3 o4 (mv_f (v3 q3)).1]
            exact (tot_cg (fun c hc => by rw [now c hc, if_neg q1, if_pos q3])).symm
          · rw [if_neg q3]
            exact (tot_cg (fun c hc => by rw [now c hc, if_neg q1, if_neg q3])).symm
      refine (m261t hK hR hs hx hy hX hY hn w0.1 w0.2 gM ho (fun k hk => by rw [fM 262 (by decide)]; exact g262 k hk) (fun k hk => by rw [fM 253 (by decide)]; exact g7253 k hk) hB1 htot).mp (fun p hp => ?_)
      obtain ⟨p1, p2, p3⟩ := hp
      refine ⟨p1, ?_, fun a a1 a2 a3 => by rw [p3 a a1, fM a a1, f7 a a1 a2 a3]⟩
      by_cases qc : w + ftk W H r s q x y X Y (r 2 + w) < r (15 + s)
      · rw [if_pos qc] at p2 ⊢
        rw [e1] at p2
        exact p2.cg (fun k _ => stw_c hw (by omega) (by omega) k)
      · rw [if_neg qc] at p2 ⊢
        exact p2
    have big : frd W H r s q x y X Y (r 2 + w) = 1 ∨ frd W H r s q x y X Y (r 2 + w) = 3 → An (d_261_87 249 (zI ((x + W * y : Nat) : Int)) (zI ((X + W * Y : Nat) : Int)) (zI (s : Nat)) (zI (q : Nat)) (zI (r 2 + w)) (zI (fo (fun i v => v + fG r s x y X Y i) 6 0 : Nat)) (zI (fo (fun i v => v + fl r s x y X Y (r 2 + w) i) 6 0 : Nat)) (zI (frd W H r s q x y X Y (r 2 + w))) r7.2) (fun p => p.1 = zI (if w + ftk W H r s q x y X Y (r 2 + w) < r (15 + s) then (if fia W H r s q x y X Y (r 2 + w) = true then 1 else 0) else -1) ∧ MR p.2 (if w + ftk W H r s q x y X Y (r 2 + w) < r (15 + s) then stw W H r s q x y X Y w else rtm r s) ∧ ∀ a, a ≠ 250 → a ≠ 262 → a ≠ 263 → p.2 a = m3 a) := by
      intro q13
      obtain ⟨ok, v1, v3⟩ := rdx_mv (W := W) (H := H) (r := r) (s := s) (q := q) (l := fl r s x y X Y (r 2 + w)) (show frd W H r s q x y X Y (r 2 + w) ≠ 0 by omega)
      obtain ⟨o1, o2, o3, o4, o5, o6, o7, o8⟩ := okm_c ok
      unfold d_261_87 d_261_111
      rw [m248 hMW7 h72, m249 hMW7 h72, lk_c (by omega) (by omega), lk_c (by omega) (by omega)]
      simp only [obs]
      rcases q13 with q1 | q3
      · rw [if_neg (by rw [q1]; exact fun e => e rfl)]
        refine (m251 hMW7 (q := q) (s := s) (by omega) (B := true) bq.2.2.2.1.1 o1 o2 o3 o4 (mv_f (v1 q1)).1).bd (fun m11 h11 => ?_)
        refine fin m11 _ h11.1 h11.2 ?_
        unfold rfo
        rw [if_pos rfl, if_pos q1]
      · rw [if_pos (by rw [zl_1, zI_inj (by omega) (by omega) (by omega) (by omega)]; omega)]
        refine (m251 hMW7 (q := q) (s := s) (by omega) (B := false) bq.2.2.2.2.1 o1 o2 o3 o4 (mv_f (v3 q3)).1).bd (fun m11 h11 => ?_)
        refine fin m11 _ h11.1 h11.2 ?_
        unfold rfo
        rw [if_neg (by decide), if_neg (by omega), if_pos q3]
    by_cases q1 : frd W H r s q x y X Y (r 2 + w) = 1
    · rw [if_pos (by rw [q1]; rfl)]
      exact big (Or.inl q1)
    · rw [if_neg (by rw [zl_1, zI_inj (by omega) (by omega) (by omega) (by omega)]; exact q1)]
      by_cases q3 : frd W H r s q x y X Y (r 2 + w) = 3
      · change An (if ¬ zI (frd W H r s q x y X Y (r 2 + w)) = 3 then _ else _) _
        rw [if_neg (by rw [q3]; exact fun e => e rfl)]
        exact big (Or.inr q3)
      · change An (if ¬ zI (frd W H r s q x y X Y (r 2 + w)) = 3 then _ else _) _
        rw [if_pos (by rw [zl_3, zI_inj (by omega) (by omega) (by omega) (by omega)]; exact q3)]
        refine fin r7.2 r g7 (fun _ _ => rfl) ?_
        unfold rfo
        rw [if_neg q1, if_neg q3]
  unfold d_261
  rw [z3n, z2n, z6n]
  refine i_r (by decide) ?_
  rw [mr_k (by decide) h, h3, wbs, wbs, z1n, zI_sub, show ((1 : Nat) : Int) - (s : Nat) = (q : Nat) by omega, m_r4]
  conv => arg 1; rw [show sh_r 249 1 = 250 from m_r1]
  refine (m186 (a := 250) (b := 253) (by decide) n_250 n_253).bd (fun m3 hm3 => ?_)
  have g3 : MR m3 r := h.mm (hm3.2 250 (by decide))
  have g253 : ∀ k, k < 584 → m3 253 k = zI (r k) := fun k hk => by rw [hm3.1 k hk]; exact h k hk
  rw [← m_r1]
  refine i_r (by decide) ?_
  have fin : ∀ p : Int32 × Mm, (p.1 = zI (if w + ftk W H r s q x y X Y (r 2 + w) < r (15 + s) then (if fia W H r s q x y X Y (r 2 + w) = true then 1 else 0) else -1) ∧ MR p.2 (if w + ftk W H r s q x y X Y (r 2 + w) < r (15 + s) then stw W H r s q x y X Y w else rtm r s) ∧ ∀ a, a ≠ 250 → a ≠ 262 → a ≠ 263 → p.2 a = m3 a) → (p.1 = zI (if w + ftk W H r s q x y X Y (r 2 + w) < r (15 + s) then (if fia W H r s q x y X Y (r 2 + w) = true then 1 else 0) else -1) ∧ MR p.2 (if w + ftk W H r s q x y X Y (r 2 + w) < r (15 + s) then stw W H r s q x y X Y w else rtm r s) ∧ ∀ a, a ≠ 250 → a ≠ 253 → a ≠ 262 → a ≠ 263 → p.2 a = m a) := fun p hp => ⟨hp.1, hp.2.1, fun a a1 a2 a3 a4 => by rw [hp.2.2 a a1 a3 a4, hm3.2 a a2]⟩
  have b := body m3 g3 g253
  cases B
  · rw [if_neg (by decide)] at hB
    rw [if_neg (by decide), mr_k (by decide) g3]
    rw [hB] at b fin ⊢
    exact b.mp fin
  · rw [if_pos rfl] at hB
    rw [if_pos rfl]
    refine i_r (by decide) ?_
    rw [mr_k (by decide) g3, mr_k (by decide) g3]
    rw [hB] at b fin ⊢
    exact b.mp fin
end MZ
