/-! What is foretold of a move comes by it. -/
section LE
variable {m : Mm} {r : Nat → Int} {W H : Nat} {k : Int}
theorem and_m (v : Int32) : ∃ n : Nat, n ≤ 2147483647 ∧ v &&& 2147483647 = zI (n : Nat) := by
  refine ⟨(v.toBitVec &&& 2147483647#32).toNat, ?_, ?_⟩
  · rw [BitVec.toNat_and]
    exact Nat.le_trans Nat.and_le_right (by decide)
  · rw [← Int32.toBitVec_inj, Int32.toBitVec_and, zI_bv, show (2147483647 : Int32).toBitVec = 2147483647#32 from rfl, BitVec.ofNat_toNat, BitVec.setWidth_eq]
/-- a number drawn -/
theorem a182 {L : Nat} (hL : L ≤ 2147483647) {j lo hi : Nat} (hj : j ≤ 1000000) (h1 : lo ≤ hi) (h2 : hi ≤ 1000000) : ∃ v : Nat, lo ≤ v ∧ v ≤ hi ∧ d_182 L (zI (j : Nat)) (zI (lo : Nat)) (zI (hi : Nat)) m = some (zI (v : Nat)) := by
  have c : ∃ x, d_181 L (zI (j : Nat)) m = some x := by
    unfold d_181
    rw [zI_on]
    by_cases q : L ≤ j
    · rw [if_pos (by rw [zI_le (by omega) (by omega) (by omega) (by omega)]; omega)]
      exact ⟨_, rfl⟩
    · rw [if_neg (by rw [zI_le (by omega) (by omega) (by omega) (by omega)]; omega), if_pos (in_k (by omega) hL)]
      exact ⟨_, rfl⟩
  obtain ⟨x, ex⟩ := c
  obtain ⟨n, hn, en⟩ := and_m x
  have e1 : zI (hi : Nat) - zI (lo : Nat) + 1 = zI ((hi - lo + 1 : Nat) : Int) := by
    rw [zI_sub, zl_1, zI_add]; exact congrArg zI (by omega)
  have ml : n % (hi - lo + 1) < hi - lo + 1 := Nat.mod_lt _ (by omega)
  refine ⟨lo + n % (hi - lo + 1), by omega, by omega, ?_⟩
  unfold d_182
  rw [ex, obs, en, e1, if_neg (by rw [zl_0, zI_inj (by omega) (by omega) (by omega) (by omega)]; omega), zI_rm (by omega) (by omega) (by omega) (by omega), zI_add]
  exact congrArg (fun z => some (zI z)) (by omega)
/-- the ranks go down by worth -/
theorem ah_key {n : Nat} {w : Nat → Int} {a c : Nat} (ha : a < n) (hac : w c < w a) : ah n w a < ah n w c := by
  refine ctn_lt (j := a) (fun k hk e => ?_) ha (decide_eq_false (by omega)) (decide_eq_true (Or.inl hac))
  have e := of_decide_eq_true e
  exact decide_eq_true (by omega)
theorem pl_ah {n : Nat} {w : Nat → Int} {v : Int} (h0 : 0 ≤ v) (hv : v < n) : (ah n w (pl n w v) : Int) = v := by
  have h := pl_lt (w := w) h0 hv
  unfold pl at h ⊢
  exact of_decide_eq_true (ff_at h)
theorem rk_le {n : Nat} {w : Nat → Int} {v : Int} (h0 : 1 ≤ v) (hv : v < n) : w (pl n w v) ≤ w (pl n w (v - 1)) := by
  have h1 := pl_lt (w := w) (v := v) (by omega) hv
  have e1 := pl_ah (w := w) (v := v) (by omega) hv
  have e2 := pl_ah (n := n) (w := w) (v := v - 1) (by omega) (by omega)
  rcases Int.lt_or_le (w (pl n w (v - 1))) (w (pl n w v)) with q | q
  · have := ah_key (n := n) h1 q
    omega
  · exact q
/-- a ranked move is a move -/
theorem rkp_mv {b : Nat → Int} {s : Int} {v : Nat} (hv : v < (ml W H b s).length) : (rkp W H b s v).1 < W * H ∧ (rkp W H b s v).2 < W * H ∧ mv W b s ((rkp W H b s v).1 % W) ((rkp W H b s v).1 / W) ((rkp W H b s v).2 % W) ((rkp W H b s v).2 / W) = true := by
  have h := pl_lt (n := (ml W H b s).length) (w := wl W H b s (ml W H b s)) (v := (v : Nat)) (by omega) (by omega)
  refine mem_ml.mp ?_
  unfold rkp
  rw [List.getD_eq_getElem?_getD, List.getElem?_eq_getElem h]
  exact List.getElem_mem h
theorem rkp_w {b : Nat → Int} {s : Int} {v : Nat} : pt W H b s (rkp W H b s v) 3 = wl W H b s (ml W H b s) (pl (ml W H b s).length (wl W H b s (ml W H b s)) (v : Nat)) := rfl
/-- it is answered at once if and only if it has no delay -/
theorem dl_0 {s q x y X Y n : Nat} {r : Nat → Int} : (pls W H s q x y X Y (n + 1) 1 r).1 = 1 ↔ dlD W H r s q x y X Y 3 = 0 := by
  rw [pls_1]
  have e0 : dlp W H r s q x y X Y 0 = true ↔ ftk W H r s q x y X Y (r 2) < r (15 + s) ∧ fia W H r s q x y X Y (r 2) = true := by
    unfold dlp
    rw [Bool.and_eq_true, decide_eq_true_eq, show ((0 : Nat) : Int) = 0 from rfl, Int.add_zero, Int.sub_zero]
  rw [← e0]
  constructor
  · intro h
    have := dl_at (N := 3) (k := 0) (by decide) h (fun j hj => absurd hj (Nat.not_lt_zero j))
    rw [this]; rfl
  · intro h
    unfold dlD at h
    by_cases q2 : ff (dlp W H r s q x y X Y) (3 + 1) < 3 + 1
    · rw [if_pos q2] at h
      have e : ff (dlp W H r s q x y X Y) (3 + 1) = 0 := by omega
      have := ff_at q2
      rw [e] at this
      exact this
    · rw [if_neg q2] at h
      exact absurd h (by decide)
/-- what is so between two moves of the law -/
def St (n : Nat) (m : Mm) (r : Nat → Int) (W H : Nat) (T : Int) : Prop := iGam (n : Nat) m r W H ∧ iHis m ∧ SI r ∧ r 2 + r 15 + r 16 = T
theorem iHis.q {m' : Mm} (h : iHis m) (q : Qe m m') : iHis m' := by
  obtain ⟨c, x, c1, x1, e2, e1⟩ := h
  have e : m' 80 = m 80 := q 80 (Or.inr (by omega))
  exact ⟨c, x, c1, x1, by rw [e]; exact e2, by rw [e]; exact e1⟩
theorem iGam.mono {k k' : Int} (h : iGam k m r W H) (hk : k ≤ k') : iGam k' m r W H := ⟨h.1, h.2.1.mono hk, h.2.2⟩
theorem St.q {n : Nat} {m' : Mm} {T : Int} (h : St n m r W H T) (q : Qe m m') : St n m' r W H T := ⟨h.1.q q, h.2.1.q q, h.2.2⟩
theorem St.s {n n' : Nat} {T : Int} (h : St n m r W H T) (hn : n ≤ n') : St n' m r W H T := ⟨h.1.mono (by omega), h.2⟩
/-- the end of it: what the row shows -/
theorem a185_449 {L : Nat} {n s q : Nat} {M : Mm} {v : Int} {ρ : Nat → Int} {B : Bool} {x y X Y : Nat} (hs : s + q = 1) (h : iGam k M ρ W H) (hk : k ≤ 520) (v1 : -1 ≤ v) (v9 : v ≤ 9) (f4 : ρ 7 = r 7) (f7 : 0 ≤ r 7 ∧ r 7 ≤ 9) (r2 : 0 ≤ r 2) (r3 : r 2 ≤ 6000000) (hl : flen r s x y X Y ≤ 1000)
    (f : (v = -1 ∧ ρ (15 + s) = 0 ∧ ρ 4 = 2 - (s : Int)) ∨ (v = 0 ∧ ρ 12 = r 12 + (r 7).toNat ∧ ρ 3 = s ∧ ρ 11 = r 11) ∨
      ((1 : Int) ≤ v ∧ ρ 11 = r 11 + 1 ∧ ρ 12 = r 12 + (v - 1 + 1) ∧ ρ 3 = 1 - (s : Int) ∧ 1 ≤ ρ 14 ∧ ρ (464 + 6 * ((ρ 14).toNat - 1) + 4) = v ∧ ρ (464 + 6 * ((ρ 14).toNat - 1) + 5) = ρ 2 ∧ r 2 + (flen r s x y X Y : Nat) < ρ 2 ∧ (v = 1 → 1 ≤ ρ 13 ∧ ρ (304 + 8 * ((ρ 13).toNat - 1) + 4) = frd W H r s q x y X Y (r 2 + 0)))) :
    An (d_185_449 L 20 (zI (s : Nat)) (zI v) (zI (ρ 2 - r 2)) (zI (frd W H r s q x y X Y (r 2))) (zI (flen r s x y X Y : Nat)) (zI (r 2)) (zI (r 12)) (zI (r 11)) B B M) (fun p => p.1 = true ∧ p.2 = M) := by
  have hR := (RG.iff.mp h.2.1)
  have h2 := hR.2.1.1
  have h13 := hR.2.2.2.2.1
  have h14 := hR.2.2.2.2.2.1
  unfold d_185_449
  rw [if_pos rfl]
  rcases f with ⟨a1, a2, a3⟩ | ⟨a1, a2, a3, a4⟩ | ⟨a1, a2, a3, a4, a5, a6, a7, a8, a9⟩
  · rw [a1, if_pos (by decide), if_pos (by decide), a126 h (by omega), obs, a2, if_neg (fun e => e rfl), a125_4 h, obs, a3, zl_2, zI_sub, if_neg (fun e => e rfl)]
    exact An.so ⟨rfl, rfl⟩
  · rw [a1, if_pos (by decide), if_neg (fun e => e rfl), a125_12 h, obs, a125_7 h, obs, a2, f4, zI_add, show ((r 7).toNat : Int) = r 7 by omega, if_neg (fun e => e rfl), a125_3 h, obs, a3, if_neg (fun e => e rfl), a125_11 h, obs, a4, if_neg (fun e => e rfl)]
    exact An.so ⟨rfl, rfl⟩
  · have ei : zI (ρ 14) - 1 = zI (((ρ 14).toNat - 1 : Nat) : Int) := by rw [zl_1, zI_sub]; exact congrArg zI (by omega)
    have w4 : (4 : Int32) = zI ((4 : Nat) : Int) := rfl
    have w5 : (5 : Int32) = zI ((5 : Nat) : Int) := rfl
    have e1 := a151 h (i := (ρ 14).toNat - 1) (w := 4) (by omega) (by decide) (by decide) (by decide)
    have e2 := a151 h (i := (ρ 14).toNat - 1) (w := 5) (by omega) (by decide) (by decide) (by decide)
    rw [← w4, a6] at e1
    rw [← w5, a7] at e2
    rw [if_neg (by rw [zl_0, zI_le (by omega) (by omega) (by omega) (by omega)]; omega), a125_11 h, obs, a2, show zI (r 11) + 1 = zI (r 11 + 1) by rw [zl_1, zI_add], if_neg (fun e => e rfl), a125_12 h, obs, a3, zI_add, show r 12 + (v - 1 + 1) = r 12 + v by omega, if_neg (fun e => e rfl), a125_3 h, obs, a4, show (1 : Int32) - zI (s : Nat) = zI (1 - (s : Int)) by rw [zl_1, zI_sub], if_neg (fun e => e rfl), a125_14 h, obs, ei, e1, obs, if_neg (fun e => e rfl)]
    rw [obs, ei, e2, obs, zI_add, show r 2 + (ρ 2 - r 2) = ρ 2 by omega, if_neg (fun e => e rfl), if_neg (by rw [zI_le (by omega) (by omega) (by omega) (by omega)]; omega)]
    by_cases q1 : 1 < v
    · rw [if_pos (by rw [zl_1, zI_lt (by omega) (by omega) (by omega) (by omega)]; exact q1)]
      exact An.so ⟨rfl, rfl⟩
    · obtain ⟨b1, b2⟩ := a9 (by omega)
      rw [Int.add_zero] at b2
      have ej : zI (ρ 13) - 1 = zI (((ρ 13).toNat - 1 : Nat) : Int) := by rw [zl_1, zI_sub]; exact congrArg zI (by omega)
      have e3 := a150 h (i := (ρ 13).toNat - 1) (w := 4) (by omega) (by decide)
      rw [← w4, b2] at e3
      rw [if_neg (by rw [zl_1, zI_lt (by omega) (by omega) (by omega) (by omega)]; exact q1), a125_13 h, obs, ej, e3, obs, if_neg (fun e => e rfl)]
      exact An.so ⟨rfl, rfl⟩
end LE
