/-! fewestMoves. -/
section WC
variable {m : Mm} {W H n : Nat} {r : Nat → Int}
/-- a board without the piece that walks -/
def wof (b : Nat → Int) (f : Nat) : Nat → Int := fun c => if c = f then 0 else b c
theorem BD_wof {b : Nat → Int} {f : Nat} (h : BD W H b) : BD W H (wof b f) := fun x y hx hy => by
  unfold wof
  split
  · omega
  · exact h x y hx hy
theorem c116 {b : Nat → Int} {f : Nat} (hf : fA f) (hf2 : f + 1 < 243) (h : FR m f W H b) (hw : WH W H) (hb : BD W H b) {x y gx gy : Nat} (hx : x < W) (hy : y < H) (hgx : gx < W) (hgy : gy < H) (hp : 1 ≤ b (x + W * y)) :
    An (d_116 243 f (zI ((x + 8 * y : Nat) : Int)) (zI ((gx + 8 * gy : Nat) : Int)) m) (fun q => q.1 = zI ((bf W H (wof b (x + W * y)) (gx + W * gy) (b (x + W * y)) (x + W * y) 64).1 (gx + W * gy)) ∧ ∀ a, a < 243 ∨ 247 < a → q.2 a = m a) := by
  have hw' := hw
  obtain ⟨w1, w2, w3, w4⟩ := hw'
  have bp := hb x y hx hy
  have hN := WH_n hw
  have cF := cell_lt hx hy
  have cG := cell_lt hgx hgy
  have hbw : BD W H (wof b (x + W * y)) := BD_wof hb
  unfold d_116
  rw [c17 hf (by omega), h.on hw hx hy]
  simp only [obs]
  rw [if_pos (by rw [show (-1 : Int32) = zI (-1) from by decide, zI_inj (by omega) (by omega) (by omega) (by omega)]; omega), w_r0, w_r1]
  refine (c11 (f' := 244) hf fA_244 h (by omega)).bd (fun m2 h2 => ?_)
  rw [c18 fA_244 (by omega)]
  simp only [obs]
  have g3 : FR (wr m2 245 (x + 8 * y) (-1)) 244 W H (wof b (x + W * y)) := by
    have := h2.1.put hw hx hy (p := 0)
    rw [show zI (0 - 1) = (-1 : Int32) from by decide] at this
    exact this
  have f3 : ∀ a, a ≠ 244 → a ≠ 245 → wr m2 245 (x + 8 * y) (-1) a = m a := fun a a1 a2 => by rw [wr_ne a2, h2.2 a a1 a2]
  generalize wr m2 (244 + 1) (x + 8 * y) (-1) = m3 at g3 f3 ⊢
  refine (c349 (a := 246) (by rw [w_n1]; decide)).bd (fun m4 h4 => ?_)
  rw [w_n1] at h4
  rw [wbs]
  have s0 : CS m (wr m4 243 3 0) W H (wof b (x + W * y)) ((fun _ => -1), []) := by
    refine ⟨g3.mm ?_ ?_, fun u v hu hv => ?_, ?_, fun i hi => absurd hi (Nat.not_lt_zero i), fun a ha => ?_⟩
    · rw [wr_ne (by decide), h4.2 244 (by decide)]
    · rw [wr_ne (by decide), h4.2 245 (by decide)]
    · rw [wr_ne (by decide), h4.1 _ (by omega)]
      have e : (if u < W ∧ v < H then (-1 : Int) else -1) = -1 := by split <;> rfl
      show (-1 : Int32) = zI (if u < W ∧ v < H then (-1 : Int) else -1)
      rw [e]
      decide
    · rw [wr_eq]; rfl
    · rw [wr_ne (by omega), h4.2 a (by omega), f3 a (by omega) (by omega)]
  have s1 := c117 hw hbw s0 hx hy rfl (v := 0) (by decide)
  refine s1.bd (fun m6 h6 => ?_)
  have e0 : ((fun j => if j = x + W * y then (0 : Int) else (fun _ => -1 : Nat → Int) j), if wof b (x + W * y) (x + W * y) = 0 then ([] : List Nat) ++ [x + W * y] else []) = bf W H (wof b (x + W * y)) (gx + W * gy) (b (x + W * y)) (x + W * y) 0 := by
    rw [if_pos (show wof b (x + W * y) (x + W * y) = 0 from if_pos rfl)]
    rfl
  have h6' : CS m m6 W H (wof b (x + W * y)) (bf W H (wof b (x + W * y)) (gx + W * gy) (b (x + W * y)) (x + W * y) 0) := by
    rw [← e0]; exact h6
  unfold d_116_54
  rw [zl_0]
  have G := fun k => bf_G (W := W) (H := H) (b := wof b (x + W * y)) (g := gx + W * gy) (p := b (x + W * y)) (f := x + W * y) cF (k := k)
  have fin : ∀ (k : Nat) (M : Mm), k ≤ 64 → CS m M W H (wof b (x + W * y)) (bf W H (wof b (x + W * y)) (gx + W * gy) (b (x + W * y)) (x + W * y) k) → ¬ k < (bf W H (wof b (x + W * y)) (gx + W * gy) (b (x + W * y)) (x + W * y) k).2.length → An (d_116_90 243 (zI ((gx + 8 * gy : Nat) : Int)) M) (fun q => q.1 = zI ((bf W H (wof b (x + W * y)) (gx + W * gy) (b (x + W * y)) (x + W * y) 64).1 (gx + W * gy)) ∧ ∀ a, a < 243 ∨ 247 < a → q.2 a = m a) := fun k M hk hM hl => by
    unfold d_116_90
    rw [if_neg (by rw [zl_0, zI_lt (by omega) (by omega) (by omega) (by omega)]; omega), if_neg (by rw [zl_64, zI_le (by omega) (by omega) (by omega) (by omega)]; omega), w_r1, w_n1, if_pos (in_k (by omega) (by decide)), z_ix (by omega), hM.2.1 gx gy (by omega) (by omega), if_pos ⟨hgx, hgy⟩]
    have := bf_st hl (j := 64 - k)
    rw [show k + (64 - k) = 64 by omega] at this
    rw [this]
    exact An.so ⟨rfl, hM.2.2.2.2⟩
  refine it_inv (fun k (v : Int32 × Mm) => v.1 = zI (k : Nat) ∧ CS m v.2 W H (wof b (x + W * y)) (bf W H (wof b (x + W * y)) (gx + W * gy) (b (x + W * y)) (x + W * y) k)) _ 64 ⟨rfl, h6'⟩ (fun k hk v hv => ?_) (fun v hv => ?_)
  · obtain ⟨z, M⟩ := v
    obtain ⟨v1, v2⟩ := hv
    dsimp only at v1 v2
    subst v1
    have Gk := G k
    have ll := Gk.len
    show An (s_116_54 243 (zI ((gx + 8 * gy : Nat) : Int)) (zI (b (x + W * y) - 1)) (zI (k : Nat)) M) _
    unfold s_116_54
    rw [v2.2.2.1]
    by_cases q : k < (bf W H (wof b (x + W * y)) (gx + W * gy) (b (x + W * y)) (x + W * y) k).2.length
    · obtain ⟨u1, u2⟩ := Gk.2.2 k q
      have ub := (Gk.1 ((bf W H (wof b (x + W * y)) (gx + W * gy) (b (x + W * y)) (x + W * y) k).2.getD k 0)).2
      rw [if_neg (by rw [zI_le (by omega) (by omega) (by omega) (by omega)]; omega), if_neg (by rw [zl_64, zI_le (by omega) (by omega) (by omega) (by omega)]; omega), w_r2, w_n2, if_pos (in_k hk (by decide)), z_ix (by omega), v2.2.2.2.1 k q]
      refine (c118 hw hbw hp bp.2 (k := ((k + 1 : Nat) : Int)) (by omega) (Gk.mo (by omega)) v2 u1 u2 (by omega) hgx hgy).bd (fun m7 h7 => ?_)
      simp only [wbs]
      refine An.so ⟨by rw [zl_1, zI_add]; rfl, ?_⟩
      dsimp only
      show CS m m7 W H _ (if k < (bf W H (wof b (x + W * y)) (gx + W * gy) (b (x + W * y)) (x + W * y) k).2.length then _ else _)
      rw [if_pos q]
      exact h7
    · rw [if_pos (by rw [zI_le (by omega) (by omega) (by omega) (by omega)]; omega)]
      exact An.mo ((fin k M (by omega) v2 q).mp (fun v hv => hv))
  · obtain ⟨z, M⟩ := v
    obtain ⟨v1, v2⟩ := hv
    dsimp only at v1 v2
    subst v1
    have ll := (G 64).len
    show An (s_116_54 243 (zI ((gx + 8 * gy : Nat) : Int)) (zI (b (x + W * y) - 1)) (zI ((64 : Nat) : Int)) M) _
    unfold s_116_54
    rw [v2.2.2.1, if_pos (by rw [zI_le (by omega) (by omega) (by omega) (by omega)]; omega)]
    exact An.mo ((fin 64 M (by omega) v2 (by omega)).mp (fun v hv => hv))
end WC
