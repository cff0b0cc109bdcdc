/-! fewestMoves. -/
section WC
variable {m : Mm} {W H n : Nat} {r : Nat → Int}
/-- a board without the piece that walks -/
def wof (b : Nat → Int) (f : Nat) : Nat → Int := fun c => if c = f then 0 else b c
theorem BD_wof {b : Nat → Int} {f : Nat} (h : BD W H b) : BD W H (wof b f) := fun x y hx hy => by
  unfold wof
  split
  · omega
  · exact h x y hx hy
theorem c116 {b : Nat → Int} {f : Nat} (hf : fA f) (hf2 : f + 1 < 243) (h : FR m f W H b) (hw : WH W H) (hb : BD W H b) {x y gx gy : Nat} (hx : x < W) (hy : y < H) (hgx : gx < W) (hgy : gy < H) (hp : 1 ≤ b (x + W * y)) :
    An (d_116 243 f (zI ((x + 8 * y : Nat) : Int)) (zI ((gx + 8 * gy : Nat) : Int)) m) (fun q => q.1 = zI ((bf W H (wof b (x + W * y)) (gx + W * gy) (b (x + W * y)) (x + W * y) 64).1 (gx + W * gy)) ∧ ∀ a, a < 243 ∨ 247 < a → q.2 a = m a) := by
  have hw' := hw
  obtain ⟨w1, w2, w3, w4⟩ := hw'
  have bp := hb x y hx hy
  have hN := WH_n hw
  have cF := cell_lt hx hy
  have cG := cell_lt hgx hgy
  have hbw : BD W H (wof b (x + W * y)) := BD_wof hb
  unfold d_116
  rw [c17 hf (by omega), h.on hw hx hy]
  simp only [obs]
  rw [if_pos (by rw [show (-1 : Int32) = zI (-1) from by decide, zI_inj (by omega) (by omega) (by omega) (by omega)]; omega), w_r0, w_r1]
  refine (c11 (f' := 244) hf fA_244 h (by omega)).bd (fun m2 h2 => ?_)
  rw [c18 fA_244 (by omega)]
  simp only [obs]
  have g3 : FR (wr m2 245 (x + 8 * y) (-1)) 244 W H (wof b (x + W * y)) := by
    have := h2.1.put hw hx hy (p := 0)
    rw [show zI (0 - 1) = (-1 : Int32) from by decide] at this
    exact this
  have f3 : ∀ a, a ≠ 244 → a ≠ 245 → wr m2 245 (x + 8 * y) (-1) a = m a := fun a a1 a2 => by rw [wr_ne a2, h2.2 a a1 a2]
  generalize wr m2 (244 + 1) (x + 8 * y) (-1) = m3 at g3 f3 ⊢
  refine (c349 (a := 246) (by rw [w_n1]; decide)).bd (fun m4 h4 => ?_)
  rw [w_n1] at h4
  rw [wbs]
  have s0 : CS m (wr m4 243 3 0) W H (wof b (x + W * y)) ((fun _ => -1), []) := by
    refine ⟨g3.mm ?_ ?_, fun u v hu hv => ?_, ?_, fun i hi => absurd hi (Nat.not_lt_zero i), fun a ha => ?_⟩
    · rw [wr_ne (by decide), h4.2 244 (by decide)]
    · rw [wr_ne (by decide), h4.2 245 (by decide)]
    · rw [wr_ne (by decide), h4.1 _ (by omega)]
      have e : (if u < W ∧ v < H then (-1 : Int) else -1) = -1 := by split <;> rfl
      show (-1 : Int32) = zI (if u < W ∧ v < H then (-1 : Int) else -1)
      rw [e]
      decide
    · rw [wr_eq]; rfl
    · rw [wr_ne (by omega), h4.2 a (by omega), f3 a (by omega) (by omega)]
  have s1 := c117 hw hbw s0 hx hy rfl (v := 0) (by decide)
  refine s1.bd (fun m6 h6 => ?_)
  have e0 : ((fun j => if j = x + W * y then (0 : Int) else (fun _ => -1 : Nat → Int) j), if wof b (x + W * y) (x + W * y) = 0 then ([] : List Nat) ++ [x + W * y] else []) = bf W H (wof b (x + W * y)) (gx + W * gy) (b (x + W * y)) (x + W * y) 0 := by
    rw [if_pos (show wof b (x + W * y) (x + W * y) = 0 from if_pos rfl)]
    rfl
  have h6' : CS m m6 W H (wof b (x + W * y)) (bf W H (wof b (x + W * y)) (gx + W * gy) (b (x + W * y)) (x + W * y) 0) := by
    rw [← e0]; exact h6
  unfold d_116_54
  rw [zl_0]
  have G := fun k => bf_G (W := W) (H := H) (b := wof b (x + W * y)) (g := gx + W * gy) (p := b (x + W * y)) (f := x + W * y) cF (k := k)
  have fin : ∀ (k : Nat) (M : Mm), k ≤ 64 → CS m M W H (wof b (x + W * y)) (bf W H (wof b (x + W * y)) (gx + W * gy) (b (x + W * y)) (x + W * y) k) → ¬ k < (bf W H (wof b (x + W * y)) (gx + W * gy) (b (x + W * y)) (x + W * y) k).2.length → An (d_116_90 243 (zI ((gx + 8 * gy : Nat) : Int)) M) (fun q => q.1 = zI ((bf W H (wof b (x + W * y)) (gx + W * gy) (b (x + W * y)) (x + W * y) 64).1 (gx + W * gy)) ∧ ∀ a, a < 243 ∨ 247 < a → q.2 a = m a) := fun k M hk hM hl => by
    unfold d_116_90
    rw [if_neg (by rw [zl_0, zI_lt (by omega) (by omega) (by omega) (by omega)]; omega), if_neg (by rw [zl_64, zI_le (by omega) (by omega) (by omega) (by omega)]; omega), w_r1, w_n1, if_pos (in_k (by omega) (by decide)), z_ix (by omega), hM.2.1 gx gy (by omega) (by omega), if_pos ⟨hgx, hgy⟩]
    have := bf_st hl (j := 64 - k)
    rw [show k + (64 - k) = 64 by omega] at this
    rw [this]
    exact An.so ⟨rfl, hM.2.2.2.2⟩
  refine it_inv (fun k (v : Int32 × Mm) => v.1 = zI (k : Nat) ∧ CS m v.2 W H (wof b (x + W * y)) (bf W H (wof b (x + W * y)) (gx + W * gy) (b (x + W * y)) (x + W * y) k)) _ 64 ⟨rfl, h6'⟩ (fun k hk v hv => ?_) (fun v hv => ?_)
  · obtain ⟨z, M⟩ := v
    obtain ⟨v1, v2⟩ := hv
    dsimp only at v1 v2
    subst v1
    have Gk := G k
    have ll := Gk.len
    show An (s_116_54 243 (zI ((gx + 8 * gy : Nat) : Int)) (zI (b (x + W * y) - 1)) (zI (k : Nat)) M) _
    unfold s_116_54
    rw [v2.2.2.1]
    by_cases q : k < (bf W H (wof b (x + W * y)) (gx + W * gy) (b (x + W * y)) (x + W * y) k).2.length
    · obtain ⟨u1, u2⟩ := Gk.2.2 k q
      have ub := (Gk.1 ((bf W H (wof b (x + W * y)) (gx + W * gy) (b (x + W * y)) (x + W * y) k).2.getD k 0)).2
      rw [if_neg (by rw [zI_le (by omega) (by omega) (by omega) (by omega)]; omega), if_neg (by rw [zl_64, zI_le (by omega) (by omega) (by omega) (by omega)]; omega), w_r2, w_n2, if_pos (in_k hk (by decide)), z_ix (by omega), v2.2.2.2.1 k q]
      refine (c118 hw hbw hp bp.2 (k := ((k + 1 : Nat) : Int)) (by omega) (Gk.mo (by omega)) v2 u1 u2 (by omega) hgx hgy).bd (fun m7 h7 => ?_)
      simp only [wbs]
      refine An.so ⟨by rw [zl_1, zI_add]; rfl, ?_⟩
      dsimp only
      show CS m m7 W H _ (if k < (bf W H (wof b (x + W * y)) (gx + W * gy) (b (x + W * y)) (x + W * y) k).2.length then _ else _)
      rw [if_pos q]
      exact h7
    · rw [if_pos (by rw [zI_le (by omega) (by omega) (by omega) (by omega)]; omega)]
      exact An.mo ((fin k M (by omega) v2 q).mp (fun v hv => hv))
  · obtain ⟨z, M⟩ := v
    obtain ⟨v1, v2⟩ := hv
    dsimp only at v1 v2
    subst v1
    have ll := (G 64).len
    show An (s_116_54 243 (zI ((gx + 8 * gy : Nat) : Int)) (zI (b (x + W * y) - 1)) (zI ((64 : Nat) : Int)) M) _
    unfold s_116_54
    rw [v2.2.2.1, if_pos (by rw [zI_le (by omega) (by omega) (by omega) (by omega)]; omega)]
    exact An.mo ((fin 64 M (by omega) v2 (by omega)).mp (fun v hv => hv))
/-- the reference shows a state of the search -/
def RS (M m : Mm) (N : Nat) (S : (Nat → Int) × List Nat) : Prop := (∀ c, c < N → m 260 c = zI (S.1 c)) ∧ (∀ i, i < S.2.length → m 261 i = zI (S.2.getD i 0 : Nat)) ∧ ∀ a, a ≠ 260 → a ≠ 261 → m a = M a
theorem m229i {M : Mm} (hM : MW M r W H) {t : Nat} (ht : t + 64 ≤ 584) (hb : BD W H (fun c => r (t + c))) {p : Int} (p1 : 1 ≤ p) (p2 : p ≤ 12) {S : (Nat → Int) × List Nat} {k : Int} (k1 : k ≤ 1000) (hG : GI (W * H) k S) (h : RS M m (W * H) S) {u : Nat} (hu : u < W * H) (u0 : 0 ≤ S.1 u) (u1 : S.1 u + 1 ≤ k) {g : Nat} (hg : g < W * H) {i : Nat} (hi : i ≤ 1000) {A : Int} (hA : ∀ j, j ≤ W * H → (fo (ent W (fun c => r (t + c)) g p u) j S).1 g ≠ -1 → A = (fo (ent W (fun c => r (t + c)) g p u) j S).1 g) :
    An (d_229_63 249 (zI (t : Nat)) (zI p) (zI (g : Nat)) (zI (i : Nat)) (zI (u : Nat)) (zI (S.2.length : Nat)) 0 m) (fun v => (∃ m', v = .inl (zI ((inn W H (fun c => r (t + c)) g p u S).2.length : Nat), zI ((i + 1 : Nat) : Int), m') ∧ RS M m' (W * H) (inn W H (fun c => r (t + c)) g p u S)) ∨ ∃ m', v = .inr (zI A, m') ∧ ∀ a, a ≠ 260 → a ≠ 261 → m' a = M a) := by
  have hw := hM.2.2.2
  have hN := WH_n hw
  unfold d_229_63 inn
  rw [zl_0]
  refine it_inv (fun j (v : Int32 × Int32 × Mm) => v.1 = zI ((fo (ent W (fun c => r (t + c)) g p u) j S).2.length : Nat) ∧ v.2.1 = zI (j : Nat) ∧ RS M v.2.2 (W * H) (fo (ent W (fun c => r (t + c)) g p u) j S)) _ (W * H) ⟨rfl, rfl, h⟩ (fun j hj v hv => ?_) (fun v hv => ?_)
  · obtain ⟨z1, z2, M2⟩ := v
    obtain ⟨v1, v2, v3⟩ := hv
    dsimp only at v1 v2 v3
    subst v1
    subst v2
    obtain ⟨g1, g2⟩ := fo_G (W := W) (b := fun c => r (t + c)) (g := g) (p := p) hG u0 u1 (j := j) (by omega)
    have hA1 := hA (j + 1) (by omega)
    rw [fo_s] at hA1 ⊢
    generalize fo (ent W (fun c => r (t + c)) g p u) j S = Sj at *
    obtain ⟨c1, c2, c3⟩ := v3
    have hM2 : MW M2 r W H := ⟨hM.1.mm (c3 250 (by decide) (by decide)), hM.2⟩
    obtain ⟨X1, X2, X3⟩ := cell_of hw hj
    obtain ⟨U1, U2, U3⟩ := cell_of hw hu
    have bp : 0 ≤ r (t + j) ∧ r (t + j) ≤ 12 := by
      have := hb (j % W) (j / W) X1 X2
      dsimp only at this
      rw [X3] at this
      exact this
    have bd := g1.1 j
    have ll := g1.len
    have next : ∀ (S' : (Nat → Int) × List Nat) (M' : Mm) (w : Int32), w = zI (S'.2.length : Nat) → RS M M' (W * H) S' → S' = ent W (fun c => r (t + c)) g p u j Sj → An (wb (zI (j : Nat) + 1) fun y7 => some (Sum.inl (w, y7, M') : (Int32 × Int32 × Mm) ⊕ ((Int32 × Int32 × Mm) ⊕ (Int32 × Mm)))) (fun v => match v with | .inl s' => s'.1 = zI ((ent W (fun c => r (t + c)) g p u j Sj).2.length : Nat) ∧ s'.2.1 = zI ((j + 1 : Nat) : Int) ∧ RS M s'.2.2 (W * H) (ent W (fun c => r (t + c)) g p u j Sj) | .inr v => (∃ m', v = .inl (zI ((fo (ent W (fun c => r (t + c)) g p u) (W * H) S).2.length : Nat), zI ((i + 1 : Nat) : Int), m') ∧ RS M m' (W * H) (fo (ent W (fun c => r (t + c)) g p u) (W * H) S)) ∨ ∃ m', v = .inr (zI A, m') ∧ ∀ a, a ≠ 260 → a ≠ 261 → m' a = M a) := fun S' M' w hw' hM' hS' => by
      rw [wbs]
      refine An.so ⟨?_, by rw [zl_1, zI_add]; rfl, ?_⟩
      · rw [← hS']; exact hw'
      · rw [← hS']; exact hM'
    have dist : zI (Sj.1 j) = -1 ↔ Sj.1 j = -1 := by
      rw [show (-1 : Int32) = zI (-1) from by decide, zI_inj (by omega) (by omega) (by omega) (by omega)]
    have eqg : zI (j : Nat) = zI (g : Nat) ↔ j = g := by rw [zI_inj (by omega) (by omega) (by omega) (by omega)]; omega
    have equ : zI (j : Nat) = zI (u : Nat) ↔ j = u := by rw [zI_inj (by omega) (by omega) (by omega) (by omega)]; omega
    have e0 : zI (r (t + j)) = 0 ↔ r (t + j) = 0 := by rw [zl_0, zI_inj (by omega) (by omega) (by omega) (by omega)]
    have tail : ∀ B : Bool, B = opw (fun c => r (t + c)) g p j → An (d_229_112 249 (zI (t : Nat)) (zI p) (zI (g : Nat)) (zI (Sj.2.length : Nat)) (zI (i : Nat)) (zI (u : Nat)) (zI (j : Nat)) (zI (r (t + j))) B M2) (fun v => match v with | .inl s' => s'.1 = zI ((ent W (fun c => r (t + c)) g p u j Sj).2.length : Nat) ∧ s'.2.1 = zI ((j + 1 : Nat) : Int) ∧ RS M s'.2.2 (W * H) (ent W (fun c => r (t + c)) g p u j Sj) | .inr v => (∃ m', v = .inl (zI ((fo (ent W (fun c => r (t + c)) g p u) (W * H) S).2.length : Nat), zI ((i + 1 : Nat) : Int), m') ∧ RS M m' (W * H) (fo (ent W (fun c => r (t + c)) g p u) (W * H) S)) ∨ ∃ m', v = .inr (zI A, m') ∧ ∀ a, a ≠ 260 → a ≠ 261 → m' a = M a) := by
      intro B hB
      have same : (¬ (opw (fun c => r (t + c)) g p j = true ∧ Sj.1 j = -1 ∧ rc W (fun c => r (t + c)) p (u % W) (u / W) (j % W) (j / W) (decide (¬ r (t + j) = 0)) = true)) → ent W (fun c => r (t + c)) g p u j Sj = Sj := fun hq => if_neg hq
      unfold d_229_112
      by_cases qu : j = u
      · rw [if_pos (equ.mpr qu)]
        refine (next Sj M2 _ rfl ⟨c1, c2, c3⟩ (same ?_).symm).mp (fun v hv => by cases v <;> exact hv)
        rw [qu]
        exact fun z => by have := z.2.1; omega
      · rw [if_neg (fun z => qu (equ.mp z)), m_r13, n_260, if_pos (in_k (by omega) (by decide)), z_ix (by omega), c1 j hj]
        by_cases qd : Sj.1 j = -1
        · rw [if_neg (fun z => z (dist.mpr qd))]
          cases hop : B
          · rw [if_neg (by decide)]
            refine (next Sj M2 _ rfl ⟨c1, c2, c3⟩ (same ?_).symm).mp (fun v hv => by cases v <;> exact hv)
            rw [← hB, hop]
            exact fun z => Bool.noConfusion z.1
          · rw [if_pos rfl]
            have ho : opw (fun c => r (t + c)) g p j = true := by rw [← hB, hop]
            have body : ∀ tk : Bool, tk = decide (¬ r (t + j) = 0) → An (d_229_154 249 (zI (t : Nat)) (zI p) (zI (g : Nat)) (zI (Sj.2.length : Nat)) (zI (i : Nat)) (zI (u : Nat)) (zI (j : Nat)) 249 (zI (t : Nat)) (zI p) (zI (u : Nat)) (zI (j : Nat)) tk M2) (fun v => match v with | .inl s' => s'.1 = zI ((ent W (fun c => r (t + c)) g p u j Sj).2.length : Nat) ∧ s'.2.1 = zI ((j + 1 : Nat) : Int) ∧ RS M s'.2.2 (W * H) (ent W (fun c => r (t + c)) g p u j Sj) | .inr v => (∃ m', v = .inl (zI ((fo (ent W (fun c => r (t + c)) g p u) (W * H) S).2.length : Nat), zI ((i + 1 : Nat) : Int), m') ∧ RS M m' (W * H) (fo (ent W (fun c => r (t + c)) g p u) (W * H) S)) ∨ ∃ m', v = .inr (zI A, m') ∧ ∀ a, a ≠ 260 → a ≠ 261 → m' a = M a) := by
              intro tk htk
              have e202 := m202 hM2 ht hb p1 p2 U1 U2 X1 X2 (tk := tk)
              rw [U3, X3] at e202
              unfold d_229_154
              rw [e202]
              simp only [obs]
              by_cases qr : rc W (fun c => r (t + c)) p (u % W) (u / W) (j % W) (j / W) tk = true
              · have eent : ent W (fun c => r (t + c)) g p u j Sj = ((fun c => if c = j then Sj.1 u + 1 else Sj.1 c), if r (t + j) = 0 then Sj.2 ++ [j] else Sj.2) := if_pos ⟨ho, qd, by rw [← htk]; exact qr⟩
                have ct := ent_ct g1 (u := u) hj qd (v := Sj.1 u + 1) (by omega)
                have l2 := g1.2.1
                have l3 := ctn_n (q := fun c => decide (¬ (if c = j then Sj.1 u + 1 else Sj.1 c) = -1)) (n := W * H)
                have D1 : ∀ c, c < W * H → wr M2 260 j (zI (Sj.1 u + 1)) 260 c = zI (if c = j then Sj.1 u + 1 else Sj.1 c) := fun c hc => by
                  rw [wr_at]
                  by_cases e : c = j
                  · rw [if_pos e, if_pos e]
                  · rw [if_neg e, if_neg e]; exact c1 c hc
                rw [if_pos qr, m_r13, n_260, if_pos (in_k (by omega) (by decide)), if_pos (in_k (by omega) (by decide)), z_ix (by omega), z_ix (by omega), c1 u hu, zl_1, zI_add, wbs]
                by_cases qg : j = g
                · rw [if_neg (fun z => z (eqg.mpr qg))]
                  unfold d_229_186
                  rw [m_r13, n_260, if_pos (in_k (by omega) (by decide)), z_ix (by omega)]
                  refine An.mo (An.mo (An.so (Or.inr ⟨wr M2 260 j (zI (Sj.1 u + 1)), ?_, fun a a1 a2 => by rw [wr_ne a1]; exact c3 a a1 a2⟩)))
                  rw [eent] at hA1
                  have := hA1 (by dsimp only; rw [if_pos qg.symm]; omega)
                  rw [this, D1 j hj]
                  dsimp only
                  rw [if_pos rfl, if_pos qg.symm]
                · rw [if_pos (fun z => qg (eqg.mp z)), m_r14, n_261, if_pos (in_k (by omega) (by decide)), z_ix (by omega), wbs, zI_add, wbs]
                  have q0 : r (t + j) = 0 := by
                    unfold opw at ho
                    rcases of_decide_eq_true ho with z | z
                    · exact z
                    · exact absurd z.1 qg
                  have e2 : ent W (fun c => r (t + c)) g p u j Sj = ((fun c => if c = j then Sj.1 u + 1 else Sj.1 c), Sj.2 ++ [j]) := by rw [eent, if_pos q0]
                  have nx := next ((fun c => if c = j then Sj.1 u + 1 else Sj.1 c), Sj.2 ++ [j]) (wr (wr M2 260 j (zI (Sj.1 u + 1))) 261 Sj.2.length (zI (j : Nat))) (zI ((Sj.2.length : Nat) + 1)) (by dsimp only; rw [List.length_append, List.length_singleton]; rfl) ⟨fun c hc => by rw [wr_ne (by decide)]; exact D1 c hc, fun i' hi' => by
                    dsimp only at hi' ⊢
                    rw [List.length_append, List.length_singleton] at hi'
                    rw [gdn_app hi']
                    by_cases e : i' = Sj.2.length
                    · rw [e, wr_eq, if_pos rfl]
                    · rw [wr_nk e, wr_ne (by decide), if_neg e]; exact c2 i' (by omega), fun a a1 a2 => by rw [wr_ne a2, wr_ne a1]; exact c3 a a1 a2⟩ e2.symm
                  rw [zl_1] at nx
                  exact nx.mp (fun v hv => by cases v <;> exact hv)
              · rw [if_neg qr]
                refine (next Sj M2 _ rfl ⟨c1, c2, c3⟩ (same ?_).symm).mp (fun v hv => by cases v <;> exact hv)
                rw [← htk]
                exact fun z => qr z.2.2
            by_cases q0 : r (t + j) = 0
            · rw [if_pos (e0.mpr q0)]
              exact (body false (by rw [decide_eq_false (fun z => z q0)])).mp (fun v hv => by cases v <;> exact hv)
            · rw [if_neg (fun z => q0 (e0.mp z))]
              exact (body true (by rw [decide_eq_true q0])).mp (fun v hv => by cases v <;> exact hv)
        · rw [if_pos (fun z => qd (dist.mp z))]
          refine (next Sj M2 _ rfl ⟨c1, c2, c3⟩ (same ?_).symm).mp (fun v hv => by cases v <;> exact hv)
          exact fun z => qd z.2.1
    show An (s_229_63 249 (zI (t : Nat)) (zI p) (zI (g : Nat)) (zI (i : Nat)) (zI (u : Nat)) (zI (Sj.2.length : Nat)) (zI (j : Nat)) M2) _
    unfold s_229_63
    rw [m193 hM2]
    simp only [obs]
    rw [if_neg (by rw [zI_le (by omega) (by omega) (by omega) (by omega)]; omega), z_ad, if_pos (in_r (by omega)), mr_k (by omega) hM2.1, wbs]
    by_cases q0 : r (t + j) = 0
    · rw [if_pos (e0.mpr q0)]
      exact (tail true (by unfold opw; rw [decide_eq_true (Or.inl q0)])).mp (fun v hv => by cases v <;> exact hv)
    · rw [if_neg (fun z => q0 (e0.mp z))]
      by_cases qg : j = g
      · rw [if_neg (fun z => z (eqg.mpr qg)), m196 bp.1 bp.2, m196 (by omega) p2]
        simp only [obs]
        have s1 := sd_r (r (t + j))
        have s2 := sd_r p
        by_cases qs : sd (r (t + j)) = sd p
        · rw [if_pos (by rw [qs])]
          refine (tail false ?_).mp (fun v hv => by cases v <;> exact hv)
          unfold opw
          symm
          rw [decide_eq_false]
          rintro (z | z)
          · exact q0 z
          · exact z.2 qs
        · rw [if_neg (by rw [zI_inj (by omega) (by omega) (by omega) (by omega)]; exact qs)]
          refine (tail true ?_).mp (fun v hv => by cases v <;> exact hv)
          unfold opw
          rw [decide_eq_true (Or.inr ⟨qg, qs⟩)]
      · rw [if_pos (fun z => qg (eqg.mp z))]
        refine (tail false ?_).mp (fun v hv => by cases v <;> exact hv)
        unfold opw
        symm
        rw [decide_eq_false]
        rintro (z | z)
        · exact q0 z
        · exact qg z.1
  · obtain ⟨z1, z2, M2⟩ := v
    obtain ⟨v1, v2, v3⟩ := hv
    dsimp only at v1 v2 v3
    subst v1
    subst v2
    have hM2 : MW M2 r W H := ⟨hM.1.mm (v3.2.2 250 (by decide) (by decide)), hM.2⟩
    show An (s_229_63 249 (zI (t : Nat)) (zI p) (zI (g : Nat)) (zI (i : Nat)) (zI (u : Nat)) (zI ((fo (ent W (fun c => r (t + c)) g p u) (W * H) S).2.length : Nat)) (zI ((W * H : Nat) : Int)) M2) _
    unfold s_229_63
    rw [m193 hM2]
    simp only [obs]
    rw [if_pos (by rw [zI_le (by omega) (by omega) (by omega) (by omega)]; omega), wbs, zl_1, zI_add]
    exact An.so (Or.inl ⟨M2, rfl, v3⟩)
theorem m229 {M : Mm} (hM : MW M r W H) {t : Nat} (ht : t + 64 ≤ 584) (hb : BD W H (fun c => r (t + c))) {p : Int} (p1 : 1 ≤ p) (p2 : p ≤ 12) {f g : Nat} (hf : f < W * H) (hg : g < W * H) :
    An (d_229 249 (zI (t : Nat)) (zI p) (zI (f : Nat)) (zI (g : Nat)) M) (fun q => q.1 = zI ((bf W H (fun c => r (t + c)) g p f 64).1 g) ∧ ∀ a, a ≠ 260 → a ≠ 261 → q.2 a = M a) := by
  have hw := hM.2.2.2
  have hN := WH_n hw
  have G := fun k => bf_G (W := W) (H := H) (b := fun c => r (t + c)) (g := g) (p := p) (f := f) hf (k := k)
  have lp : ∀ m2 : Mm, RS M m2 (W * H) (bf W H (fun c => r (t + c)) g p f 0) → An (d_229_44 249 (zI (t : Nat)) (zI p) (zI (g : Nat)) 1 0 m2) (fun q => q.1 = zI ((bf W H (fun c => r (t + c)) g p f 64).1 g) ∧ ∀ a, a ≠ 260 → a ≠ 261 → q.2 a = M a) := by
    intro m2 h2
    have fin : ∀ (k : Nat) (M2 : Mm), k ≤ 64 → RS M M2 (W * H) (bf W H (fun c => r (t + c)) g p f k) → ¬ k < (bf W H (fun c => r (t + c)) g p f k).2.length → An (d_229_221 249 (zI (g : Nat)) M2) (fun q => q.1 = zI ((bf W H (fun c => r (t + c)) g p f 64).1 g) ∧ ∀ a, a ≠ 260 → a ≠ 261 → q.2 a = M a) := fun k M2 hk hM2 hl => by
      unfold d_229_221
      rw [m_r13, n_260, if_pos (in_k (by omega) (by decide)), z_ix (by omega), hM2.1 g hg]
      have := bf_st hl (j := 64 - k)
      rw [show k + (64 - k) = 64 by omega] at this
      rw [this]
      exact An.so ⟨rfl, hM2.2.2⟩
    unfold d_229_44
    refine it_inv (fun k (v : Int32 × Int32 × Mm) => v.1 = zI ((bf W H (fun c => r (t + c)) g p f k).2.length : Nat) ∧ v.2.1 = zI (k : Nat) ∧ RS M v.2.2 (W * H) (bf W H (fun c => r (t + c)) g p f k)) _ 64 ⟨rfl, rfl, h2⟩ (fun k hk v hv => ?_) (fun v hv => ?_)
    · obtain ⟨z1, z2, M2⟩ := v
      obtain ⟨v1, v2, v3⟩ := hv
      dsimp only at v1 v2 v3
      subst v1
      subst v2
      have Gk := G k
      have ll := Gk.len
      show An (s_229_44 249 (zI (t : Nat)) (zI p) (zI (g : Nat)) (zI ((bf W H (fun c => r (t + c)) g p f k).2.length : Nat)) (zI (k : Nat)) M2) _
      unfold s_229_44
      by_cases q : k < (bf W H (fun c => r (t + c)) g p f k).2.length
      · obtain ⟨u1, u2⟩ := Gk.2.2 k q
        have ub := (Gk.1 ((bf W H (fun c => r (t + c)) g p f k).2.getD k 0)).2
        rw [if_neg (by rw [zI_le (by omega) (by omega) (by omega) (by omega)]; omega), m_r14, n_261, if_pos (in_k hk (by decide)), z_ix (by omega), v3.2.1 k q, wbs]
        refine (m229i hM ht hb p1 p2 (k := ((k + 1 : Nat) : Int)) (by omega) (Gk.mo (by omega)) v3 u1 u2 (by omega) hg (i := k) (by omega) (A := (bf W H (fun c => r (t + c)) g p f 64).1 g) (fun j hj hne => bf_A hk q hj hne)).mp (fun v hv => ?_)
        rcases hv with ⟨m', e, h'⟩ | ⟨m', e, h'⟩
        · rw [e]
          have ek : bf W H (fun c => r (t + c)) g p f (k + 1) = inn W H (fun c => r (t + c)) g p ((bf W H (fun c => r (t + c)) g p f k).2.getD k 0) (bf W H (fun c => r (t + c)) g p f k) := if_pos q
          refine ⟨?_, rfl, ?_⟩
          · rw [ek]
          · rw [ek]; exact h'
        · rw [e]
          exact ⟨rfl, h'⟩
      · rw [if_pos (by rw [zI_le (by omega) (by omega) (by omega) (by omega)]; omega)]
        exact An.mo ((fin k M2 (by omega) v3 q).mp (fun v hv => hv))
    · obtain ⟨z1, z2, M2⟩ := v
      obtain ⟨v1, v2, v3⟩ := hv
      dsimp only at v1 v2 v3
      subst v1
      subst v2
      have ll := (G 64).len
      show An (s_229_44 249 (zI (t : Nat)) (zI p) (zI (g : Nat)) (zI ((bf W H (fun c => r (t + c)) g p f 64).2.length : Nat)) (zI ((64 : Nat) : Int)) M2) _
      unfold s_229_44
      rw [if_pos (by rw [zI_le (by omega) (by omega) (by omega) (by omega)]; omega)]
      exact An.mo ((fin 64 M2 (by omega) v3 (by omega)).mp (fun v hv => hv))
  unfold d_229 d_229_3
  rw [zl_0]
  refine it_inv (fun j (u : Int32 × Mm) => u.1 = zI (j : Nat) ∧ (∀ k, k < j → u.2 260 k = -1) ∧ ∀ a, a ≠ 260 → u.2 a = M a) _ 64 ⟨rfl, fun k hk => absurd hk (Nat.not_lt_zero k), fun _ _ => rfl⟩ (fun j hj u hu => ?_) (fun u hu => ?_)
  · obtain ⟨z, M2⟩ := u
    obtain ⟨u1, u2, u3⟩ := hu
    dsimp only at u1 u2 u3
    subst u1
    show An (s_229_3 249 (zI (t : Nat)) (zI p) (zI (f : Nat)) (zI (g : Nat)) (zI (j : Nat)) M2) _
    unfold s_229_3
    rw [if_neg (by rw [zl_64, zI_le (by omega) (by omega) (by omega) (by omega)]; omega), m_r13, n_260, if_pos (in_k hj (by decide)), z_ix (by omega)]
    simp only [wbs]
    refine An.so ⟨by rw [zl_1, zI_add]; rfl, fun k hk => ?_, fun a ha => by dsimp only; rw [wr_ne ha]; exact u3 a ha⟩
    dsimp only
    by_cases e : k = j
    · rw [e, wr_eq]
    · rw [wr_nk e]; exact u2 k (by omega)
  · obtain ⟨z, M2⟩ := u
    obtain ⟨u1, u2, u3⟩ := hu
    dsimp only at u1 u2 u3
    subst u1
    show An (s_229_3 249 (zI (t : Nat)) (zI p) (zI (f : Nat)) (zI (g : Nat)) (zI ((64 : Nat) : Int)) M2) _
    unfold s_229_3 d_229_24
    rw [if_pos (by decide), m_r13, m_r14, n_260, n_261, if_pos (in_k (by omega) (by decide)), z_ix (by omega), wbs, if_pos (by decide), wbs]
    refine An.mo ((lp _ ⟨fun c hc => ?_, fun i hi => ?_, fun a a1 a2 => by rw [wr_ne a2, wr_ne a1]; exact u3 a a1⟩).mp (fun v hv => hv))
    · rw [wr_ne (by decide), wr_at]
      show _ = zI (if c = f then 0 else -1)
      by_cases e : c = f
      · rw [if_pos e, if_pos e]; rfl
      · rw [if_neg e, if_neg e, u2 c (by omega)]; decide
    · have : i = 0 := Nat.lt_one_iff.mp hi
      subst this
      rw [show ix (0 : Int32) = 0 from by decide, wr_eq]
      rfl
theorem P_17 (hn : n ≤ 512) (hI : Inv n m) : ∀ (a1 a2 a3 a4 a5 : Int32), PR n m (d_323 20 a1 a2 a3 a4 a5 266 m) (fun m1 => d_230 249 a1 a2 a3 a4 a5 m1) := by
  intro a x y X Y
  obtain ⟨a, rfl, ha⟩ := zI_ex a
  obtain ⟨x, rfl, hx⟩ := zI_ex x
  obtain ⟨y, rfl, hy⟩ := zI_ex y
  obtain ⟨X, rfl, hX⟩ := zI_ex X
  obtain ⟨Y, rfl, hY⟩ := zI_ex Y
  obtain ⟨r, W, H, hG⟩ := hI.2.2.1
  have hW := iG_w hG
  have hW' := hW
  obtain ⟨w1, w2, w3, w4⟩ := hW'
  have no : ∀ M, d_230_37 249 (zI a) (zI x) (zI y) (zI X) (zI Y) 249 false (wr M 249 0 (zI 0)) = some (0, wr M 249 0 2) := fun M => by
    unfold d_230_37
    simp only [m184, obs, ifn, wr_wr, Bool.false_eq_true]
  by_cases qa : a = 0 ∨ a = 1
  · obtain ⟨s, hs, rfl⟩ := sd01 qa
    by_cases qi : inC W H x y ∧ inC W H X Y
    · have i1 := qi.1
      have i2 := qi.2
      have hb := (iG_b hG hs).1
      have bp : 0 ≤ r (24 + 64 * s + (x.toNat + W * y.toNat)) ∧ r (24 + 64 * s + (x.toNat + W * y.toNat)) ≤ 12 := hb x.toNat y.toNat (by omega) (by omega)
      have cF := cell_64 hW (x := x.toNat) (y := y.toNat) (by omega) (by omega)
      have cG := cell_64 hW (x := X.toNat) (y := Y.toNat) (by omega) (by omega)
      have cF' := cell_lt (W := W) (H := H) (x := x.toNat) (y := y.toNat) (by omega) (by omega)
      have cG' := cell_lt (W := W) (H := H) (x := X.toNat) (y := Y.toNat) (by omega) (by omega)
      refine PR_of hI (code := 0) (v := zI (if r (24 + 64 * s + (x.toNat + W * y.toNat)) = 0 then -1 else (bf W H (wof (fun c => r (24 + 64 * s + c)) (x.toNat + W * y.toNat)) (X.toNat + W * Y.toNat) (r (24 + 64 * s + (x.toNat + W * y.toNat))) (x.toNat + W * y.toNat) 64).1 (X.toNat + W * Y.toNat))) (Or.inl rfl) ?_ (fun m1 qe => ?_)
      · unfold d_323 d_138
        rw [k175y qa, bE_l, k179i hG.2.2 hW hx hy hX hY qi, bE_l, k_r1, c51 gA_23 hs, c12 (by omega) (by omega), c12 (by omega) (by omega), k_r8]
        simp only [obs]
        rw [(iG_a hs).1]
        by_cases q0 : r (24 + 64 * s + (x.toNat + W * y.toNat)) = 0
        · have e : d_116 243 (23 + 1 + 5 * s + 1) (zI ((x.toNat + 8 * y.toNat : Nat) : Int)) (zI ((X.toNat + 8 * Y.toNat : Nat) : Int)) m = some (zI (-1), m) := by
            unfold d_116
            rw [c17 (iG_a hs).2 (by omega), (iG_f hG hs).on hW (by omega) (by omega)]
            simp only [obs]
            rw [q0, if_neg (by decide), show (-1 : Int32) = zI (-1) from by decide]
          rw [e, if_pos q0]
          simp only [obs]
          rw [bE_l]
          exact lq_ok (Qe.rf m)
        · obtain ⟨q, eq, q1, q2⟩ := c116 (iG_a hs).2 (by omega) (iG_f hG hs) hW hb (x := x.toNat) (y := y.toNat) (gx := X.toNat) (gy := Y.toNat) (by omega) (by omega) (by omega) (by omega) (by omega)
          rw [eq, if_neg q0]
          simp only [obs]
          rw [bE_l, q1]
          exact lq_ok (Qe.of (fun a ha => q2 a (by unfold core at ha; omega)))
      · have hG1 := hG.q qe
        have hM := hG1.mw.told (v := zI 0)
        unfold d_230
        rw [m212 ha.1 ha.2, decide_eq_true (by omega)]
        simp only [obs, m183, ift]
        rw [m213 hM hx.1 hx.2 hy.1 hy.2, decide_eq_true i1]
        simp only [obs, ift]
        rw [m213 hM hX.1 hX.2 hY.1 hY.2, decide_eq_true i2]
        simp only [obs, ift]
        unfold d_230_37
        simp only [m184, obs, ift, wr_wr]
        rw [m194, m214n hM i1.1 i1.2.2.1, t24]
        simp only [obs]
        rw [z_ad, if_pos (in_r (by omega)), mr_k (by omega) hM.1, wbs]
        by_cases q0 : r (24 + 64 * s + (x.toNat + W * y.toNat)) = 0
        · rw [if_neg (by rw [q0]; exact fun e => e rfl), if_pos q0, show (-1 : Int32) = zI (-1) from by decide]
          exact rq_t (code := 0) (fun _ => rfl)
        · rw [if_pos (by rw [zl_0, zI_inj (by omega) (by omega) (by omega) (by omega)]; exact q0), if_neg q0, if_pos (in_r (by omega)), wbs, m_r1, z_ix (by omega)]
          have hM8 : MW (wr (wr m1 249 0 (zI 0)) 250 (24 + 64 * s + (x.toNat + W * y.toNat)) 0) (rs r (24 + 64 * s + (x.toNat + W * y.toNat)) 0) W H := ⟨by rw [zl_0]; exact hM.1.put, by rw [rs_ne (by omega)]; exact hM.2.1, by rw [rs_ne (by omega)]; exact hM.2.2.1, hW⟩
          have ef : (fun c => rs r (24 + 64 * s + (x.toNat + W * y.toNat)) 0 (24 + 64 * s + c)) = wof (fun c => r (24 + 64 * s + c)) (x.toNat + W * y.toNat) := by
            funext c
            unfold wof rs
            by_cases e : c = x.toNat + W * y.toNat
            · rw [if_pos (by omega), if_pos e]
            · rw [if_neg (by omega), if_neg e]
          rw [m214n hM8 i2.1 i2.2.2.1]
          simp only [obs]
          have k := m229 hM8 (t := 24 + 64 * s) (by omega) (by rw [ef]; exact BD_wof hb) (p := r (24 + 64 * s + (x.toNat + W * y.toNat))) (by omega) bp.2 cF' cG'
          rw [ef] at k
          refine An.bd k (fun q hq => ?_)
          obtain ⟨q1, q2⟩ := hq
          rw [← m_r1, if_pos (in_r (by omega)), wbs, q1, m_r1]
          have back : ∀ a, a ≠ 260 → a ≠ 261 → wr q.2 250 (24 + 64 * s + (x.toNat + W * y.toNat)) (zI (r (24 + 64 * s + (x.toNat + W * y.toNat)))) a = wr m1 249 0 (zI 0) a := fun a a1 a2 => by
            by_cases e : a = 250
            · subst e
              funext j
              rw [wr_at]
              by_cases ej : j = 24 + 64 * s + (x.toNat + W * y.toNat)
              · rw [if_pos ej, ej]; exact (hM.1 _ (by omega)).symm
              · rw [if_neg ej, q2 250 (by decide) (by decide), wr_nk ej]
            · rw [wr_ne e, q2 a a1 a2, wr_ne e]
          refine rq_ok (code := 0) ?_ (fun _ => rfl) (Qe.told.tr (Qe.of (fun a ha => back a (by unfold core at ha; omega) (by unfold core at ha; omega)))) ?_
          · rw [back 249 (by decide) (by decide), wr_eq]
          · rw [back 266 (by decide) (by decide), wr_ne (by decide)]
    · refine PR_of hI (code := 2) (v := 0) (Or.inr (Or.inr (Or.inl rfl))) ?_ (fun m1 qe => ?_)
      · unfold d_323 d_138
        rw [k175y qa, bE_l, k179o hG.2.2 hW hx hy hX hY qi, bE_r, bE_r, if_neg (by decide), if_pos rfl]
        exact lq_ex (c := 2) (by decide) (Qe.rf m)
      · have hM := (hG.q qe).mw.told (v := zI 0)
        unfold d_230
        rw [m212 ha.1 ha.2, decide_eq_true (by omega)]
        simp only [obs, m183, ift]
        rw [m213 hM hx.1 hx.2 hy.1 hy.2]
        simp only [obs]
        have z2 : (2 : Int32) = zI 2 := rfl
        by_cases q1 : inC W H x y
        · rw [decide_eq_true q1, if_pos rfl, m213 hM hX.1 hX.2 hY.1 hY.2, decide_eq_false (fun e => qi ⟨q1, e⟩)]
          simp only [obs, ifn, Bool.false_eq_true]
          rw [no, z2]
          exact rq_t (code := 2) (fun e => by cases e)
        · rw [decide_eq_false q1, if_neg (by decide), no, z2]
          exact rq_t (code := 2) (fun e => by cases e)
  · refine PR_of hI (code := 1) (v := 0) (Or.inr (Or.inl rfl)) ?_ (fun m1 qe => ?_)
    · unfold d_323 d_138
      rw [k175n ha.1 ha.2 qa, bE_r, bE_r, if_pos rfl]
      exact lq_ex (c := 1) (by decide) (Qe.rf m)
    · unfold d_230
      rw [m212 ha.1 ha.2, decide_eq_false (by omega)]
      simp only [obs, m183, ifn, Bool.false_eq_true]
      exact rq_t (code := 1) (fun e => by cases e)
end WC
