/-! The way of a piece, by the class. -/
section WB
variable {m m0 : Mm} {W H : Nat} {b : Nat → Int} {p : Int}
theorem w_r0 : sh_r 243 0 = 244 := by decide +kernel
theorem w_r1 : sh_r 243 1 = 246 := by decide +kernel
theorem w_r2 : sh_r 243 2 = 247 := by decide +kernel
theorem w_n1 : sh_n 246 = 64 := by decide +kernel
theorem w_n2 : sh_n 247 = 64 := by decide +kernel
theorem fA_244 : fA 244 := ⟨by decide +kernel, by decide +kernel⟩
/-- the class shows a state of the search -/
def CS (m0 m : Mm) (W H : Nat) (b : Nat → Int) (S : (Nat → Int) × List Nat) : Prop := FR m 244 W H b ∧ (∀ x y, x < 8 → y < 8 → m 246 (x + 8 * y) = zI (if x < W ∧ y < H then S.1 (x + W * y) else -1)) ∧ m 243 3 = zI (S.2.length : Nat) ∧ (∀ i, i < S.2.length → m 247 i = zI (gio W (S.2.getD i 0))) ∧ ∀ a, a < 243 ∨ 247 < a → m a = m0 a
theorem c117 (hw : WH W H) (hb : BD W H b) {S : (Nat → Int) × List Nat} (h : CS m0 m W H b S) {x y : Nat} (hx : x < W) (hy : y < H) (e : S.1 (x + W * y) = -1) {v : Int} (hl : S.2.length < 64) :
    An (d_117 243 (zI ((x + 8 * y : Nat) : Int)) (zI v) m) (fun m' => CS m0 m' W H b ((fun j => if j = x + W * y then v else S.1 j), if b (x + W * y) = 0 then S.2 ++ [x + W * y] else S.2)) := by
  have hw' := hw
  obtain ⟨w1, w2, w3, w4⟩ := hw'
  obtain ⟨h1, h2, h3, h4, h5⟩ := h
  have bp := hb x y hx hy
  have d0 := h2 x y (by omega) (by omega)
  rw [if_pos ⟨hx, hy⟩, e] at d0
  unfold d_117
  rw [if_neg (by rw [zl_0, zI_lt (by omega) (by omega) (by omega) (by omega)]; omega), if_neg (by rw [zl_64, zI_le (by omega) (by omega) (by omega) (by omega)]; omega), w_r1, w_n1, if_pos (in_k (by omega) (by decide)), z_ix (by omega), d0, if_pos (by decide), if_pos (in_k (by omega) (by decide)), wbs, w_r0]
  have F1 : FR (wr m 246 (x + 8 * y) (zI v)) 244 W H b := h1.mm (wr_ne (by decide)) (wr_ne (by decide))
  have D1 : ∀ u w, u < 8 → w < 8 → wr m 246 (x + 8 * y) (zI v) 246 (u + 8 * w) = zI (if u < W ∧ w < H then (if u + W * w = x + W * y then v else S.1 (u + W * w)) else -1) := fun u w hu hw => by
    rw [wr_at]
    by_cases q : u + 8 * w = x + 8 * y
    · have e1 : u = x := by omega
      have e2 : w = y := by omega
      subst e1
      subst e2
      rw [if_pos rfl, if_pos ⟨hx, hy⟩, if_pos rfl]
    · rw [if_neg q, h2 u w hu hw]
      by_cases q2 : u < W ∧ w < H
      · rw [if_pos q2, if_pos q2, if_neg (fun z => q (by have := (cell_in q2.1 hx).mp z; omega))]
      · rw [if_neg q2, if_neg q2]
  rw [c17 fA_244 (by omega), F1.on hw hx hy]
  simp only [obs]
  by_cases q0 : b (x + W * y) = 0
  · rw [if_neg (by rw [q0]; decide), wr_ne (show 243 ≠ 246 by decide), h3, if_neg (by rw [zl_64, zI_le (by omega) (by omega) (by omega) (by omega)]; omega), w_r2, w_n2, if_pos (in_k hl (by decide)), z_ix (by omega), wbs, wbs, wr_ne (show 243 ≠ 247 by decide), wr_ne (show 243 ≠ 246 by decide), h3, zl_1, zI_add]
    simp only [if_pos q0]
    refine An.so ⟨F1.mm (by rw [wr_ne (by decide), wr_ne (by decide)]) (by rw [wr_ne (by decide), wr_ne (by decide)]), fun u w hu hw => ?_, ?_, fun i hi => ?_, fun a ha => ?_⟩
    · rw [wr_ne (by decide), wr_ne (by decide)]; exact D1 u w hu hw
    · rw [wr_eq, List.length_append, List.length_singleton]; rfl
    · dsimp only at hi ⊢
      rw [List.length_append, List.length_singleton] at hi
      rw [wr_ne (by decide), gdn_app hi]
      by_cases ei : i = S.2.length
      · rw [ei, wr_eq, if_pos rfl]
        unfold gio
        rw [(cell_md hx).1, (cell_md hx).2]
      · rw [wr_nk ei, wr_ne (by decide), if_neg ei]; exact h4 i (by omega)
    · rw [wr_ne (by omega), wr_ne (by omega), wr_ne (by omega)]; exact h5 a ha
  · rw [if_pos (by rw [show (-1 : Int32) = zI (-1) from by decide, zI_inj (by omega) (by omega) (by omega) (by omega)]; omega)]
    simp only [if_neg q0]
    refine An.so ⟨F1, D1, by rw [wr_ne (by decide)]; exact h3, fun i hi => by rw [wr_ne (by decide)]; exact h4 i hi, fun a ha => by rw [wr_ne (by omega)]; exact h5 a ha⟩
theorem c118 (hw : WH W H) (hb : BD W H b) (p1 : 1 ≤ p) (p2 : p ≤ 12) {S : (Nat → Int) × List Nat} {k : Int} (k64 : k ≤ 1000) (hG : GI (W * H) k S) (h : CS m0 m W H b S) {u : Nat} (hu : u < W * H) (u0 : 0 ≤ S.1 u) (u1 : S.1 u + 1 ≤ k) {gx gy : Nat} (hgx : gx < W) (hgy : gy < H) :
    An (d_118 243 (zI (p - 1)) (zI (gio W u)) (zI ((gx + 8 * gy : Nat) : Int)) m) (fun m' => CS m0 m' W H b (inn W H b (gx + W * gy) p u S)) := by
  have hw' := hw
  obtain ⟨w1, w2, w3, w4⟩ := hw'
  obtain ⟨x, y, hx, hy, eu, eu1, eu2, egi⟩ := gio_c hw hu
  rw [egi]
  have sp : sd p = if 6 ≤ p - 1 then 1 else 0 := by
    unfold sd
    rw [if_neg (by omega)]
    by_cases q : p ≤ 6
    · rw [if_pos q, if_neg (by omega)]
    · rw [if_neg q, if_pos (by omega)]
  have main : ∀ B : Bool, bi B = zI (sd p) → An (d_118_27 243 (zI (p - 1)) (zI ((x + 8 * y : Nat) : Int)) (zI ((gx + 8 * gy : Nat) : Int)) B 0 m) (fun m' => CS m0 m' W H b (inn W H b (gx + W * gy) p u S)) := by
    intro B hB
    unfold d_118_27 inn
    rw [← fo_fc hw, zl_0]
    refine it_inv (fun j (v : Int32 × Mm) => v.1 = zI (j : Nat) ∧ CS m0 v.2 W H b (fo (fc W H (ent W b (gx + W * gy) p u)) j S)) _ 64 ⟨rfl, h⟩ (fun j hj v hv => ?_) (fun v hv => ?_)
    · obtain ⟨z, M⟩ := v
      obtain ⟨v1, v2⟩ := hv
      dsimp only at v1 v2
      subst v1
      obtain ⟨g1, g2⟩ := fo_Gc (b := b) (g := gx + W * gy) (p := p) hw hG u0 u1 (j := j) (by omega)
      rw [fo_s]
      generalize fo (fc W H (ent W b (gx + W * gy) p u)) j S = Sj at *
      have v2' := v2
      obtain ⟨c1, c2, c3, c4, c5⟩ := v2'
      obtain ⟨X, Y, hX, hY, e⟩ := xy_of hj
      have next : ∀ S' : (Nat → Int) × List Nat, ∀ M' : Mm, CS m0 M' W H b S' → S' = fc W H (ent W b (gx + W * gy) p u) j Sj → An (wb (zI ((j : Nat) : Int) + 1) fun y5 => some (Sum.inl (y5, M') : (Int32 × Mm) ⊕ Mm)) (fun r => match r with | .inl s' => s'.1 = zI ((j + 1 : Nat) : Int) ∧ CS m0 s'.2 W H b (fc W H (ent W b (gx + W * gy) p u) j Sj) | .inr v => CS m0 v W H b (fo (fc W H (ent W b (gx + W * gy) p u)) 64 S)) := fun S' M' hM' hS' => by
        rw [wbs]
        refine An.so ⟨by rw [zl_1, zI_add]; rfl, ?_⟩
        rw [← hS']
        exact hM'
      have hx7 : zI (p - 1) = zI (p - 1) := rfl
      show An (s_118_27 243 (zI (p - 1)) (zI ((x + 8 * y : Nat) : Int)) (zI ((gx + 8 * gy : Nat) : Int)) B (zI ((j : Nat) : Int)) M) _
      unfold s_118_27
      rw [if_neg (by rw [zl_64, zI_le (by omega) (by omega) (by omega) (by omega)]; omega), w_r0, c17 fA_244 hj]
      simp only [obs]
      by_cases q : X < W ∧ Y < H
      · have bp := hb X Y q.1 q.2
        have e1 : M 245 j = zI (b (X + W * Y) - 1) := by rw [e]; exact c1.on hw q.1 q.2
        have ed : M 246 j = zI (Sj.1 (X + W * Y)) := by rw [e, c2 X Y hX hY, if_pos q]
        have efc : fc W H (ent W b (gx + W * gy) p u) j Sj = ent W b (gx + W * gy) p u (X + W * Y) Sj := by rw [e]; exact fc_on hw q.1 q.2
        have bd := g1.1 (X + W * Y)
        have bu := g1.1 u
        have eS : ∀ (a b' : Int32), (a = -1 ↔ a = zI (-1)) := fun a _ => by rw [show (-1 : Int32) = zI (-1) from by decide]
        have dist : zI (Sj.1 (X + W * Y)) = -1 ↔ Sj.1 (X + W * Y) = -1 := by
          rw [show (-1 : Int32) = zI (-1) from by decide, zI_inj (by omega) (by omega) (by omega) (by omega)]
        have yes : ∀ tk : Bool, opw b (gx + W * gy) p (X + W * Y) = true → tk = decide (¬ b (X + W * Y) = 0) → (b (X + W * Y) - 1 = -1 ↔ tk = false) → An (d_118_72 243 (zI (p - 1)) (zI ((x + 8 * y : Nat) : Int)) (zI ((gx + 8 * gy : Nat) : Int)) B (zI ((j : Nat) : Int)) (zI (b (X + W * Y) - 1)) true M) (fun r => match r with | .inl s' => s'.1 = zI ((j + 1 : Nat) : Int) ∧ CS m0 s'.2 W H b (fc W H (ent W b (gx + W * gy) p u) j Sj) | .inr v => CS m0 v W H b (fo (fc W H (ent W b (gx + W * gy) p u)) 64 S)) := by
          intro tk ho htk hv
          have tail : An (d_118_133 243 (zI (p - 1)) (zI ((x + 8 * y : Nat) : Int)) (zI ((gx + 8 * gy : Nat) : Int)) B (zI ((j : Nat) : Int)) 244 (zI (p - 1)) (zI ((x + 8 * y : Nat) : Int)) (zI ((j : Nat) : Int)) tk M) (fun r => match r with | .inl s' => s'.1 = zI ((j + 1 : Nat) : Int) ∧ CS m0 s'.2 W H b (fc W H (ent W b (gx + W * gy) p u) j Sj) | .inr v => CS m0 v W H b (fo (fc W H (ent W b (gx + W * gy) p u)) 64 S)) ∨ Sj.1 (X + W * Y) ≠ -1 := by
            by_cases ne : Sj.1 (X + W * Y) = -1
            · refine Or.inl ?_
              unfold d_118_133
              have e22 := c22 fA_244 c1 hw hb p1 p2 hx hy q.1 q.2 (tk := tk)
              rw [← e] at e22
              rw [e22]
              simp only [obs]
              have eent : ent W b (gx + W * gy) p u (X + W * Y) Sj = if rc W b p x y X Y tk = true then ((fun i => if i = X + W * Y then Sj.1 u + 1 else Sj.1 i), if b (X + W * Y) = 0 then Sj.2 ++ [X + W * Y] else Sj.2) else Sj := by
                unfold ent
                rw [eu1, eu2, (cell_md q.1).1, (cell_md q.1).2, ← htk]
                by_cases qr : rc W b p x y X Y tk = true
                · rw [if_pos ⟨ho, ne, qr⟩, if_pos qr]
                · rw [if_neg (fun z => qr z.2.2), if_neg qr]
              by_cases qr : rc W b p x y X Y tk = true
              · rw [if_pos qr, w_r1, w_n1, if_pos (in_k (by omega) (by decide)), z_ix (by omega), c2 x y (by omega) (by omega), if_pos ⟨hx, hy⟩, ← eu, zl_1, zI_add]
                have ll := ent_ct g1 (u := u) (c := X + W * Y) (cell_lt q.1 q.2) ne (v := Sj.1 u + 1) (by omega)
                have l2 := g1.2.1
                have l3 := ctn_n (q := fun j => decide (¬ (if j = X + W * Y then Sj.1 u + 1 else Sj.1 j) = -1)) (n := W * H)
                have hN := WH_n hw
                have k117 := c117 hw hb v2 q.1 q.2 ne (v := Sj.1 u + 1) (by omega)
                rw [← e] at k117
                refine k117.bd (fun m10 h10 => ?_)
                have nx := next _ m10 h10 (by rw [efc, eent, if_pos qr])
                rw [zl_1] at nx
                exact nx.mp (fun v hv => by cases v <;> exact hv)
              · rw [if_neg qr]
                exact (next Sj M v2 (by rw [efc, eent, if_neg qr])).mp (fun v hv => by cases v <;> exact hv)
            · exact Or.inr ne
          have hwf := c15 c1 hw (x := (X : Nat)) (y := (Y : Nat)) (by omega) (by omega) (by omega) (by omega)
          unfold d_118_72
          rw [e, c13 hX, c14 hX hY, ← e]
          simp only [obs]
          rw [w_r0, hwf, decide_eq_true (by omega)]
          simp only [obs, ift]
          rw [w_r1, w_n1, if_pos (in_k hj (by decide)), z_ix (by omega), ed]
          by_cases ne : Sj.1 (X + W * Y) = -1
          · rw [if_neg (fun z => z (dist.mpr ne))]
            have tl := tail.resolve_right (fun z => z ne)
            by_cases q0 : b (X + W * Y) - 1 = -1
            · rw [q0, if_pos (by decide)]
              have t0 := hv.mp q0
              rw [t0] at tl
              exact tl.mp (fun v hv => by cases v <;> exact hv)
            · rw [if_neg (by rw [show (-1 : Int32) = zI (-1) from by decide, zI_inj (by omega) (by omega) (by omega) (by omega)]; exact q0)]
              have t1 : tk = true := by
                cases tk
                · exact absurd (hv.mpr rfl) q0
                · rfl
              rw [t1] at tl
              exact tl.mp (fun v hv => by cases v <;> exact hv)
          · rw [if_pos (fun z => ne (dist.mp z))]
            refine (next Sj M v2 ?_).mp (fun v hv => by cases v <;> exact hv)
            rw [efc]
            unfold ent
            rw [if_neg (fun z => ne z.2.1)]
        have no : opw b (gx + W * gy) p (X + W * Y) = false → An (d_118_72 243 (zI (p - 1)) (zI ((x + 8 * y : Nat) : Int)) (zI ((gx + 8 * gy : Nat) : Int)) B (zI ((j : Nat) : Int)) (zI (b (X + W * Y) - 1)) false M) (fun r => match r with | .inl s' => s'.1 = zI ((j + 1 : Nat) : Int) ∧ CS m0 s'.2 W H b (fc W H (ent W b (gx + W * gy) p u) j Sj) | .inr v => CS m0 v W H b (fo (fc W H (ent W b (gx + W * gy) p u)) 64 S)) := by
          intro ho
          have hwf := c15 c1 hw (x := (X : Nat)) (y := (Y : Nat)) (by omega) (by omega) (by omega) (by omega)
          unfold d_118_72
          rw [e, c13 hX, c14 hX hY, ← e]
          simp only [obs]
          rw [w_r0, hwf]
          simp only [obs, Bool.false_eq_true, ifn]
          refine (next Sj M v2 ?_).mp (fun v hv => by cases v <;> exact hv)
          rw [efc]
          unfold ent
          rw [ho, if_neg (fun z => Bool.noConfusion z.1)]
        have goal : zI ((j : Nat) : Int) = zI ((gx + 8 * gy : Nat) : Int) ↔ X + W * Y = gx + W * gy := by
          rw [zI_inj (by omega) (by omega) (by omega) (by omega), cell_in q.1 hgx, e]
          omega
        rw [e1]
        by_cases q0 : b (X + W * Y) = 0
        · rw [if_pos (by rw [q0]; decide)]
          exact (yes false (by unfold opw; rw [decide_eq_true (Or.inl q0)]) (by rw [decide_eq_false (fun z => z q0)]) (by rw [q0]; exact ⟨fun _ => rfl, fun _ => by decide⟩)).mp (fun v hv => by cases v <;> exact hv)
        · rw [if_neg (by rw [show (-1 : Int32) = zI (-1) from by decide, zI_inj (by omega) (by omega) (by omega) (by omega)]; omega)]
          by_cases qg : X + W * Y = gx + W * gy
          · rw [if_neg (fun z => z (goal.mpr qg)), hB, c19 bp.1 bp.2 (by rw [sp]; split <;> omega) (by rw [sp]; split <;> omega)]
            simp only [obs]
            by_cases qs : sd (b (X + W * Y)) = sd p
            · rw [decide_eq_true qs, if_pos rfl]
              refine (no ?_).mp (fun v hv => by cases v <;> exact hv)
              unfold opw
              rw [decide_eq_false]
              rintro (z | z)
              · exact q0 z
              · exact z.2 qs
            · rw [decide_eq_false qs, if_neg (by decide)]
              refine (yes true ?_ (by rw [decide_eq_true q0]) ⟨fun z => absurd (by omega) q0, fun z => Bool.noConfusion z⟩).mp (fun v hv => by cases v <;> exact hv)
              unfold opw
              rw [decide_eq_true (Or.inr ⟨qg, qs⟩)]
          · rw [if_pos (fun z => qg (goal.mp z))]
            refine (no ?_).mp (fun v hv => by cases v <;> exact hv)
            unfold opw
            rw [decide_eq_false]
            rintro (z | z)
            · exact q0 z
            · exact qg z.1
      · have e1 : M 245 j = zI (-1) := by rw [e]; exact c1.off hX hY q
        have hwf := c15 c1 hw (x := (X : Nat)) (y := (Y : Nat)) (by omega) (by omega) (by omega) (by omega)
        rw [e1, if_pos (by decide)]
        unfold d_118_72
        rw [e, c13 hX, c14 hX hY, ← e]
        simp only [obs]
        rw [w_r0, hwf, decide_eq_false (by omega)]
        simp only [obs, ift, ifn, Bool.false_eq_true]
        refine (next Sj M v2 ?_).mp (fun v hv => by cases v <;> exact hv)
        rw [e]
        exact (fc_off hX q).symm
    · obtain ⟨z, M⟩ := v
      obtain ⟨v1, v2⟩ := hv
      dsimp only at v1 v2
      subst v1
      show An (s_118_27 243 (zI (p - 1)) (zI ((x + 8 * y : Nat) : Int)) (zI ((gx + 8 * gy : Nat) : Int)) B (zI ((64 : Nat) : Int)) M) _
      unfold s_118_27
      rw [if_pos (by decide)]
      exact An.so v2
  unfold d_118
  rw [if_neg (by rw [zl_0, zI_lt (by omega) (by omega) (by omega) (by omega)]; omega), if_pos (by rw [zl_64, zI_lt (by omega) (by omega) (by omega) (by omega)]; omega)]
  by_cases q6 : 6 ≤ p - 1
  · rw [if_pos (by rw [zl_6, zI_le (by omega) (by omega) (by omega) (by omega)]; exact q6)]
    exact main true (by rw [sp, if_pos q6]; rfl)
  · rw [if_neg (by rw [zl_6, zI_le (by omega) (by omega) (by omega) (by omega)]; exact q6)]
    exact main false (by rw [sp, if_neg q6]; rfl)
/-- an array filled -/
theorem c349 {a : Nat} {v : Int32} (ha : sh_n a ≤ 1000) : An (d_187 a v m) (fun M => (∀ k, k < sh_n a → M a k = v) ∧ ∀ c, c ≠ a → M c = m c) := by
  unfold d_187 d_187_5
  rw [zI_on, zl_0]
  refine it_inv (fun j (u : Int32 × Mm) => u.1 = zI (j : Nat) ∧ (∀ k, k < j → u.2 a k = v) ∧ ∀ c, c ≠ a → u.2 c = m c) _ (sh_n a) ⟨rfl, fun k hk => absurd hk (Nat.not_lt_zero k), fun _ _ => rfl⟩ (fun j hj u hu => ?_) (fun u hu => ?_)
  · obtain ⟨z, M⟩ := u
    obtain ⟨u1, u2, u3⟩ := hu
    dsimp only at u1 u2 u3
    subst u1
    show An (s_187_5 a v (zI ((sh_n a : Nat) : Int)) (zI (j : Nat)) M) _
    unfold s_187_5
    rw [if_neg (by rw [zI_le (by omega) (by omega) (by omega) (by omega)]; omega), if_pos (in_k hj (by omega)), z_ix (by omega)]
    simp only [wbs]
    refine An.so ⟨by rw [zl_1, zI_add]; rfl, fun k hk => ?_, fun c hc => by dsimp only; rw [wr_ne hc]; exact u3 c hc⟩
    dsimp only
    by_cases e : k = j
    · rw [e, wr_eq]
    · rw [wr_nk e]; exact u2 k (by omega)
  · obtain ⟨z, M⟩ := u
    obtain ⟨u1, u2, u3⟩ := hu
    dsimp only at u1 u2 u3
    subst u1
    show An (s_187_5 a v (zI ((sh_n a : Nat) : Int)) (zI ((sh_n a : Nat) : Int)) M) _
    unfold s_187_5
    rw [if_pos (by rw [zI_le (by omega) (by omega) (by omega) (by omega)]; omega)]
    exact An.so ⟨u2, u3⟩
end WB
