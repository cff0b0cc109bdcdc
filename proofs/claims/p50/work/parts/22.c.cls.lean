/-! What the class changes in a game: boards and what is kept. -/
section CU
variable {m : Mm} {W H g : Nat} {r : Nat → Int}
section BB
variable {β : Nat} {bn bb : Nat → Int} {C S fr to : Int}
theorem c3 (hb : bA β) (h : BV m β W H bn bb C S fr to) (hw : WH W H) (h1 : BD W H bn) {s : Nat} {x y X Y : Nat} (hx : x < W) (hy : y < H) (hX : X < W) (hY : Y < H) :
    An (d_3 β (zI (s : Nat)) (zI ((x + 8 * y : Nat) : Int)) (zI ((X + 8 * Y : Nat) : Int)) m) (fun m' => BV m' β W H (mb W H bn x y X Y) bn (C + 1) (s : Nat) ((x + 8 * y : Nat) : Int) ((X + 8 * Y : Nat) : Int) ∧ ∀ a, a < β ∨ β + 4 < a → m' a = m a) := by
  obtain ⟨a1, a2, a3, a4⟩ := hb
  unfold d_3
  rw [a1, a2]
  refine An.bd (c11 a3 a4 h.1 (by omega)) (fun m1 k1 => ?_)
  refine An.bd (c26 a3 (h.1.mm (k1.2 _ (by omega) (by omega)) (k1.2 _ (by omega) (by omega))) hw h1 hx hy hX hY) (fun m2 k2 => ?_)
  simp only [wbs]
  have eb : m2 β = m β := by rw [k2.2 β (by omega), k1.2 β (by omega) (by omega)]
  refine An.so ⟨⟨k2.1.mm ?_ ?_, k1.1.mm ?_ ?_, ?_, ?_, fun _ => ⟨?_, ?_⟩⟩, fun a ha => ?_⟩
  · rw [wr_ne (by omega), wr_ne (by omega), wr_ne (by omega), wr_ne (by omega)]
  · rw [wr_ne (by omega), wr_ne (by omega), wr_ne (by omega), wr_ne (by omega)]
  · rw [wr_ne (by omega), wr_ne (by omega), wr_ne (by omega), wr_ne (by omega), k2.2 _ (by omega)]
  · rw [wr_ne (by omega), wr_ne (by omega), wr_ne (by omega), wr_ne (by omega), k2.2 _ (by omega)]
  · rw [wr_nk (by decide), wr_nk (by decide), wr_nk (by decide), wr_eq, eb, h.2.2.1, zl_1, zI_add]
  · rw [wr_nk (by decide), wr_nk (by decide), wr_eq]
  · rw [wr_nk (by decide), wr_eq]
  · rw [wr_eq]
  · rw [wr_ne (by omega), wr_ne (by omega), wr_ne (by omega), wr_ne (by omega), k2.2 a (by omega), k1.2 a (by omega) (by omega)]
theorem c4 (hb : bA β) (h : BV m β W H bn bb C S fr to) (hw : WH W H) (h1 : BD W H bb) {x y X Y : Nat} (hx : x < W) (hy : y < H) (hX : X < W) (hY : Y < H) :
    An (d_4 β (zI ((x + 8 * y : Nat) : Int)) (zI ((X + 8 * Y : Nat) : Int)) m) (fun m' => BV m' β W H (mb W H bb x y X Y) bb C S ((x + 8 * y : Nat) : Int) ((X + 8 * Y : Nat) : Int) ∧ ∀ a, a < β ∨ β + 4 < a → m' a = m a) := by
  obtain ⟨a1, a2, a3, a4⟩ := hb
  unfold d_4
  rw [a1, a2]
  refine An.bd (c11 a4 a3 h.2.1 (by omega)) (fun m1 k1 => ?_)
  refine An.bd (c26 a3 k1.1 hw h1 hx hy hX hY) (fun m2 k2 => ?_)
  simp only [wbs]
  have eb : m2 β = m β := by rw [k2.2 β (by omega), k1.2 β (by omega) (by omega)]
  refine An.so ⟨⟨k2.1.mm ?_ ?_, h.2.1.mm ?_ ?_, ?_, ?_, fun _ => ⟨?_, ?_⟩⟩, fun a ha => ?_⟩
  · rw [wr_ne (by omega), wr_ne (by omega)]
  · rw [wr_ne (by omega), wr_ne (by omega)]
  · rw [wr_ne (by omega), wr_ne (by omega), k2.2 _ (by omega), k1.2 _ (by omega) (by omega)]
  · rw [wr_ne (by omega), wr_ne (by omega), k2.2 _ (by omega), k1.2 _ (by omega) (by omega)]
  · rw [wr_nk (by decide), wr_nk (by decide), eb]; exact h.2.2.1
  · rw [wr_nk (by decide), wr_nk (by decide), eb]; exact h.2.2.2.1
  · rw [wr_nk (by decide), wr_eq]
  · rw [wr_eq]
  · rw [wr_ne (by omega), wr_ne (by omega), k2.2 a (by omega), k1.2 a (by omega) (by omega)]
end BB
theorem gi_c {x y : Nat} (hx : x < W) : gi W ((x + W * y : Nat) : Int) = ((x + 8 * y : Nat) : Int) := by
  unfold gi gio
  rw [Int.toNat_natCast, (cell_md hx).1, (cell_md hx).2]
theorem c3g (hg : gA g) (h : GR m g r W H) (hw : WH W H) (hk : rok r) {q s : Nat} (hq : q ≤ 1) (h1 : BD W H (fun c => r (24 + 64 * q + c))) {x y X Y : Nat} (hx : x < W) (hy : y < H) (hX : X < W) (hY : Y < H) :
    An (d_3 (g + 1 + 5 * q) (zI (s : Nat)) (zI ((x + 8 * y : Nat) : Int)) (zI ((X + 8 * Y : Nat) : Int)) m) (fun m' => GR m' g (rb1 W H r q s x y X Y) W H ∧ ∀ a, a < g + 1 + 5 * q ∨ g + 5 + 5 * q < a → m' a = m a) := by
  refine (c3 (gA_b hg hq) (h.bd hq) hw h1 hx hy hX hY).mp (fun m' ⟨k1, k2⟩ => ?_)
  have f : ∀ a, a < g + 1 + 5 * q ∨ g + 5 + 5 * q < a → m' a = m a := fun a ha => k2 a (by omega)
  refine ⟨h.cB hw hk.1 hk.2.1 hk.2.2 hq (fun a a1 a2 a3 => f a (by omega)) (fun j _ hj => rb1_n hj) ?_, f⟩
  obtain ⟨c1, c2, c3, c4⟩ := rb1_c (W := W) (H := H) (r := r) (s := s) (x := x) (y := y) (X := X) (Y := Y) hq
  rw [c1, c2, c3, c4, gi_c hx, gi_c hX]
  refine k1.cg (fun u v hu hv => ?_) (fun u v hu hv => ?_)
  · exact (rb1_a (cell_64 hw hu hv)).symm
  · exact (rb1_b hq (cell_64 hw hu hv)).symm
theorem c4g (hg : gA g) (h : GR m g r W H) (hw : WH W H) (hk : rok r) {q s : Nat} (hq : q ≤ 1) (hS : r (17 + q) = s) (h1 : BD W H (fun c => r (152 + 64 * q + c))) {x y X Y : Nat} (hx : x < W) (hy : y < H) (hX : X < W) (hY : Y < H) :
    An (d_4 (g + 1 + 5 * q) (zI ((x + 8 * y : Nat) : Int)) (zI ((X + 8 * Y : Nat) : Int)) m) (fun m' => GR m' g (rb3 W H r q s x y X Y) W H ∧ ∀ a, a < g + 1 + 5 * q ∨ g + 5 + 5 * q < a → m' a = m a) := by
  refine (c4 (gA_b hg hq) (h.bd hq) hw h1 hx hy hX hY).mp (fun m' ⟨k1, k2⟩ => ?_)
  have f : ∀ a, a < g + 1 + 5 * q ∨ g + 5 + 5 * q < a → m' a = m a := fun a ha => k2 a (by omega)
  refine ⟨h.cB hw hk.1 hk.2.1 hk.2.2 hq (fun a a1 a2 a3 => f a (by omega)) (fun j _ hj => rb3_n hj) ?_, f⟩
  obtain ⟨c1, c2, c3, c4⟩ := rb3_c (W := W) (H := H) (r := r) (s := s) (x := x) (y := y) (X := X) (Y := Y) hq
  rw [c1, c2, c3, c4, gi_c hx, gi_c hX, ← hS]
  refine k1.cg (fun u v hu hv => ?_) (fun u v hu hv => ?_)
  · exact (rb3_a (cell_64 hw hu hv)).symm
  · exact (rb3_b hq (cell_64 hw hu hv)).symm
/-- the board that follows what was read -/
def rfo (W H : Nat) (r : Nat → Int) (q s : Nat) (rd : Int) (x y X Y : Nat) : Nat → Int := if rd = 1 then rb1 W H r q s x y X Y else if rd = 3 then rb3 W H r q s x y X Y else r
theorem RG.fo {k : Int} (h : RG k r W H) {q s : Nat} (hq : q ≤ 1) (hs : s ≤ 1) (hC : r (9 + q) + 1 ≤ 20 * k) {rd : Int} {x y X Y : Nat} (hi : rd = 1 ∨ rd = 3 → x < W ∧ y < H ∧ X < W ∧ Y < H) : RG k (rfo W H r q s rd x y X Y) W H := by
  unfold rfo
  by_cases q1 : rd = 1
  · obtain ⟨i1, i2, i3, i4⟩ := hi (Or.inl q1)
    rw [if_pos q1]; exact h.b1 hq hs hC i1 i2 i3 i4
  · rw [if_neg q1]
    by_cases q3 : rd = 3
    · obtain ⟨i1, i2, i3, i4⟩ := hi (Or.inr q3)
      rw [if_pos q3]; exact h.b3 hq hs i1 i2 i3 i4
    · rw [if_neg q3]; exact h
theorem c8g (hg : gA g) (h : GR m g r W H) (hw : WH W H) (hk : rok r) {q s : Nat} (hq : q ≤ 1) (h1 : BD W H (fun c => r (24 + 64 * q + c))) (h2 : BD W H (fun c => r (152 + 64 * q + c))) {rd : Int} (r0 : 0 ≤ rd) (r3 : rd ≤ 3) (hS : rd = 3 → r (17 + q) = s) {x y X Y : Nat} {a b : Int} (hi : rd = 1 ∨ rd = 3 → (x < W ∧ y < H ∧ X < W ∧ Y < H) ∧ a = ((x + 8 * y : Nat) : Int) ∧ b = ((X + 8 * Y : Nat) : Int)) :
    An (d_8 (g + 1 + 5 * q) (zI rd) (zI (s : Nat)) (zI a) (zI b) m) (fun m' => GR m' g (rfo W H r q s rd x y X Y) W H ∧ ∀ a, a < g + 1 + 5 * q ∨ g + 5 + 5 * q < a → m' a = m a) := by
  unfold d_8 rfo
  by_cases q1 : rd = 1
  · obtain ⟨⟨i1, i2, i3, i4⟩, rfl, rfl⟩ := hi (Or.inl q1)
    rw [if_neg (by rw [q1]; exact fun h => h rfl), if_pos q1]
    exact (c3g hg h hw hk hq h1 i1 i2 i3 i4).bd (fun m' hm' => An.so hm')
  · rw [if_pos (by rw [zl_1, zI_inj (by omega) (by omega) (by omega) (by omega)]; exact q1), if_neg q1]
    by_cases q3 : rd = 3
    · obtain ⟨⟨i1, i2, i3, i4⟩, rfl, rfl⟩ := hi (Or.inr q3)
      rw [if_neg (by rw [q3]; exact fun h => h rfl), if_pos q3]
      exact (c4g hg h hw hk hq (hS q3) h2 i1 i2 i3 i4).bd (fun m' hm' => An.so hm')
    · rw [if_pos (by rw [zl_3, zI_inj (by omega) (by omega) (by omega) (by omega)]; exact q3), if_neg q3]
      exact An.so ⟨h, fun _ _ => rfl⟩
/-- a row opened -/
theorem c70 {q : Nat} {n c : Int} {J : Nat} {P : Nat → Nat → Int} (hq : lA q) (h : LV m q n c J P) (n0 : 0 ≤ n) (hn : n ≤ 20) (hJ : J ≤ 8) :
    An (d_70 q m) (fun m' => m' q 1 = zI (if n = 20 then 20 else n + 1) ∧ m' q 2 = zI (c + 1) ∧ (∀ k j : Nat, (k : Int) + 1 < (if n = 20 then 20 else n + 1) → j < J → m' (q + 1) (8 * k + j) = zI (if n = 20 then P (k + 1) j else P k j)) ∧ ∀ a, a ≠ q → a ≠ q + 1 → m' a = m a) := by
  obtain ⟨a1, a2⟩ := hq
  obtain ⟨h1, h2, h3⟩ := h
  unfold d_70 d_70_39
  rw [h1, a1, a2]
  by_cases e : n = 20
  · rw [if_pos (by rw [e]; decide), if_pos (by decide), if_pos e]
    simp only [wbs]
    refine An.so ⟨?_, ?_, fun k j hk hj => ?_, fun a b1 b2 => ?_⟩
    · rw [wr_nk (by decide), wa_ne (by omega), h1, e]
    · rw [wr_eq, wa_ne (by omega), h2, zl_1, zI_add]
    · rw [wr_ne (by omega), wa_eq, if_pos e]
      unfold va_cpy
      rw [show ix (8 : Int32) = 8 from by decide, show ix (0 : Int32) = 0 from by decide, show ix (152 : Int32) = 152 from by decide, if_pos (by omega), show 8 + (8 * k + j - 0) = 8 * (k + 1) + j by omega]
      exact h3 (k + 1) j (by omega) hj
    · rw [wr_ne b1, wa_ne b2]
  · rw [if_neg (by rw [show (20 : Int32) = zI 20 from rfl, zI_le (by omega) (by omega) (by omega) (by omega)]; omega), if_neg e]
    simp only [wbs]
    refine An.so ⟨?_, ?_, fun k j hk hj => ?_, fun a b1 b2 => ?_⟩
    · rw [wr_nk (by decide), wr_eq, zl_1, zI_add]
    · rw [wr_eq, wr_nk (by decide), h2, zl_1, zI_add]
    · rw [wr_ne (by omega), wr_ne (by omega), if_neg e]
      exact h3 k j (by omega) hj
    · rw [wr_ne b1, wr_ne b1]
theorem c71 {q : Nat} (hq : lA q) {N : Nat} (h : m q 1 = zI ((N + 1 : Nat) : Int)) (h2 : N < 20) {j : Nat} (hj : j < 8) {v : Int32} : d_71 q (zI (j : Nat)) v m = some (wr m (q + 1) (8 * N + j) v) := by
  obtain ⟨a1, a2⟩ := hq
  unfold d_71
  rw [h, a1, a2, zl_1, zl_8, zI_sub, zI_mul, zI_add, wbs, show (((N + 1 : Nat) : Int) - 1) * 8 + (j : Nat) = ((8 * N + j : Nat) : Int) by omega, if_neg (by rw [zl_0, zI_lt (by omega) (by omega) (by omega) (by omega)]; omega), if_neg (by rw [zI_on, zI_le (by omega) (by omega) (by omega) (by omega)]; omega), if_pos (in_k (by omega) (by decide)), z_ix (by omega), wbs]
theorem c94s {a : Nat} (ha : sh_n a = 6) {G : Nat → Nat} (hG : ∀ k, k < 6 → m a k = zI (G k : Nat)) : d_94 a m = some (zI (fo (fun i v => v + G i) 6 0 : Nat)) := by
  unfold d_94 d_94_4
  rw [zl_0]
  refine it_ft (F := fun s => s_94_4 a m s.1 s.2) (mk := fun (v : Nat) k => (zI (v : Nat), zI (k : Nat))) (out := fun v => zI (v : Nat)) (n := 6) (s := 0) (f := fun i v => v + G i) (fun k hk v => ?_) (fun v => ?_)
  · dsimp only
    unfold s_94_4
    rw [ha, if_neg (by rw [zI_on, zI_le (by omega) (by omega) (by omega) (by omega)]; omega), if_pos (in_k hk (by decide)), z_ix (by omega), hG k hk]
    simp only [wbs, zl_1, zI_add]
    rfl
  · dsimp only
    unfold s_94_4
    rw [ha, if_pos (by decide)]
/-- numbers of a sending, of a move -/
def vs8 (a b c d e f g h : Int) : Nat → Int
  | 0 => a | 1 => b | 2 => c | 3 => d | 4 => e | 5 => f | 6 => g | _ => h
theorem wr8 {a b : Nat} {v : Nat → Int} {M : Mm} (hM : M = wr (wr (wr (wr (wr (wr (wr (wr m a (b + 0) (zI (v 0))) a (b + 1) (zI (v 1))) a (b + 2) (zI (v 2))) a (b + 3) (zI (v 3))) a (b + 4) (zI (v 4))) a (b + 5) (zI (v 5))) a (b + 6) (zI (v 6))) a (b + 7) (zI (v 7))) :
    (∀ j, j < 8 → M a (b + j) = zI (v j)) ∧ (∀ k, k < b → M a k = m a k) ∧ ∀ c, c ≠ a → M c = m c := by
  subst hM
  refine ⟨fun j hj => ?_, fun k hk => ?_, fun c hc => ?_⟩
  · have : j = 0 ∨ j = 1 ∨ j = 2 ∨ j = 3 ∨ j = 4 ∨ j = 5 ∨ j = 6 ∨ j = 7 := by omega
    rcases this with rfl | rfl | rfl | rfl | rfl | rfl | rfl | rfl
    · rw [wr_nk (by omega), wr_nk (by omega), wr_nk (by omega), wr_nk (by omega), wr_nk (by omega), wr_nk (by omega), wr_nk (by omega), wr_eq]
    · rw [wr_nk (by omega), wr_nk (by omega), wr_nk (by omega), wr_nk (by omega), wr_nk (by omega), wr_nk (by omega), wr_eq]
    · rw [wr_nk (by omega), wr_nk (by omega), wr_nk (by omega), wr_nk (by omega), wr_nk (by omega), wr_eq]
    · rw [wr_nk (by omega), wr_nk (by omega), wr_nk (by omega), wr_nk (by omega), wr_eq]
    · rw [wr_nk (by omega), wr_nk (by omega), wr_nk (by omega), wr_eq]
    · rw [wr_nk (by omega), wr_nk (by omega), wr_eq]
    · rw [wr_nk (by omega), wr_eq]
    · rw [wr_eq]
  · rw [wr_nk (by omega), wr_nk (by omega), wr_nk (by omega), wr_nk (by omega), wr_nk (by omega), wr_nk (by omega), wr_nk (by omega), wr_nk (by omega)]
  · rw [wr_ne hc, wr_ne hc, wr_ne hc, wr_ne hc, wr_ne hc, wr_ne hc, wr_ne hc, wr_ne hc]
/-- what is noted of a sending -/
noncomputable def svs (W H : Nat) (r : Nat → Int) (s q x y X Y : Nat) (t : Int) : Nat → Int := vs8 t (s : Nat) (fo (fun i v => v + fG r s x y X Y i) 6 0 : Nat) (fo (fun i v => v + fl r s x y X Y t i) 6 0 : Nat) (frd W H r s q x y X Y t) (fan W H r s q x y X Y t) (fsn W H r s q x y X Y t : Nat) (if fia W H r s q x y X Y t = true then 1 else 0)
theorem rls_at {vs : Nat → Int} {k j : Nat} (h13 : r 13 ≤ 20) (hk : k < 20) (hj : j < 8) : rls r vs (304 + 8 * k + j) = if k = (if r 13 = 20 then 19 else (r 13).toNat) then vs j else if r 13 = 20 then r (304 + 8 * (k + 1) + j) else r (304 + 8 * k + j) := by
  unfold rls
  rw [if_neg (by omega), if_neg (by omega), if_pos (by omega)]
  generalize hN : (if r 13 = 20 then 19 else (r 13).toNat) = N
  by_cases q : k = N
  · rw [if_pos (by omega), if_pos q, q, show 304 + 8 * N + j - (304 + 8 * N) = j by omega]
  · rw [if_neg (by omega), if_neg q]
    by_cases q2 : r 13 = 20
    · have : k < 19 := by
        rw [if_pos q2] at hN
        omega
      rw [if_pos ⟨q2, by omega⟩, if_pos q2, show 304 + 8 * k + j + 8 = 304 + 8 * (k + 1) + j by omega]
    · rw [if_neg (fun h => q2 h.1), if_neg q2]
theorem rla_at {vs : Nat → Int} {k j : Nat} (h14 : r 14 ≤ 20) (hk : k < 20) (hj : j < 6) : rla r vs (464 + 6 * k + j) = if k = (if r 14 = 20 then 19 else (r 14).toNat) then vs j else if r 14 = 20 then r (464 + 6 * (k + 1) + j) else r (464 + 6 * k + j) := by
  unfold rla
  rw [if_neg (by omega), if_neg (by omega), if_pos (by omega)]
  generalize hN : (if r 14 = 20 then 19 else (r 14).toNat) = N
  by_cases q : k = N
  · rw [if_pos (by omega), if_pos q, q, show 464 + 6 * N + j - (464 + 6 * N) = j by omega]
  · rw [if_neg (by omega), if_neg q]
    by_cases q2 : r 14 = 20
    · have : k < 19 := by
        rw [if_pos q2] at hN
        omega
      rw [if_pos ⟨q2, by omega⟩, if_pos q2, show 464 + 6 * k + j + 6 = 464 + 6 * (k + 1) + j by omega]
    · rw [if_neg (fun h => q2 h.1), if_neg q2]
theorem rls_n {vs : Nat → Int} {j : Nat} (hj : ¬ pL j) : rls r vs j = r j := by
  unfold rls
  unfold pL at hj
  rw [if_neg (by omega), if_neg (by omega), if_neg (by omega)]
theorem rla_n {vs : Nat → Int} {j : Nat} (hj : ¬ pA j) : rla r vs j = r j := by
  unfold rla
  unfold pA at hj
  rw [if_neg (by omega), if_neg (by omega), if_neg (by omega)]
end CU
