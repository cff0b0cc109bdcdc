/-! The reference's boards: what is made of them. -/
theorem z_ix {k : Nat} (h : k ≤ 2147483647) : ix (zI (k : Int)) = k := by
  show (zI (k : Int)).toNatClampNeg = k
  rw [zI_ix (by omega) (by omega), Int.toNat_natCast]
theorem mxy {W H k : Nat} (hw : WH W H) (hk : k < W * H) : ∃ x y, x < W ∧ y < H ∧ k = x + W * y := by
  obtain ⟨a, b, c⟩ := cell_of hw hk
  exact ⟨_, _, a, b, c.symm⟩
theorem WH_n {W H : Nat} (h : WH W H) : W * H ≤ 64 := by
  have : W * H ≤ 8 * 8 := Nat.mul_le_mul h.2.1 h.2.2.2
  omega
theorem sd_r (p : Int) : -1 ≤ sd p ∧ sd p ≤ 1 := by
  unfold sd
  split
  · omega
  · split <;> omega
/-- the row behind a move on the board at t -/
def rmv (r : Nat → Int) (t c d : Nat) (v : Int) : Nat → Int := rs (rs r (t + d) v) (t + c) 0
theorem rmv_mb {r : Nat → Int} {W H t x y X Y : Nat} (hx : x < W) (hX : X < W) (hn : ¬ (x = X ∧ y = Y)) :
    (fun k => rmv r t (x + W * y) (X + W * Y) (av H (r (t + (x + W * y))) Y) (t + k)) = mb W H (fun k => r (t + k)) x y X Y := by
  funext k
  unfold rmv mb rs
  dsimp only
  have hc : ¬ x + W * y = X + W * Y := by rw [cell_in hx hX]; exact hn
  by_cases q1 : k = x + W * y
  · subst q1
    rw [if_pos rfl, if_neg hc, if_pos rfl]
  · rw [if_neg (by omega)]
    by_cases q2 : k = X + W * Y
    · subst q2
      rw [if_pos rfl, if_pos rfl]
    · rw [if_neg (by omega), if_neg q2, if_neg q1]
theorem BD_mb {W H : Nat} {b : Nat → Int} (h : BD W H b) {x y X Y : Nat} (hx : x < W) (hy : y < H) : BD W H (mb W H b x y X Y) := by
  intro u v hu hv
  have b1 := h x y hx hy
  have b2 := h u v hu hv
  have b3 := av_r (H := H) (y := Y) b1.1 b1.2
  unfold mb
  split
  · exact b3
  · split
    · omega
    · exact b2
theorem rmv_ne {r : Nat → Int} {t c d k : Nat} {v : Int} (h1 : k ≠ t + c) (h2 : k ≠ t + d) : rmv r t c d v k = r k := by
  unfold rmv
  rw [rs_ne h1, rs_ne h2]
def wo (W H : Nat) (b : Nat → Int) (s : Int) (x y X Y : Nat) : Int := if kd (b (X + W * Y)) = 1 then gn W H b x y X Y else gn W H b x y X Y - bg W H (mb W H b x y X Y) (1 - s)
section MD
variable {m : Mm} {r : Nat → Int} {W H : Nat}
theorem m205 (hv : VL m) (h : MW m r W H) {t : Nat} (ht : t + 64 ≤ 584) (hb : BD W H (fun c => r (t + c))) {x y X Y : Nat} (hx : x < W) (hy : y < H) (hX : X < W) (hY : Y < H) :
    d_205 249 (zI t) (zI ((x + W * y : Nat) : Int)) (zI ((X + W * Y : Nat) : Int)) m = some (zI (gn W H (fun c => r (t + c)) x y X Y)) := by
  have hw := h.2.2.2
  have c1 := cell_64 hw hx hy
  have c2 := cell_64 hw hX hY
  have b1 : 0 ≤ r (t + (x + W * y)) ∧ r (t + (x + W * y)) ≤ 12 := hb x y hx hy
  have b2 : 0 ≤ r (t + (X + W * Y)) ∧ r (t + (X + W * Y)) ≤ 12 := hb X Y hX hY
  have k := kd_r b2.1 b2.2
  have e := hv.2 _ b2.1 b2.2
  unfold d_205 gn
  rw [z_ad, z_ad, if_pos (m_in (by omega)), m_rd h (by omega), m197 b2.1 b2.2]
  simp only [obs]
  rw [if_pos (zI_in_t (by omega) (by omega) (by omega)), if_pos (m_in (by omega)), m_rd h (by omega), m204 h b1.1 b1.2 hX hY]
  simp only [obs]
  have e2 : m 1 (ix (zI (kd (r (t + (X + W * Y)))))) = zI (vl (r (t + (X + W * Y)))) := by
    show m 1 (zI (kd (r (t + (X + W * Y))))).toNatClampNeg = _
    rw [zI_ix (by omega) (by omega)]; exact e
  rw [e2]
  cases bq H (r (t + (x + W * y))) Y <;> simp only [zI_on, zI_add, zI_sub, zI_mul, zI_neg, zI_bi, zl_0, zl_1, zl_2, zl_3, zl_4, zl_5, zl_6, zl_7, zl_8, zl_9, zl_10, zl_11, zl_12, zl_13, zl_14, zl_15, zl_16, zl_17, zl_18, zl_19, zl_20, zl_21, zl_22, zl_23, zl_24, zl_25, zl_26, zl_27, zl_28, zl_29, zl_30, zl_31, zl_32, zl_33, zl_34, zl_35, zl_36, zl_37, zl_38, zl_39, zl_40, zl_41, zl_42, zl_43, zl_44, zl_45, zl_46, zl_47, zl_48, zl_49, zl_50, zl_51, zl_52, zl_53, zl_54, zl_55, zl_56, zl_57, zl_58, zl_59, zl_60, zl_61, zl_62, zl_63, zl_64, zl_88, zl_97, zl_99, zl_120, zl_122, zl_150, zl_152, zl_200, zl_255, zl_264, zl_280, zl_304, zl_464, zl_584, zl_600, zl_837, zl_999, zl_1000, zl_4088, zl_9999, zl_99999, ift, ifn, Bool.false_eq_true]
theorem m206 (h : MW m r W H) {t : Nat} (ht : t + 64 ≤ 584) (hb : BD W H (fun c => r (t + c))) {x y X Y : Nat} (hx : x < W) (hy : y < H) (hX : X < W) (hY : Y < H) :
    d_206 249 (zI t) (zI ((x + W * y : Nat) : Int)) (zI ((X + W * Y : Nat) : Int)) m = some (wr (wr m 250 (t + (X + W * Y)) (zI (av H (r (t + (x + W * y))) Y))) 250 (t + (x + W * y)) (zI 0)) := by
  have hw := h.2.2.2
  have c1 := cell_64 hw hx hy
  have c2 := cell_64 hw hX hY
  have b1 : 0 ≤ r (t + (x + W * y)) ∧ r (t + (x + W * y)) ≤ 12 := hb x y hx hy
  unfold d_206 d_206_39 av
  rw [z_ad, z_ad, if_pos (m_in (by omega)), m_rd h (by omega)]
  simp only [wbs]
  rw [m204 h b1.1 b1.2 hX hY]
  simp only [obs]
  have e1 := m_in (k := t + (X + W * Y)) (by omega)
  have e2 := m_in (k := t + (x + W * y)) (by omega)
  cases bq H (r (t + (x + W * y))) Y
  · simp only [Bool.false_eq_true, ifn, ift, e1, e2, wbs]
    rw [m_r1, z_ix (by omega), z_ix (by omega), zl_0]
  · simp only [ifn, ift, e1, e2, wbs]
    rw [m_r1, z_ix (by omega), z_ix (by omega), zl_0, zl_6, zl_2, zI_sub, zI_add, show r (t + (x + W * y)) - 6 + 2 = r (t + (x + W * y)) - 4 by omega]
theorem MW.mv_ (h : MW m r W H) {t c d : Nat} (ht : 24 ≤ t) {v : Int} : MW (wr (wr m 250 (t + d) (zI v)) 250 (t + c) (zI 0)) (rmv r t c d v) W H :=
  ⟨(h.1.put).put, by rw [rmv_ne (by omega) (by omega)]; exact h.2.1, by rw [rmv_ne (by omega) (by omega)]; exact h.2.2.1, h.2.2.2⟩
theorem m209 (h : MW m r W H) {t : Nat} (ht : t + 64 ≤ 584) : d_209 249 (zI t) m = some (zI (tot (W * H) (fun c => r (t + c)))) := by
  have hn := WH_n h.2.2.2
  unfold d_209 d_209_4 tot
  refine it_ft (F := fun s => s_209_4 249 (zI t) m s.1 s.2) (mk := fun (s : Int) k => (zI s, zI (k : Int))) (out := zI) (n := W * H) (s := 0) (fun k hk s => ?_) (fun s => ?_)
  · dsimp only
    unfold s_209_4
    rw [m193 h]
    simp only [obs]
    rw [if_neg (by rw [zI_le (by omega) (by omega) (by omega) (by omega)]; omega), z_ad, if_pos (m_in (by omega)), m_rd h (by omega)]
    simp only [wbs, zl_0, zl_1, zl_2, zl_3, zl_4, zl_5, zl_6, zl_7, zl_8, zl_9, zl_10, zl_11, zl_12, zl_13, zl_14, zl_15, zl_16, zl_17, zl_18, zl_19, zl_20, zl_21, zl_22, zl_23, zl_24, zl_25, zl_26, zl_27, zl_28, zl_29, zl_30, zl_31, zl_32, zl_33, zl_34, zl_35, zl_36, zl_37, zl_38, zl_39, zl_40, zl_41, zl_42, zl_43, zl_44, zl_45, zl_46, zl_47, zl_48, zl_49, zl_50, zl_51, zl_52, zl_53, zl_54, zl_55, zl_56, zl_57, zl_58, zl_59, zl_60, zl_61, zl_62, zl_63, zl_64, zl_88, zl_97, zl_99, zl_120, zl_122, zl_150, zl_152, zl_200, zl_255, zl_264, zl_280, zl_304, zl_464, zl_584, zl_600, zl_837, zl_999, zl_1000, zl_4088, zl_9999, zl_99999, zI_add, zI_mul]
    rfl
  · dsimp only
    unfold s_209_4
    rw [m193 h]
    simp only [obs]
    rw [if_pos (by rw [zI_le (by omega) (by omega) (by omega) (by omega)]; omega)]
theorem m207i (hv : VL m) (h : MW m r W H) {t : Nat} (ht : t + 64 ≤ 584) (hb : BD W H (fun c => r (t + c))) {s : Int} (h1 : 0 ≤ s) (h2 : s ≤ 1) {x y : Nat} (hx : x < W) (hy : y < H) {v : Int} (v1 : 0 ≤ v) (v2 : v ≤ 1000) :
    d_207_36 249 (zI t) (zI s) (zI ((x + W * y : Nat) : Int)) m (zI v) 0 = some (.inl (zI (bgi W H (fun c => r (t + c)) s (x + W * y) v), zI ((x + W * y + 1 : Nat) : Int))) ∧ 0 ≤ bgi W H (fun c => r (t + c)) s (x + W * y) v ∧ bgi W H (fun c => r (t + c)) s (x + W * y) v ≤ 1000 := by
  have hn := WH_n h.2.2.2
  unfold d_207_36 bgi
  rw [(cell_md hx).1, (cell_md hx).2]
  have k := it_fo (F := fun u => s_207_36 249 (zI t) (zI s) (zI ((x + W * y : Nat) : Int)) m u.1 u.2) (mk := fun (v : Int) k => (zI v, zI (k : Int))) (out := fun v => Sum.inl (zI v, zI ((x + W * y + 1 : Nat) : Int))) (n := W * H) (s := v)
    (f := fun d v => if mv W (fun c => r (t + c)) s x y (d % W) (d / W) = true then mx v (gn W H (fun c => r (t + c)) x y (d % W) (d / W)) else v) (fun _ v => 0 ≤ v ∧ v ≤ 1000) ⟨v1, v2⟩ (fun k hk v hv2 => ?_) (fun v hv2 => ?_)
  · exact ⟨k.1, k.2⟩
  · obtain ⟨X, Y, hX, hY, rfl⟩ := mxy h.2.2.2 hk
    obtain ⟨v3, v4⟩ := hv2
    have e203 := m203 h ht hb h1 h2 hx hy hX hY
    have e205 := m205 hv h ht hb hx hy hX hY
    have g := gn_r (W := W) (H := H) (b := fun c => r (t + c)) (x := x) (y := y) (X := X) (Y := Y)
    rw [(cell_md hX).1, (cell_md hX).2]
    unfold s_207_36
    rw [m193 h]
    simp only [obs]
    rw [if_neg (by rw [zI_le (by omega) (by omega) (by omega) (by omega)]; omega), e203]
    simp only [obs]
    cases hV : mv W (fun c => r (t + c)) s x y X Y
    · rw [if_neg (by decide), if_neg (by decide)]
      exact ⟨by simp only [wbs, zl_0, zl_1, zl_2, zl_3, zl_4, zl_5, zl_6, zl_7, zl_8, zl_9, zl_10, zl_11, zl_12, zl_13, zl_14, zl_15, zl_16, zl_17, zl_18, zl_19, zl_20, zl_21, zl_22, zl_23, zl_24, zl_25, zl_26, zl_27, zl_28, zl_29, zl_30, zl_31, zl_32, zl_33, zl_34, zl_35, zl_36, zl_37, zl_38, zl_39, zl_40, zl_41, zl_42, zl_43, zl_44, zl_45, zl_46, zl_47, zl_48, zl_49, zl_50, zl_51, zl_52, zl_53, zl_54, zl_55, zl_56, zl_57, zl_58, zl_59, zl_60, zl_61, zl_62, zl_63, zl_64, zl_88, zl_97, zl_99, zl_120, zl_122, zl_150, zl_152, zl_200, zl_255, zl_264, zl_280, zl_304, zl_464, zl_584, zl_600, zl_837, zl_999, zl_1000, zl_4088, zl_9999, zl_99999, zI_add]; rfl, v3, v4⟩
    · have mf := mx_f v (gn W H (fun c => r (t + c)) x y X Y)
      rw [if_pos rfl, if_pos rfl, e205]
      simp only [obs]
      rw [zI_mx (by omega) (by omega) (by omega) (by omega)]
      refine ⟨by simp only [wbs, zl_0, zl_1, zl_2, zl_3, zl_4, zl_5, zl_6, zl_7, zl_8, zl_9, zl_10, zl_11, zl_12, zl_13, zl_14, zl_15, zl_16, zl_17, zl_18, zl_19, zl_20, zl_21, zl_22, zl_23, zl_24, zl_25, zl_26, zl_27, zl_28, zl_29, zl_30, zl_31, zl_32, zl_33, zl_34, zl_35, zl_36, zl_37, zl_38, zl_39, zl_40, zl_41, zl_42, zl_43, zl_44, zl_45, zl_46, zl_47, zl_48, zl_49, zl_50, zl_51, zl_52, zl_53, zl_54, zl_55, zl_56, zl_57, zl_58, zl_59, zl_60, zl_61, zl_62, zl_63, zl_64, zl_88, zl_97, zl_99, zl_120, zl_122, zl_150, zl_152, zl_200, zl_255, zl_264, zl_280, zl_304, zl_464, zl_584, zl_600, zl_837, zl_999, zl_1000, zl_4088, zl_9999, zl_99999, zI_add]; rfl, by omega, by omega⟩
  · dsimp only
    unfold s_207_36
    rw [m193 h]
    simp only [obs]
    rw [if_pos (by rw [zI_le (by omega) (by omega) (by omega) (by omega)]; omega)]
    simp only [wbs, zl_0, zl_1, zl_2, zl_3, zl_4, zl_5, zl_6, zl_7, zl_8, zl_9, zl_10, zl_11, zl_12, zl_13, zl_14, zl_15, zl_16, zl_17, zl_18, zl_19, zl_20, zl_21, zl_22, zl_23, zl_24, zl_25, zl_26, zl_27, zl_28, zl_29, zl_30, zl_31, zl_32, zl_33, zl_34, zl_35, zl_36, zl_37, zl_38, zl_39, zl_40, zl_41, zl_42, zl_43, zl_44, zl_45, zl_46, zl_47, zl_48, zl_49, zl_50, zl_51, zl_52, zl_53, zl_54, zl_55, zl_56, zl_57, zl_58, zl_59, zl_60, zl_61, zl_62, zl_63, zl_64, zl_88, zl_97, zl_99, zl_120, zl_122, zl_150, zl_152, zl_200, zl_255, zl_264, zl_280, zl_304, zl_464, zl_584, zl_600, zl_837, zl_999, zl_1000, zl_4088, zl_9999, zl_99999, zI_add]
    rfl
theorem m207 (hv : VL m) (h : MW m r W H) {t : Nat} (ht : t + 64 ≤ 584) (hb : BD W H (fun c => r (t + c))) {s : Int} (h1 : 0 ≤ s) (h2 : s ≤ 1) : d_207 249 (zI t) (zI s) m = some (zI (bg W H (fun c => r (t + c)) s)) ∧ 0 ≤ bg W H (fun c => r (t + c)) s ∧ bg W H (fun c => r (t + c)) s ≤ 1000 := by
  have hn := WH_n h.2.2.2
  unfold d_207 d_207_5 bg
  refine it_fo (F := fun u => s_207_5 249 (zI t) (zI s) m u.1 u.2) (mk := fun (v : Int) k => (zI v, zI (k : Int))) (out := zI) (n := W * H) (s := 0) (fun _ v => 0 ≤ v ∧ v ≤ 1000) ⟨by decide, by decide⟩ (fun k hk v hv2 => ?_) (fun v _ => ?_)
  · obtain ⟨x, y, hx, hy, rfl⟩ := mxy h.2.2.2 hk
    obtain ⟨v3, v4⟩ := hv2
    have b1 : 0 ≤ r (t + (x + W * y)) ∧ r (t + (x + W * y)) ≤ 12 := hb x y hx hy
    have i := m207i hv h ht hb h1 h2 hx hy v3 v4
    have sdr := sd_r (r (t + (x + W * y)))
    unfold s_207_5
    rw [m193 h]
    simp only [obs]
    rw [if_neg (by rw [zI_le (by omega) (by omega) (by omega) (by omega)]; omega), z_ad, if_pos (m_in (by omega)), m_rd h (by omega), m196 b1.1 b1.2]
    simp only [obs]
    by_cases e : sd (r (t + (x + W * y))) = s
    · rw [if_pos e, if_pos (by rw [e])]
      exact i
    · rw [if_neg e, if_neg (by rw [zI_inj (by omega) (by omega) (by omega) (by omega)]; exact e)]
      exact ⟨by simp only [wbs, zl_0, zl_1, zl_2, zl_3, zl_4, zl_5, zl_6, zl_7, zl_8, zl_9, zl_10, zl_11, zl_12, zl_13, zl_14, zl_15, zl_16, zl_17, zl_18, zl_19, zl_20, zl_21, zl_22, zl_23, zl_24, zl_25, zl_26, zl_27, zl_28, zl_29, zl_30, zl_31, zl_32, zl_33, zl_34, zl_35, zl_36, zl_37, zl_38, zl_39, zl_40, zl_41, zl_42, zl_43, zl_44, zl_45, zl_46, zl_47, zl_48, zl_49, zl_50, zl_51, zl_52, zl_53, zl_54, zl_55, zl_56, zl_57, zl_58, zl_59, zl_60, zl_61, zl_62, zl_63, zl_64, zl_88, zl_97, zl_99, zl_120, zl_122, zl_150, zl_152, zl_200, zl_255, zl_264, zl_280, zl_304, zl_464, zl_584, zl_600, zl_837, zl_999, zl_1000, zl_4088, zl_9999, zl_99999, zI_add]; rfl, v3, v4⟩
  · dsimp only
    unfold s_207_5
    rw [m193 h]
    simp only [obs]
    rw [if_pos (by rw [zI_le (by omega) (by omega) (by omega) (by omega)]; omega)]
theorem m208 (hv : VL m) (h : MW m r W H) {t : Nat} (ht : t + 64 ≤ 584) (ht2 : 24 ≤ t) (hb : BD W H (fun c => r (t + c))) {s : Int} (h1 : 0 ≤ s) (h2 : s ≤ 1) {x y X Y : Nat} (hx : x < W) (hy : y < H) (hX : X < W) (hY : Y < H) (hn : ¬ (x = X ∧ y = Y)) :
    d_208 249 (zI t) (zI s) (zI ((x + W * y : Nat) : Int)) (zI ((X + W * Y : Nat) : Int)) m = some (zI (wo W H (fun c => r (t + c)) s x y X Y), m) := by
  have hw := h.2.2.2
  have c1 := cell_64 hw hx hy
  have c2 := cell_64 hw hX hY
  have b1 : 0 ≤ r (t + (x + W * y)) ∧ r (t + (x + W * y)) ≤ 12 := hb x y hx hy
  have b2 : 0 ≤ r (t + (X + W * Y)) ∧ r (t + (X + W * Y)) ≤ 12 := hb X Y hX hY
  have k := kd_r b2.1 b2.2
  have e1 := m_in (k := t + (X + W * Y)) (by omega)
  have e2 := m_in (k := t + (x + W * y)) (by omega)
  unfold d_208 wo
  rw [m205 hv h ht hb hx hy hX hY]
  simp only [obs]
  rw [z_ad, z_ad, if_pos e2, m_rd h (by omega)]
  simp only [wbs]
  rw [if_pos e1, m_rd h (by omega), m197 b2.1 b2.2]
  simp only [obs]
  by_cases q : kd (r (t + (X + W * Y))) = 1
  · rw [if_pos q, q, if_neg (by decide)]
  · rw [if_neg q, if_pos (by rw [zl_1, zI_inj (by omega) (by omega) (by omega) (by omega)]; exact q), m206 h ht hb hx hy hX hY]
    simp only [obs]
    have h' := h.mv_ (c := x + W * y) (d := X + W * Y) ht2 (v := av H (r (t + (x + W * y))) Y)
    have hb' : BD W H (fun k => rmv r t (x + W * y) (X + W * Y) (av H (r (t + (x + W * y))) Y) (t + k)) := by
      rw [rmv_mb hx hX hn]
      exact BD_mb hb hx hy
    have i := m207 (by
      unfold VL
      rw [wr_ne (by decide), wr_ne (by decide), wr_ne (by decide), wr_ne (by decide)]
      exact hv) h' ht hb' (s := 1 - s) (by omega) (by omega)
    rw [rmv_mb hx hX hn] at i
    rw [zl_1, zI_sub, i.1]
    simp only [obs]
    rw [if_pos e2, if_pos e1, zI_sub, m_r1, z_ix (by omega), z_ix (by omega)]
    refine congrArg some (Prod.ext rfl ?_)
    dsimp only
    funext a j
    have g1 := h.1 (t + (x + W * y)) (by omega)
    have g2 := h.1 (t + (X + W * Y)) (by omega)
    by_cases qa : a = 250
    · subst qa
      rw [wr_at, wr_at, wr_at, wr_at]
      by_cases j1 : j = t + (X + W * Y)
      · rw [if_pos j1, j1, g2]
      · rw [if_neg j1]
        by_cases j2 : j = t + (x + W * y)
        · rw [if_pos j2, j2, g1]
        · rw [if_neg j2, if_neg j2, if_neg j1]
    · rw [wr_ne qa, wr_ne qa, wr_ne qa, wr_ne qa]
theorem m227 (h : MW m r W H) (hb : BD W H (fun c => r (24 + c))) (hb' : BD W H (fun c => r (88 + c))) : d_227 249 m = some (zI (dif (W * H) (fun c => r (24 + c)) (fun c => r (88 + c)))) := by
  have hn := WH_n h.2.2.2
  unfold d_227 d_227_4 dif
  refine it_ft (F := fun s => s_227_4 249 m s.1 s.2) (mk := fun (s : Int) k => (zI s, zI (k : Int))) (out := zI) (n := W * H) (s := 0) (fun k hk s => ?_) (fun s => ?_)
  · obtain ⟨x, y, hx, hy, rfl⟩ := mxy h.2.2.2 hk
    have b1 : 0 ≤ r (24 + (x + W * y)) ∧ r (24 + (x + W * y)) ≤ 12 := hb x y hx hy
    have b2 : 0 ≤ r (88 + (x + W * y)) ∧ r (88 + (x + W * y)) ≤ 12 := hb' x y hx hy
    dsimp only
    unfold s_227_4
    rw [m193 h, zl_0, zl_1, m194, m194]
    simp only [obs]
    rw [if_neg (by rw [zI_le (by omega) (by omega) (by omega) (by omega)]; omega)]
    rw [show (24 + 64 * 0 : Int) = ((24 : Nat) : Int) from rfl, show (24 + 64 * 1 : Int) = ((88 : Nat) : Int) from rfl, z_ad, z_ad, if_pos (m_in (by omega)), if_pos (m_in (by omega)), m_rd h (by omega), m_rd h (by omega)]
    by_cases q : r (24 + (x + W * y)) = r (88 + (x + W * y))
    · rw [if_pos (by rw [q]), if_pos q]
      simp only [wbs, zI_add]
      rfl
    · rw [if_neg (by rw [zI_inj (by omega) (by omega) (by omega) (by omega)]; exact q), if_neg q]
      simp only [wbs, zI_add]
      rfl
  · dsimp only
    unfold s_227_4
    rw [m193 h]
    simp only [obs]
    rw [if_pos (by rw [zI_le (by omega) (by omega) (by omega) (by omega)]; omega)]
end MD
