/-! Parts of moves, and their ranks. -/
theorem fo_all {α : Type} {P : α → Prop} {f : Nat → List α → List α} {n : Nat} {l : List α} (h0 : ∀ p ∈ l, P p) (h : ∀ k, k < n → ∀ l, (∀ p ∈ l, P p) → ∀ p ∈ f k l, P p) : ∀ p ∈ fo f n l, P p := by
  induction n with
  | zero => exact h0
  | succ n ih => exact h n (by omega) _ (ih (fun k hk => h k (by omega)))
theorem ml_mem {W H : Nat} {b : Nat → Int} {s : Int} : ∀ p ∈ ml W H b s, p.1 < W * H ∧ p.2 < W * H ∧ mv W b s (p.1 % W) (p.1 / W) (p.2 % W) (p.2 / W) = true := by
  refine fo_all (fun p hp => absurd hp (by simp)) (fun c hc l hl => fo_all hl (fun d hd l hl => ?_))
  intro p hp
  by_cases e : mv W b s (c % W) (c / W) (d % W) (d / W) = true
  · rw [if_pos e, List.mem_append] at hp
    rcases hp with hp | hp
    · exact hl p hp
    · rw [List.mem_singleton] at hp
      subst hp
      exact ⟨hc, hd, e⟩
  · rw [if_neg e] at hp
    exact hl p hp
theorem ml_get {W H : Nat} {b : Nat → Int} {s : Int} {i : Nat} (hi : i < (ml W H b s).length) : ((ml W H b s).getD i (0, 0)).1 < W * H ∧ ((ml W H b s).getD i (0, 0)).2 < W * H ∧ mv W b s (((ml W H b s).getD i (0, 0)).1 % W) (((ml W H b s).getD i (0, 0)).1 / W) (((ml W H b s).getD i (0, 0)).2 % W) (((ml W H b s).getD i (0, 0)).2 / W) = true := by
  refine ml_mem _ ?_
  rw [List.getD_eq_getElem?_getD, List.getElem?_eq_getElem hi]
  exact List.getElem_mem hi
/-- a part of a move -/
def pt (W H : Nat) (b : Nat → Int) (s : Int) (p : Nat × Nat) (what : Int) : Int := if what = 0 then (p.1 : Int) else if what = 1 then (p.2 : Int) else if what = 2 then gn W H b (p.1 % W) (p.1 / W) (p.2 % W) (p.2 / W) else wo W H b s (p.1 % W) (p.1 / W) (p.2 % W) (p.2 / W)
/-- how many are ahead of one by their worths -/
def ah (n : Nat) (w : Nat → Int) (k : Nat) : Nat := ctn (fun i => decide (w k < w i ∨ (w i = w k ∧ i < k))) n
theorem php : ∀ (n : Nat) (g : Nat → Nat), (∀ i, i < n → g i < n) → (∀ i, i < n → ∀ j, j < n → g i = g j → i = j) → ∀ v, v < n → ∃ i, i < n ∧ g i = v := by
  intro n
  induction n with
  | zero => intro g _ _ v hv; omega
  | succ n ih =>
    intro g h1 h2 v hv
    by_cases hw : g n = v
    · exact ⟨n, by omega, hw⟩
    · have a1 : ∀ i, i < n → (if g i = n then g n else g i) < n := by
        intro i hi
        have q1 := h1 i (by omega)
        have q2 := h1 n (by omega)
        split
        · next e =>
          by_cases e2 : g n = n
          · have := h2 i (by omega) n (by omega) (by omega); omega
          · omega
        · omega
      have a2 : ∀ i, i < n → ∀ j, j < n → (if g i = n then g n else g i) = (if g j = n then g n else g j) → i = j := by
        intro i hi j hj e
        by_cases e1 : g i = n <;> by_cases e2 : g j = n
        · exact h2 i (by omega) j (by omega) (by omega)
        · rw [if_pos e1, if_neg e2] at e
          have := h2 n (by omega) j (by omega) e; omega
        · rw [if_neg e1, if_pos e2] at e
          have := h2 i (by omega) n (by omega) e; omega
        · rw [if_neg e1, if_neg e2] at e
          exact h2 i (by omega) j (by omega) e
      have k := ih (fun i => if g i = n then g n else g i) a1 a2
      by_cases hv2 : v = n
      · obtain ⟨i, hi, e⟩ := k (g n) (by have := h1 n (by omega); omega)
        by_cases e1 : g i = n
        · exact ⟨i, by omega, by omega⟩
        · rw [if_neg e1] at e
          have := h2 i (by omega) n (by omega) e; omega
      · obtain ⟨i, hi, e⟩ := k v (by omega)
        by_cases e1 : g i = n
        · rw [if_pos e1] at e; exact absurd e hw
        · rw [if_neg e1] at e
          exact ⟨i, by omega, e⟩
theorem ctn_lt {q q' : Nat → Bool} {n j : Nat} (h : ∀ k, k < n → q k = true → q' k = true) (hj : j < n) (h1 : q j = false) (h2 : q' j = true) : ctn q n < ctn q' n := by
  induction n with
  | zero => omega
  | succ n ih =>
    unfold ctn at *
    rw [fo_s, fo_s]
    by_cases e : j = n
    · subst e
      rw [h1, h2, if_neg (by decide), if_pos rfl]
      have := ctn_le (q := q) (q' := q') (n := j) (fun k hk => h k (by omega))
      unfold ctn at this
      omega
    · have i := ih (fun k hk => h k (by omega)) (by omega)
      have := h n (by omega)
      by_cases e1 : q n = true
      · rw [if_pos e1, if_pos (this e1)]; omega
      · rw [if_neg e1]; split <;> omega
theorem ctn_n {q : Nat → Bool} : ∀ {n : Nat}, ctn q n ≤ n := by
  intro n
  induction n with
  | zero => exact Nat.le_refl _
  | succ n ih =>
    unfold ctn at *
    rw [fo_s]
    split <;> omega
theorem ah_lt {n : Nat} {w : Nat → Int} {k : Nat} (hk : k < n) : ah n w k < n := by
  unfold ah
  have h1 := ctn_lt (q := fun i => decide (w k < w i ∨ (w i = w k ∧ i < k))) (q' := fun _ => true) (n := n) (j := k) (fun _ _ _ => rfl) hk (decide_eq_false (by omega)) rfl
  have h2 := ctn_n (q := fun _ => true) (n := n)
  omega
theorem ah_in {n : Nat} {w : Nat → Int} {i j : Nat} (hi : i < n) (hj : j < n) (h : ah n w i = ah n w j) : i = j := by
  have key : ∀ a c, a < n → c < n → (w c < w a ∨ (w a = w c ∧ a < c)) → ah n w a < ah n w c := by
    intro a c ha hc hac
    refine ctn_lt (j := a) (fun k hk e => ?_) ha (decide_eq_false (by omega)) (decide_eq_true hac)
    have e := of_decide_eq_true e
    exact decide_eq_true (by omega)
  rcases Int.lt_trichotomy (w i) (w j) with q | q | q
  · have := key j i hj hi (by omega); omega
  · rcases Nat.lt_trichotomy i j with q2 | q2 | q2
    · have := key i j hi hj (by omega); omega
    · exact q2
    · have := key j i hj hi (by omega); omega
  · have := key i j hi hj (by omega); omega
theorem ah_on {n : Nat} {w : Nat → Int} {v : Nat} (hv : v < n) : ∃ i, i < n ∧ ah n w i = v := php n (ah n w) (fun _ => ah_lt) (fun _ hi _ hj h => ah_in hi hj h) v hv
/-- the place of the one with a rank -/
def pl (n : Nat) (w : Nat → Int) (v : Int) : Nat := ff (fun i => decide ((ah n w i : Int) = v)) n
theorem pl_lt {n : Nat} {w : Nat → Int} {v : Int} (h0 : 0 ≤ v) (hv : v < n) : pl n w v < n := by
  obtain ⟨i, hi, e⟩ := ah_on (n := n) (w := w) (v := v.toNat) (by omega)
  unfold pl
  rcases Nat.lt_or_ge (ff (fun i => decide ((ah n w i : Int) = v)) n) n with h | h
  · exact h
  · have := ff_lt (p := fun i => decide ((ah n w i : Int) = v)) (n := n) (k := i) (by omega)
    have := of_decide_eq_false this
    omega
def wl (W H : Nat) (b : Nat → Int) (s : Int) (l : List (Nat × Nat)) (i : Nat) : Int := pt W H b s (l.getD i (0, 0)) 3
theorem wl_r {W H : Nat} {b : Nat → Int} {s : Int} {x y X Y : Nat} (h1 : 0 ≤ bg W H (mb W H b x y X Y) (1 - s) ∧ bg W H (mb W H b x y X Y) (1 - s) ≤ 1000) : -1000 ≤ wo W H b s x y X Y ∧ wo W H b s x y X Y ≤ 1000 := by
  have := gn_r (W := W) (H := H) (b := b) (x := x) (y := y) (X := X) (Y := Y)
  unfold wo
  split <;> omega
theorem bg_r (W H : Nat) (b : Nat → Int) (s : Int) : 0 ≤ bg W H b s ∧ bg W H b s ≤ 1000 := by
  have key : ∀ n v, 0 ≤ v ∧ v ≤ 1000 → ∀ c, 0 ≤ fo (fun d v => if mv W b s (c % W) (c / W) (d % W) (d / W) = true then mx v (gn W H b (c % W) (c / W) (d % W) (d / W)) else v) n v ∧ fo (fun d v => if mv W b s (c % W) (c / W) (d % W) (d / W) = true then mx v (gn W H b (c % W) (c / W) (d % W) (d / W)) else v) n v ≤ 1000 := by
    intro n
    induction n with
    | zero => intro v hv c; exact hv
    | succ n ih =>
      intro v hv c
      have i := ih v hv c
      rw [fo_s]
      have g := gn_r (W := W) (H := H) (b := b) (x := c % W) (y := c / W) (X := n % W) (Y := n / W)
      split
      · have := mx_f (fo (fun d v => if mv W b s (c % W) (c / W) (d % W) (d / W) = true then mx v (gn W H b (c % W) (c / W) (d % W) (d / W)) else v) n v) (gn W H b (c % W) (c / W) (n % W) (n / W))
        omega
      · exact i
  unfold bg
  have k2 : ∀ n, 0 ≤ fo (fun c v => if sd (b c) = s then bgi W H b s c v else v) n 0 ∧ fo (fun c v => if sd (b c) = s then bgi W H b s c v else v) n 0 ≤ 1000 := by
    intro n
    induction n with
    | zero => exact ⟨Int.le_refl 0, by show (0 : Int) ≤ 1000; decide⟩
    | succ n ih =>
      rw [fo_s]
      split
      · exact key (W * H) _ ih n
      · exact ih
  exact k2 _
theorem wo_r (W H : Nat) (b : Nat → Int) (s : Int) (x y X Y : Nat) : -1000 ≤ wo W H b s x y X Y ∧ wo W H b s x y X Y ≤ 1000 := wl_r (bg_r _ _ _ _)
theorem mv_f {W : Nat} {b : Nat → Int} {s : Int} {x y X Y : Nat} (h : mv W b s x y X Y = true) : ¬ (x = X ∧ y = Y) ∧ sd (b (x + W * y)) = s ∧ ¬ sd (b (X + W * Y)) = s := by
  unfold mv at h
  rw [Bool.and_eq_true] at h
  exact of_decide_eq_true h.1
section RC
variable {m : Mm} {f W H : Nat} {b : Nat → Int}
/-- a board copied -/
theorem c11 {f' : Nat} (hf : fA f) (hf' : fA f') (h : FR m f W H b) (hd : f' + 1 < f ∨ f + 1 < f') : An (d_11 f' f m) (fun m' => FR m' f' W H b ∧ ∀ a, a ≠ f' → a ≠ f' + 1 → m' a = m a) := by
  unfold d_11
  rw [hf.1, hf.2, hf'.1, hf'.2]
  simp only [wbs]
  rw [if_pos (by decide)]
  refine An.so ⟨⟨?_, ?_, fun x y hx hy => ?_⟩, fun a h1 h2 => ?_⟩
  · unfold wa
    rw [if_neg (by omega), wr_nk (by decide), wr_eq]; exact h.1
  · unfold wa
    rw [if_neg (by omega), wr_eq, wr_ne (by omega)]; exact h.2.1
  · unfold wa va_cpy
    rw [if_pos rfl, if_pos (by rw [show ix (64 : Int32) = 64 from by decide, show ix (0 : Int32) = 0 from by decide]; omega), wr_ne (by omega), wr_ne (by omega), show ix (0 : Int32) + (x + 8 * y - ix (0 : Int32)) = x + 8 * y by rw [show ix (0 : Int32) = 0 from by decide]; omega]
    exact h.2.2 x y hx hy
  · unfold wa
    rw [if_neg h2, wr_ne h1, wr_ne h1]
theorem fA_241 : fA 241 := ⟨by decide +kernel, by decide +kernel⟩
theorem c79 (hv : VL m) (hf : fA f) (hf2 : f + 1 < 237) (hf3 : 1 < f) (h : FR m f W H b) (hw : WH W H) (hb : BD W H b) {s : Int} (h1 : 0 ≤ s) (h2 : s ≤ 1) {x y X Y : Nat} (hx : x < W) (hy : y < H) (hX : X < W) (hY : Y < H) (hm : mv W b s x y X Y = true) :
    An (d_79 237 f (zI s) (zI ((x + 8 * y : Nat) : Int)) (zI ((X + 8 * Y : Nat) : Int)) m) (fun q => q.1 = zI (wo W H b s x y X Y) ∧ ∀ a, a ≠ 241 → a ≠ 242 → q.2 a = m a) := by
  have hw' := hw
  obtain ⟨a, a2, a3, a4⟩ := hw'
  have b2 := hb X Y hX hY
  obtain ⟨n1, n2, n3⟩ := mv_f hm
  unfold d_79 wo
  rw [c27 hv hf h hw hb hx hy hX hY]
  simp only [obs]
  rw [c17 hf (by omega), h.on hw hX hY]
  simp only [obs, zl_0, zl_1, zl_2, zl_3, zl_4, zl_5, zl_6, zl_7, zl_8, zl_9, zl_10, zl_11, zl_12, zl_13, zl_14, zl_15, zl_16, zl_17, zl_18, zl_19, zl_20, zl_21, zl_22, zl_23, zl_24, zl_25, zl_26, zl_27, zl_28, zl_29, zl_30, zl_31, zl_32, zl_33, zl_34, zl_35, zl_36, zl_37, zl_38, zl_39, zl_40, zl_41, zl_42, zl_43, zl_44, zl_45, zl_46, zl_47, zl_48, zl_49, zl_50, zl_51, zl_52, zl_53, zl_54, zl_55, zl_56, zl_57, zl_58, zl_59, zl_60, zl_61, zl_62, zl_63, zl_64, zl_88, zl_97, zl_99, zl_120, zl_122, zl_150, zl_152, zl_200, zl_255, zl_264, zl_280, zl_304, zl_464, zl_584, zl_600, zl_837, zl_999, zl_1000, zl_4088, zl_9999, zl_99999, zI_on, zI_add, zI_sub, zI_mul, zI_neg, zI_bi]
  have e : zI (b (X + W * Y) - 1) = zI (0 + 6 * (1 - s)) ↔ kd (b (X + W * Y)) = 1 := by
    rw [zI_inj (by omega) (by omega) (by omega) (by omega)]
    unfold sd at n3
    unfold kd
    split <;> split at n3 <;> (try split at n3) <;> omega
  by_cases q : kd (b (X + W * Y)) = 1
  · rw [if_neg (fun q2 => q2 (e.mpr q)), if_pos q]
    exact An.so ⟨rfl, fun _ _ _ => rfl⟩
  · rw [if_pos (fun q2 => q (e.mp q2)), if_neg q, l_r3]
    refine An.bd (c11 (f' := 241) hf fA_241 h (by omega)) (fun m3 h3 => ?_)
    refine An.bd (c26 fA_241 h3.1 hw hb hx hy hX hY) (fun m4 h4 => ?_)
    have v4 : VL m4 := by
      unfold VL
      rw [h4.2 0 (by decide), h4.2 1 (by decide), h3.2 0 (by decide) (by decide), h3.2 1 (by decide) (by decide)]
      exact hv
    rw [(c28 v4 fA_241 h4.1 hw (BD_mb hb hx hy) (s := 1 - s) (by omega) (by omega)).1]
    simp only [obs, zI_sub]
    exact An.so ⟨rfl, fun c q1 q2 => (h4.2 c q2).trans (h3.2 c q1 q2)⟩
end RC
