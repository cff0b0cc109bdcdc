/-! A move told, by the reference. -/
section NA
variable {m : Mm} {W H : Nat} {r : Nat → Int}
theorem rs6 {b : Nat} {v : Nat → Int} {k : Nat} : rs (rs (rs (rs (rs (rs r (b + 0) (v 0)) (b + 1) (v 1)) (b + 2) (v 2)) (b + 3) (v 3)) (b + 4) (v 4)) (b + 5) (v 5) k = if b ≤ k ∧ k < b + 6 then v (k - b) else r k := by
  by_cases h : b ≤ k ∧ k < b + 6
  · rw [if_pos h]
    have : k = b + 0 ∨ k = b + 1 ∨ k = b + 2 ∨ k = b + 3 ∨ k = b + 4 ∨ k = b + 5 := by omega
    rcases this with rfl | rfl | rfl | rfl | rfl | rfl
    · rw [rs_ne (by omega), rs_ne (by omega), rs_ne (by omega), rs_ne (by omega), rs_ne (by omega)]
      exact rs_eq.trans (congrArg v (by omega))
    · rw [rs_ne (by omega), rs_ne (by omega), rs_ne (by omega), rs_ne (by omega), rs_eq, show b + 1 - b = 1 by omega]
    · rw [rs_ne (by omega), rs_ne (by omega), rs_ne (by omega), rs_eq, show b + 2 - b = 2 by omega]
    · rw [rs_ne (by omega), rs_ne (by omega), rs_eq, show b + 3 - b = 3 by omega]
    · rw [rs_ne (by omega), rs_eq, show b + 4 - b = 4 by omega]
    · rw [rs_eq, show b + 5 - b = 5 by omega]
  · rw [if_neg h, rs_ne (by omega), rs_ne (by omega), rs_ne (by omega), rs_ne (by omega), rs_ne (by omega), rs_ne (by omega)]
theorem kdt_r {s X Y : Nat} (b : 0 ≤ r (24 + 64 * s + (X + W * Y)) ∧ r (24 + 64 * s + (X + W * Y)) ≤ 12) : -1 ≤ kdt W r s X Y ∧ kdt W r s X Y ≤ 5 := by
  have := kd_r b.1 b.2
  unfold kdt
  omega
theorem RG.fn {K : Int} (hR : RG K r W H) {s : Nat} (hs : s ≤ 1) (hC : r (9 + s) + 1 ≤ 20 * K) {x y X Y : Nat} (hx : x < W) (hy : y < H) (hX : X < W) (hY : Y < H) {times : Int} (t1 : 1 ≤ times) (t9 : times ≤ 9) : RG K (rfn W H r s x y X Y times) W H := by
  have hb := (RG.iff.mp hR).2.2.1 s hs
  have d1 := cell_lt hx hy
  have d2 := cell_lt hX hY
  have kr := kdt_r (W := W) (r := r) (s := s) (X := X) (Y := Y) (hb.2.2.2.1.1 X Y hX hY)
  have h1 := hR.b1 (q := s) (s := s) hs hs hC hx hy hX hY
  have h2 := h1.la (vs := avs W r s x y X Y times) ⟨by show (0 : Int) ≤ (s : Nat); omega, by show ((s : Nat) : Int) ≤ 1; omega⟩ ⟨by show (0 : Int) ≤ ((x + W * y : Nat) : Int); omega, by show ((x + W * y : Nat) : Int) < _; omega⟩ ⟨by show (0 : Int) ≤ ((X + W * Y : Nat) : Int); omega, by show ((X + W * Y : Nat) : Int) < _; omega⟩ kr ⟨t1, t9⟩
  have h3 := (RG.iff.mp h2).2.1
  unfold rfn
  refine h2.cS (fun j _ hj => ?_) ?_
  · unfold rnd
    unfold pS at hj
    rw [if_neg (by omega), if_neg (by omega)]
  · unfold rS rnd at *
    obtain ⟨a2, a3, a4, a5, a6, a7, a8⟩ := h3
    refine ⟨by rw [if_neg (by omega), if_neg (by omega)]; exact a2, by rw [if_neg (by omega), if_pos rfl]; omega, ?_, by rw [if_neg (by omega), if_neg (by omega)]; exact a5, by rw [if_neg (by omega), if_neg (by omega)]; exact a6, by rw [if_neg (by omega), if_neg (by omega)]; exact a7, fun t ht => by rw [if_neg (by omega), if_neg (by omega)]; exact a8 t ht⟩
    by_cases q : kdt W r s X Y = 0
    · rw [if_pos ⟨rfl, q⟩]; omega
    · rw [if_neg (fun e => q e.2), if_neg (by decide)]; exact a4
end NA
