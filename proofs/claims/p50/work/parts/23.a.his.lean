/-! What is kept ahead of a change. -/
section HA
variable {m m1 m2 : Mm} {W H n : Nat} {r r' : Nat → Int}
/-- the class has kept r -/
def Hc (m M : Mm) (r : Nat → Int) (W H : Nat) : Prop := ∀ c x : Nat, c ≤ 8 → x < 8 → m 80 2 = zI (c : Nat) → m 80 1 = zI (x : Nat) → M 80 2 = zI ((if c = 8 then 8 else c + 1 : Nat) : Int) ∧ M 80 1 = zI (((x + 1) % 8 : Nat) : Int) ∧ GR M (82 + 19 * x) r W H ∧ ∀ a, 82 ≤ a → a < 234 → ¬ (82 + 19 * x ≤ a ∧ a ≤ 100 + 19 * x) → M a = m a
theorem h_r0 : sh_r 80 0 = 81 := by decide +kernel
theorem h_n : sh_n 81 = 8 := by decide +kernel
theorem h_r : ∀ i, i < 8 → sh_r 81 i = 82 + 19 * i := by decide +kernel
theorem c65 (hk : rok r) (h : GR m 23 r W H) {c x : Nat} (hc : c ≤ 8) (hx : x < 8) (e2 : m 80 2 = zI (c : Nat)) (e1 : m 80 1 = zI (x : Nat)) :
    An (d_65 80 23 m) (fun M => Hc m M r W H ∧ ∀ a, a ≠ 80 → ¬ (82 ≤ a ∧ a < 234) → M a = m a) := by
  have ea : zI (x : Nat) &&& 7 = zI (x : Nat) := by
    have := zI_and7 x
    rw [Nat.mod_eq_of_lt hx] at this
    exact this
  have eb : zI ((x + 1 : Nat) : Int) &&& 7 = zI (((x + 1) % 8 : Nat) : Int) := zI_and7 (x + 1)
  unfold d_65
  rw [h_r0, h_n, e1, ea, if_pos (in_k hx (by decide)), z_ix (by omega), h_r x hx]
  refine (c49 gA_23 (gA_h hx) (by omega) hk.1 hk.2.1 hk.2.2 h).bd (fun M hM => ?_)
  obtain ⟨g, f⟩ := hM
  unfold d_65_22
  have f80 : M 80 = m 80 := f 80 (by omega)
  rw [f80, e1, z1n, z_ad, eb, wbs, wbs, wr_nk (by decide), f80, e2, z_ad, show (8 : Int32) = zI 8 from rfl, zI_min (by omega) (by omega) (by omega) (by omega)]
  refine An.so ⟨fun c' x' hc' hx' e2' e1' => ?_, fun a a1 a2 => ?_⟩
  · have cc' : c' = c := by
      rw [e2, zI_inj (by omega) (by omega) (by omega) (by omega)] at e2'
      omega
    have xx' : x' = x := by
      rw [e1, zI_inj (by omega) (by omega) (by omega) (by omega)] at e1'
      omega
    subst cc'
    subst xx'
    refine ⟨?_, ?_, ?_, fun a a1 a2 a3 => ?_⟩
    · rw [wr_eq]
      congr 1
      split <;> split <;> omega
    · rw [wr_nk (by decide), wr_eq]
    · exact g.mm (fun a a1 a2 => by rw [wr_ne (by omega), wr_ne (by omega)])
    · rw [wr_ne (by omega), wr_ne (by omega), f a (by omega)]
  · rw [wr_ne a1, wr_ne a1, f a (by omega)]
end HA
