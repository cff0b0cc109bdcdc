/-! printMoves. -/
section CP
variable {m : Mm} {r : Nat → Int} {W H n : Nat}
def prl (r : Nat → Int) (W : Nat) : Nat → List Int32
  | 0 => []
  | k + 1 => prl r W k ++ (if k = 0 then [] else [32]) ++ mvb r W k
theorem mvb_l (hR : RG n r W H) {k : Nat} (hk : (k : Int) < r 14) : 5 ≤ (mvb r W k).length ∧ (mvb r W k).length ≤ 13 := by
  obtain ⟨-, -, -, -, b4⟩ := hR.2.2.2.2.2.2.2.2.2.2.2 k hk
  unfold mvb cl
  simp only [List.length_append, List.length_cons, List.length_nil, List.length_replicate]
  omega
theorem prl_l (hR : RG n r W H) : ∀ {k : Nat}, (k : Int) ≤ r 14 → (k = 0 ∧ (prl r W k).length = 0) ∨ (1 ≤ (prl r W k).length ∧ (prl r W k).length + 1 ≤ 14 * k)
  | 0, _ => Or.inl ⟨rfl, rfl⟩
  | k + 1, h => by
    have h1 := prl_l hR (k := k) (by omega)
    have h2 := mvb_l hR (k := k) (by omega)
    refine Or.inr ?_
    unfold prl
    by_cases q : k = 0
    · rw [if_pos q]
      simp only [List.length_append, List.length_nil]
      omega
    · rw [if_neg q]
      simp only [List.length_append, List.length_singleton]
      omega
def prf (r : Nat → Int) (W : Nat) : List Int32 := if r 14 = 0 then [46] else prl r W (r 14).toNat
theorem prf_l (hR : RG n r W H) : (prf r W).length ≤ 279 := by
  have h14 := hR.2.2.2.2.2.2.2.2.1
  have := prl_l hR (k := (r 14).toNat) (by omega)
  unfold prf
  split
  · decide
  · omega
theorem c168 (hG : iGam n m r W H) (hn : n ≤ 512) : An (d_168 20 m) (fun p => p.1 = zI ((prf r W).length : Nat) ∧ OC m p.2 (prf r W)) := by
  have h14 := hG.2.1.2.2.2.2.2.2.2.2.1
  have hL := hG.2.2.2.2.2.2.1
  have e40 : ∀ m2 l2, OC m m2 l2 → m2 40 1 = zI (r 14) := fun m2 l2 h2 => by rw [h2.1 40 (by decide) (by decide)]; exact hL.1
  have z0 : zI (r 14) = 0 ↔ r 14 = 0 := by rw [zl_0, zI_inj (by omega) (by omega) (by omega) (by omega)]
  have lp : ∀ (m1 : Mm) (l0 : List Int32), OC m m1 l0 → l0 = (if r 14 = 0 then [46] else []) → An (d_168_26 20 0 m1) (fun p => p.1 = zI ((prf r W).length : Nat) ∧ OC m p.2 (prf r W)) := by
    intro m1 l0 h0 el
    have ef : l0 ++ prl r W (r 14).toNat = prf r W := by
      unfold prf
      by_cases q : r 14 = 0
      · rw [el, if_pos q, if_pos q, q]; rfl
      · rw [el, if_neg q, if_neg q]; rfl
    unfold d_168_26
    refine it_inv (fun j (s : Int32 × Mm) => s.1 = zI ((j : Nat) : Int) ∧ OC m s.2 (l0 ++ prl r W j)) _ (r 14).toNat ⟨rfl, by simpa [prl] using h0⟩ (fun j hj s hs => ?_) (fun s hs => ?_)
    · obtain ⟨x, m2⟩ := s
      obtain ⟨rfl, h2⟩ := hs
      change OC m m2 _ at h2
      have hl := prl_l hG.2.1 (k := j) (by omega)
      rw [if_neg (by omega)] at el
      subst el
      rw [List.nil_append] at h2
      show An (s_168_26 20 (zI ((j : Nat) : Int)) m2) _
      unfold s_168_26
      rw [log_a, e40 m2 _ h2, if_neg (by rw [zI_le (by omega) (by omega) (by omega) (by omega)]; omega), zl_0]
      have one : ∀ (m3 : Mm) (l3 : List Int32), OC m m3 l3 → l3.length + 13 ≤ 279 → l3 = prl r W j ++ (if j = 0 then [] else [32]) → An (d_168_50 20 (zI ((j : Nat) : Int)) m3) (fun q => match q with | .inl s' => s'.1 = zI (((j + 1 : Nat)) : Int) ∧ OC m s'.2 ([] ++ prl r W (j + 1)) | .inr v => v.1 = zI ((prf r W).length : Nat) ∧ OC m v.2 (prf r W)) := by
        intro m3 l3 h3 hl3 e3
        unfold d_168_50
        refine (c169 h3 hG hn (by omega) hl3).bd (fun m4 h4 => ?_)
        simp only [wbs]
        refine An.so ⟨by rw [zl_1, zI_add]; rfl, ?_⟩
        rw [List.nil_append]
        unfold prl
        rw [← e3]
        exact h4
      by_cases q : j = 0
      · rw [if_pos (by rw [zI_le (by omega) (by omega) (by omega) (by omega)]; omega)]
        exact (one m2 _ h2 (by omega) (by rw [if_pos q, List.append_nil])).mp (fun v hv => by cases v <;> exact hv)
      · rw [if_neg (by rw [zI_le (by omega) (by omega) (by omega) (by omega)]; omega)]
        refine (c171 h2 (by omega)).bd (fun m3 h3 => ?_)
        exact (one m3 _ h3 (by rw [List.length_append, List.length_singleton]; omega) (by rw [if_neg q])).mp (fun v hv => by cases v <;> exact hv)
    · obtain ⟨x, m2⟩ := s
      obtain ⟨rfl, h2⟩ := hs
      change OC m m2 _ at h2
      show An (s_168_26 20 (zI (((r 14).toNat : Nat) : Int)) m2) _
      unfold s_168_26 d_168_61
      rw [log_a, e40 m2 _ h2, if_pos (by rw [zI_le (by omega) (by omega) (by omega) (by omega)]; omega)]
      rw [ef] at h2
      exact An.so ⟨h2.2.2.1, h2⟩
  unfold d_168
  rw [wbs, log_a, e40 _ _ OC.nil]
  by_cases q : r 14 = 0
  · rw [if_neg (fun h => h (z0.2 q))]
    refine (c171 OC.nil (by decide)).bd (fun m3 h3 => ?_)
    exact lp m3 _ h3 (by rw [if_pos q]; rfl)
  · rw [if_pos (fun h => q (z0.1 h))]
    exact lp _ _ OC.nil (by rw [if_neg q])
end CP
