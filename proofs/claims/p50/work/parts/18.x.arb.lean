/-! areBoards, from its first row on: it makes an array of two numbers. -/
noncomputable def d_184 (nx a0 : Nat) (m : Mm) : Option (Bool × Mm) := (d_125 a0 0 m).bind fun v1 => d_184_15 a0 v1 0 (-1) nx (wa m nx (fun _ => 0))
theorem sh_new {nx : Nat} (hN : okn nx) (hN1 : okn (nx + 1)) : sh_c nx = 100 ∧ sh_n nx = 2 := by
  have key : ∀ j, j < 4 → sh_c (249 + j) = 100 ∧ sh_n (249 + j) = 2 := by decide +kernel
  have h := key (nx - 249) (by have := hN.1; have := hN1.2; omega)
  rw [show 249 + (nx - 249) = nx by have := hN.1; omega] at h
  exact h
theorem t_184 {L nx : Nat} (hN : okn nx) (hN1 : okn (nx + 1)) {b z : Nat} (hb : 1 ≤ b) (hz : 2 ≤ z) {m : Mm} {a0 : Nat} (h0 : ok nx a0 10) : Im (d_184 nx a0 m) (fun r e => e = some (.inl (some (.int (bi r.1))), (nx + 1, mem L (nx + 1) r.2))) (ev_dn b z 184 0 [some (.ref a0), none, none, none, none, none, none] [] (nx, mem L nx m)) := by
  unfold d_184
  refine i_bl (pc' := 2) [(.aload_n 0, 1), (.iconst 0, 1)] [some (.ref a0), none, none, none, none, none, none] [.int 0, .ref a0] (by decide +kernel) rfl ?_
  refine i_cv (ci := 10) (t := 125) (na := 2) (ml := 2) (idx := 97) (pc' := 5) (st' := []) (en := [some (.ref a0), some (.int 0)]) (av := [.int 0]) (vo := fun v => some (.int v)) (mo := fun _ => m) (s2 := fun v => .int v :: []) (by decide +kernel) (by decide +kernel) h0 ⟨rfl, rfl, rfl, rfl, rfl, rfl⟩ (fun _ => rfl) (t_125 hN (h0 := h0)) (fun v1 => ?_)
  refine i_bl (pc' := 11) [(.istore_n 1, 1), (.iconst 0, 1), (.istore_n 2, 1), (.iconst (-1), 1), (.istore_n 3, 1), (.iconst 2, 1)] [some (.ref a0), some (.int v1), some (.int 0), some (.int (-1)), none, none, none] [.int 2] (by decide +kernel) rfl ?_
  refine i_st (n_ni (k := 2) (at1 (by decide +kernel)) (by decide) (by decide)) ?_
  rw [if_pos ⟨hb, hz⟩]
  dsimp only
  rw [mem_new (sh_new hN hN1)]
  refine i_bl (pc' := 15) [(.astore 4, 2)] [some (.ref a0), some (.int v1), some (.int 0), some (.int (-1)), some (.ref nx), none, none] [] (by decide +kernel) rfl ?_
  exact t_184_15 hN1 (h0 := ⟨h0.1, Nat.lt_succ_of_lt h0.2⟩) (h4 := ⟨(sh_new hN hN1).1, Nat.lt_succ_self _⟩)
