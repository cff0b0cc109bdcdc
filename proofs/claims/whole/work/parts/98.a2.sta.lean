/-! The start of the law. -/
section NG
variable {L : Nat} {xs : Nat → Int32}
theorem cel_nx {nx nx' a : Nat} {f : Nat → Int32} (h : a < nx) (h' : a < nx') : cel L nx a f = cel L nx' a f := by
  unfold cel
  rw [if_pos h, if_pos h']
theorem zm_lo {a : Nat} (h : a < 20) : ev_sf L xs a = cel L 249 a (zm xs a) := by
  have k9 : ∀ j, j < 17 → sh_c (j + 3) = 109 ∧ sh_n (j + 3) = (ev_tb j).length := by decide +kernel
  unfold ev_sf cel
  rw [if_pos (show a < 249 by omega)]
  by_cases h0 : a = 0
  · subst h0
    rw [if_pos rfl, if_neg (by decide +kernel), if_pos (by decide +kernel), if_neg (by decide), show sh_n 0 = 6 by decide +kernel]
    rfl
  by_cases h1 : a = 1
  · subst h1
    rw [if_neg h0, if_pos rfl, if_neg (by decide +kernel), if_pos (by decide +kernel), if_neg (by decide), show sh_n 1 = 7 by decide +kernel]
    rfl
  by_cases h2 : a = 2
  · subst h2
    rw [if_neg h0, if_neg h1, if_pos rfl, if_neg (by decide +kernel), if_pos (by decide +kernel), if_pos rfl]
    rfl
  obtain ⟨j, rfl⟩ : ∃ j, a = j + 3 := ⟨a - 3, by omega⟩
  obtain ⟨e1, e2⟩ := k9 j (by omega)
  rw [if_neg h0, if_neg h1, if_neg h2, if_pos (show j + 3 < ev_S from h), e1, e2, Nat.add_sub_cancel, if_neg (by decide), if_neg (by decide), if_neg (by decide), if_neg (by decide), if_neg (by decide), if_neg (by decide), if_pos rfl]
  refine congrArg some (congrArg (ev_ia 9 _) ?_)
  funext k
  unfold zm
  rw [if_neg h0, if_neg h1, if_neg h2, if_pos h, Nat.add_sub_cancel]
theorem sf_hi {a : Nat} (h : 20 ≤ a) : ev_sf L xs a = none := by
  unfold ev_sf
  rw [if_neg (by omega), if_neg (by omega), if_neg (by omega), if_neg (show ¬ a < ev_S from Nat.not_lt.mpr h)]
theorem f_20 : cel L 267 20 (zm xs 20) = some (ev_ob 10 [.ref 21, .ref 23, .ref 42, .ref 61, .int 0, .ref 80, .ref 234, .ref 237, .ref 243, .ref 248, .int 0]) := by
  unfold cel
  rw [if_pos (by decide), if_pos (by decide +kernel), zm_0 (by decide) (by decide +kernel) (by decide +kernel) (by decide +kernel), show sh_c 20 = 10 by decide +kernel]
  show some (ev_ob 10 [.ref (sh_r 20 0), .ref (sh_r 20 1), .ref (sh_r 20 2), .ref (sh_r 20 3), .int 0, .ref (sh_r 20 5), .ref (sh_r 20 6), .ref (sh_r 20 7), .ref (sh_r 20 8), .ref (sh_r 20 9), .int 0]) = _
  rw [show sh_r 20 0 = 21 by decide +kernel, show sh_r 20 1 = 23 by decide +kernel, show sh_r 20 2 = 42 by decide +kernel, show sh_r 20 3 = 61 by decide +kernel, show sh_r 20 5 = 80 by decide +kernel, show sh_r 20 6 = 234 by decide +kernel, show sh_r 20 7 = 237 by decide +kernel, show sh_r 20 8 = 243 by decide +kernel, show sh_r 20 9 = 248 by decide +kernel]
theorem f_249 : cel L 267 249 (zm xs 249) = some (ev_ob 11 [.int 0, .ref 250, .ref 251, .ref 252, .ref 253, .ref 254, .ref 255, .ref 256, .int 0, .int 0, .ref 257, .ref 258, .ref 259, .ref 260, .ref 261, .ref 262, .ref 263, .ref 264, .int 0, .int 0, .int 0, .int 0, .int 0, .int 0, .int 0, .int 0, .int (-1), .int 0, .int 0, .ref 265, .int 0]) := by
  have ez : zm xs 249 = fun k => if k = 26 then -1 else 0 := by
    funext k
    unfold zm
    rw [if_neg (by decide), if_neg (by decide), if_neg (by decide), if_neg (by decide), if_neg (by decide +kernel), if_neg (by decide +kernel), if_pos (by decide +kernel)]
  unfold cel
  rw [if_pos (by decide), if_pos (by decide +kernel), ez, show sh_c 249 = 11 by decide +kernel]
  show some (ev_ob 11 [.int 0, .ref (sh_r 249 1), .ref (sh_r 249 2), .ref (sh_r 249 3), .ref (sh_r 249 4), .ref (sh_r 249 5), .ref (sh_r 249 6), .ref (sh_r 249 7), .int 0, .int 0, .ref (sh_r 249 10), .ref (sh_r 249 11), .ref (sh_r 249 12), .ref (sh_r 249 13), .ref (sh_r 249 14), .ref (sh_r 249 15), .ref (sh_r 249 16), .ref (sh_r 249 17), .int 0, .int 0, .int 0, .int 0, .int 0, .int 0, .int 0, .int 0, .int (-1), .int 0, .int 0, .ref (sh_r 249 29), .int 0]) = _
  have e : ∀ k, k < 8 → 0 < k → sh_r 249 k = 249 + k := by decide +kernel
  have e2 : ∀ k, k < 18 → 9 < k → sh_r 249 k = 247 + k := by decide +kernel
  rw [e 1 (by decide) (by decide), e 2 (by decide) (by decide), e 3 (by decide) (by decide), e 4 (by decide) (by decide), e 5 (by decide) (by decide), e 6 (by decide) (by decide), e 7 (by decide) (by decide), e2 10 (by decide) (by decide), e2 11 (by decide) (by decide), e2 12 (by decide) (by decide), e2 13 (by decide) (by decide), e2 14 (by decide) (by decide), e2 15 (by decide) (by decide), e2 16 (by decide) (by decide), e2 17 (by decide) (by decide), show sh_r 249 29 = 265 by decide +kernel]
theorem K_119 {m1 : Mm} (h : d_119 20 (zm xs) = some m1) : ev_dn 228 10819 119 0 [some (.ref 20)] [] (21, ev_up (ev_sf L xs) 20 (ev_ob 10 (ev_new 10))) = some (.inl none, (249, mem L 249 m1)) := by
  have hF : ev_up (ev_sf L xs) 20 (ev_ob 10 (ev_new 10)) 20 = some (ev_ob 10 (ev_new 10)) := if_pos rfl
  have hc := cK_st (L := L) (xs := xs) (n := 21) hF
  rw [show (21, ev_up (ev_sf L xs) 20 (ev_ob 10 (ev_new 10))) = (21, cK L xs (ev_up (ev_sf L xs) 20 (ev_ob 10 (ev_new 10))) 20 21 21 (ev_ob 10 (ev_new 10))) from congrArg (Prod.mk 21) hc, N_119]
  have e : cK L xs (ev_up (ev_sf L xs) 20 (ev_ob 10 (ev_new 10))) 20 21 249 (ev_ob 10 [.ref 21, .ref 23, .ref 42, .ref 61, .int 0, .ref 80, .ref 234, .ref 237, .ref 243, .ref 248, .int 0]) = mem L 249 (zm xs) := by
    funext c
    unfold cK mem
    by_cases q : c = 20
    · rw [if_pos q, q, ← f_20 (L := L) (xs := xs)]
      exact cel_nx (by decide) (by decide)
    · rw [if_neg q]
      by_cases q2 : 21 ≤ c ∧ c < 249
      · rw [if_pos q2]
        exact cel_nx (by omega) q2.2
      · rw [if_neg q2]
        refine (if_neg q).trans ?_
        by_cases q3 : c < 20
        · exact zm_lo q3
        · rw [sf_hi (by omega)]
          unfold cel
          rw [if_neg (by omega)]
  rw [e]
  exact t_119 (Or.inl rfl) (h0 := ⟨by decide +kernel, by decide⟩) _ h
/-- the numbers of the class, and new ones -/
def zj (xs : Nat → Int32) (m1 : Mm) : Mm := fun a => if a < 249 then m1 a else zm xs a
theorem K_181 {m1 m2 : Mm} (h : d_181 249 (zj xs m1) = some m2) : ev_dn 16 12388 181 0 [some (.ref 249), none] [] (250, ev_up (mem L 249 m1) 249 (ev_ob 11 (ev_new 11))) = some (.inl none, (266, mem L 266 m2)) := by
  have hF : ev_up (mem L 249 m1) 249 (ev_ob 11 (ev_new 11)) 249 = some (ev_ob 11 (ev_new 11)) := if_pos rfl
  have hc := cK_st (L := L) (xs := xs) (n := 250) hF
  rw [show (250, ev_up (mem L 249 m1) 249 (ev_ob 11 (ev_new 11))) = (250, cK L xs (ev_up (mem L 249 m1) 249 (ev_ob 11 (ev_new 11))) 249 250 250 (ev_ob 11 (ev_new 11))) from congrArg (Prod.mk 250) hc, N_181]
  have e : cK L xs (ev_up (mem L 249 m1) 249 (ev_ob 11 (ev_new 11))) 249 250 266 (ev_ob 11 [.int 0, .ref 250, .ref 251, .ref 252, .ref 253, .ref 254, .ref 255, .ref 256, .int 0, .int 0, .ref 257, .ref 258, .ref 259, .ref 260, .ref 261, .ref 262, .ref 263, .ref 264, .int 0, .int 0, .int 0, .int 0, .int 0, .int 0, .int 0, .int 0, .int (-1), .int 0, .int 0, .ref 265, .int 0]) = mem L 266 (zj xs m1) := by
    funext c
    unfold cK mem zj
    by_cases q : c = 249
    · rw [if_pos q, q, ← f_249 (L := L) (xs := xs), if_neg (by decide)]
      exact cel_nx (by decide) (by decide)
    · rw [if_neg q]
      by_cases q2 : 250 ≤ c ∧ c < 266
      · rw [if_pos q2, if_neg (by omega)]
        exact cel_nx (by omega) q2.2
      · rw [if_neg q2]
        refine (if_neg q).trans ?_
        by_cases q3 : c < 249
        · rw [if_pos q3]
          exact cel_nx q3 (by omega)
        · unfold cel
          dsimp only
          rw [if_neg (by omega), if_neg (by omega)]
  rw [e]
  exact t_181 (Or.inr (Or.inl rfl)) (h0 := ⟨by decide +kernel, by decide⟩) _ h
/-- a whole object made at the top -/
theorem y_nt {b z M pc idx idx2 ci2 p kz t ml k1 k2 pc' b' z' n n' : Nat} {lo en : ev_L} {G G' : Nat → Option ev_E} (hd : ev_at M pc [(.new idx, 3), (.dup, 1), (.invokespecial idx2, 3)] = true ∧ ev_nw (ev_ci M) idx = some (ci2, p) ∧ (ev_C ci2).2.2 = kz ∧ cd_ M (pc + 3 + 1) t 2 1 ml k1 k2 pc' (.invokespecial idx2) ∧ ev_ci t = ci2) (ho : co_ 1 ml [.ref n, .ref n] [.ref n] [.ref n] en) (hz : ((1 ≤ b ∧ kz ≤ z) ∧ k1 ≤ b - 1 ∧ k2 ≤ z - kz) ∧ b - 1 - k1 = b' ∧ z - kz - k2 = z') (h20 : 20 ≤ n)
    (hk : ev_dn k1 k2 t 0 en [] (n + 1, ev_up G n (ev_ob ci2 (ev_new ci2))) = some (.inl none, (n', G'))) :
    ev_dn b z M pc lo [] (n, G) = ev_dn b' z' M pc' lo [.ref n] (n', G') := by
  obtain ⟨hz, rfl, rfl⟩ := hz
  obtain ⟨g1, g2, g3, g4, g5⟩ := hd
  have g1' := g1
  unfold ev_at at g1'
  simp only [Bool.and_eq_true, decide_eq_true_eq] at g1'
  obtain ⟨⟨a1, a2⟩, a3⟩ := g1'
  have a2 := Option.isNone_iff_eq_none.mp a2
  unfold ev_at at a3
  simp only [Bool.and_eq_true, decide_eq_true_eq] at a3
  obtain ⟨⟨b1, b2⟩, b3⟩ := a3
  have b2 := Option.isNone_iff_eq_none.mp b2
  rw [n_nw ⟨a1, a2⟩ g2 g3 rfl, if_pos hz.1]
  dsimp only
  rw [n_pu (st' := [.ref n, .ref n]) ⟨b1, b2⟩ rfl]
  have hr : ev_rc t 2 (.ref n :: []) (n + 1, ev_up G n (ev_ob ci2 (ev_new ci2))) = true := by
    have e1 : ev_up G n (ev_ob ci2 (ev_new ci2)) n = some (ev_ob ci2 (ev_new ci2)) := if_pos rfl
    simp only [ev_rc, e1]
    exact decide_eq_true ⟨g5.symm, h20⟩
  rw [i_c0 g4 ho rfl rfl rfl rfl rfl hr hz.2, hk]
  unfold ev_bh
  dsimp only
  rw [g4.2.2.2.2.2.2.2.2.2.2]
  rfl
theorem start_ok : START := by
  intro L xs hL
  obtain ⟨m1, d1, a1, a2⟩ := c119 (m := zm xs)
  obtain ⟨m2, d2, b1, b2⟩ := m181 (m := zj xs m1)
  refine ⟨600777, 7269784, (none, none, none, none), fun a => if a = 266 then (fun _ => 0) else m2 a, by decide, by decide, ?_, ?_⟩
  · rw [y_nt (b' := 600795) (z' := 7282204) (idx := 8) (idx2 := 137) (ci2 := 10) (p := 11028) (kz := 11) (t := 119) (ml := 1) (k1 := 228) (k2 := 10819) (pc' := 7) (n' := 249) (en := [some (.ref 20)]) (by decide +kernel) ⟨rfl, rfl, rfl, rfl, rfl, rfl⟩ (by decide) (by decide) (K_119 d1)]
    rw [y_bl (pc' := 8) [(.astore_n 1, 1)] [some (.ref 2), some (.ref 20), none, none, none, none, none, none, none] [] (by decide +kernel) rfl]
    rw [y_nt (b' := 600778) (z' := 7269785) (idx := 138) (idx2 := 140) (ci2 := 11) (p := 16223) (kz := 31) (t := 181) (ml := 2) (k1 := 16) (k2 := 12388) (pc' := 15) (n' := 266) (en := [some (.ref 249), none]) (by decide +kernel) ⟨rfl, rfl, rfl, rfl, rfl, rfl⟩ (by decide) (by decide) (K_181 d2)]
    rw [y_bl (pc' := 17) [(.astore_n 2, 1), (.iconst 1, 1)] [some (.ref 2), some (.ref 20), some (.ref 249), none, none, none, none, none, none] [.int 1] (by decide +kernel) rfl]
    rw [n_nl (k := 1) (at1 (by decide +kernel)) (by decide +kernel) (by decide), if_pos (by decide)]
    have e : ev_up (mem L 266 m2) 266 (ev_la 1 (fun _ => 0)) = mem L 267 (fun a => if a = 266 then (fun _ => 0) else m2 a) := by
      funext c
      unfold ev_up mem
      dsimp only
      by_cases q : c = 266
      · rw [if_pos q, if_pos q, q, cel_la (by decide +kernel), show sh_n 266 = 1 by decide +kernel]
        rfl
      · rw [if_neg q, if_neg q]
        by_cases q2 : c < 266
        · exact cel_nx q2 (by omega)
        · unfold cel
          rw [if_neg (by omega), if_neg (by omega)]
    dsimp only
    rw [e]
    rw [y_bl (pc' := 23) [(.astore_n 3, 1), (.iconst 0, 1), (.istore 4, 2)] [some (.ref 2), some (.ref 20), some (.ref 249), some (.ref 266), some (.int 0), none, none, none, none] [] (by decide +kernel) rfl]
    rfl
  · have f : ∀ a, a ≠ 250 → (a < 23 ∨ 41 < a) → a < 266 → (fun a => if a = 266 then (fun _ => 0) else m2 a) a = zm xs a := fun a h1 h2 h3 => by
      dsimp only
      rw [if_neg (by omega), b2 a h1]
      unfold zj
      by_cases q : a < 249
      · rw [if_pos q, a2 a h2]
      · rw [if_neg q]
    have f23 : ∀ a, 23 ≤ a → a ≤ 41 → (fun a => if a = 266 then (fun _ => 0) else m2 a) a = m1 a := fun a h1 h2 => by
      dsimp only
      rw [if_neg (by omega), b2 a (by omega)]
      unfold zj
      rw [if_pos (by omega)]
    have f250 : (fun a => if a = 266 then (fun _ => (0 : Int32)) else m2 a) 250 = m2 250 := if_neg (by decide)
    generalize (fun a => if a = 266 then (fun _ => (0 : Int32)) else m2 a) = m at *
    have z20 : zm xs 20 = fun _ => 0 := zm_0 (by decide) (by decide +kernel) (by decide +kernel) (by decide +kernel)
    have z80 : zm xs 80 = fun _ => 0 := zm_0 (by decide) (by decide +kernel) (by decide +kernel) (by decide +kernel)
    have z21 : zm xs 21 = fun k => if k = 3 then -1 else 0 := zm_c8 (by decide) (by decide +kernel)
    have z249 : zm xs 249 = fun k => if k = 26 then -1 else 0 := by
      funext k
      unfold zm
      rw [if_neg (by decide), if_neg (by decide), if_neg (by decide), if_neg (by decide), if_neg (by decide +kernel), if_neg (by decide +kernel), if_pos (by decide +kernel)]
    have e20 := f 20 (by decide) (by decide) (by decide)
    have e80 := f 80 (by decide) (by decide) (by decide)
    have e21 := f 21 (by decide) (by decide) (by decide)
    have e249 := f 249 (by decide) (by decide) (by decide)
    rw [z20] at e20
    rw [z80] at e80
    rw [z21] at e21
    rw [z249] at e249
    refine ⟨?_, ?_, ⟨r_st, 5, 5, b1.mm f250, r_st_G, a1.mm (fun a h1 h2 => f23 a h1 h2)⟩, ⟨false, ?_, ?_, fun h => by cases h⟩, ⟨0, 0, by decide, by decide, ?_, ?_, ?_, fun j hj => absurd hj (Nat.not_lt_zero j)⟩, ⟨0, by decide, ?_, ?_, fun i hi => absurd hi (Nat.not_lt_zero i)⟩, ⟨?_, ?_⟩, ⟨0, by decide, ?_, ?_, fun i hi => absurd hi (Nat.not_lt_zero i)⟩⟩
    · unfold VL
      rw [f 0 (by decide) (by decide) (by decide), f 1 (by decide) (by decide) (by decide)]
      have v1 : ∀ q : Nat, q < 13 → 1 ≤ q → ([100, 9, 5, 3, 3, 1] : List Int32).getD (kd (q : Nat) - 1).toNat 0 = zI (vl (q : Nat)) := by decide +kernel
      have v2 : ∀ q : Nat, q < 13 → ([0, 100, 9, 5, 3, 3, 1] : List Int32).getD (kd (q : Nat)).toNat 0 = zI (vl (q : Nat)) := by decide +kernel
      refine ⟨fun p h1 h2 => ?_, fun p h1 h2 => ?_⟩
      · obtain ⟨q, rfl⟩ : ∃ q : Nat, p = (q : Nat) := ⟨p.toNat, by omega⟩
        exact v1 q (by omega) (by omega)
      · obtain ⟨q, rfl⟩ : ∃ q : Nat, p = (q : Nat) := ⟨p.toNat, by omega⟩
        exact v2 q (by omega)
    · intro k hk i hi
      rw [f (3 + k) (by omega) (by omega) (by omega)]
      unfold zm
      rw [if_neg (by omega), if_neg (by omega), if_neg (by omega), if_pos (by omega), show 3 + k - 3 = k by omega]
    · rw [e20]; rfl
    · rw [e249]; rfl
    · rw [e80]; rfl
    · rw [e80]; rfl
    · rw [e249]; rfl
    · rw [e21]; rfl
    · rw [e249]; rfl
    · rw [e21, e249]; rfl
    · rw [e21, e249]; rfl
    · rw [e20]; rfl
    · rw [e249]; rfl
end NG
