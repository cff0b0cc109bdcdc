/-! The start of the law. -/
section NG
variable {L : Nat} {xs : Nat → Int32}
theorem cel_nx {nx nx' a : Nat} {f : Nat → Int32} (h : a < nx) (h' : a < nx') : cel L nx a f = cel L nx' a f := by
  unfold cel
  rw [if_pos h, if_pos h']
theorem zm_lo {a : Nat} (h : a < 20) : ev_sf L xs a = cel L 249 a (zm xs a) := by
  have k9 : ∀ j, j < 17 → sh_c (j + 3) = 109 ∧ sh_n (j + 3) = (ev_tb j).length := by decide +kernel
  unfold ev_sf cel
  rw [if_pos (show a < 249 by omega)]
  by_cases h0 : a = 0
  · subst h0
    rw [if_pos rfl, if_neg (by decide +kernel), if_pos (by decide +kernel), if_neg (by decide), show sh_n 0 = 6 by decide +kernel]
    rfl
  by_cases h1 : a = 1
  · subst h1
    rw [if_neg h0, if_pos rfl, if_neg (by decide +kernel), if_pos (by decide +kernel), if_neg (by decide), show sh_n 1 = 6 by decide +kernel]
    rfl
  by_cases h2 : a = 2
  · subst h2
    rw [if_neg h0, if_neg h1, if_pos rfl, if_neg (by decide +kernel), if_pos (by decide +kernel), if_pos rfl]
    rfl
  obtain ⟨j, rfl⟩ : ∃ j, a = j + 3 := ⟨a - 3, by omega⟩
  obtain ⟨e1, e2⟩ := k9 j (by omega)
  rw [if_neg h0, if_neg h1, if_neg h2, if_pos (show j + 3 < ev_S from h), e1, e2, Nat.add_sub_cancel, if_neg (by decide), if_neg (by decide), if_neg (by decide), if_neg (by decide), if_neg (by decide), if_neg (by decide), if_pos rfl]
  refine congrArg some (congrArg (ev_ia 9 _) ?_)
  funext k
  unfold zm
  rw [if_neg h0, if_neg h1, if_neg h2, if_pos h, Nat.add_sub_cancel]
theorem sf_hi {a : Nat} (h : 20 ≤ a) : ev_sf L xs a = none := by
  unfold ev_sf
  rw [if_neg (by omega), if_neg (by omega), if_neg (by omega), if_neg (show ¬ a < ev_S from Nat.not_lt.mpr h)]
theorem f_20 : cel L 267 20 (zm xs 20) = some (ev_ob 10 [.ref 21, .ref 23, .ref 42, .ref 61, .int 0, .ref 80, .ref 234, .ref 237, .ref 243, .ref 248, .int 0]) := by
  unfold cel
  rw [if_pos (by decide), if_pos (by decide +kernel), zm_0 (by decide) (by decide +kernel) (by decide +kernel) (by decide +kernel), show sh_c 20 = 10 by decide +kernel]
  show some (ev_ob 10 [.ref (sh_r 20 0), .ref (sh_r 20 1), .ref (sh_r 20 2), .ref (sh_r 20 3), .int 0, .ref (sh_r 20 5), .ref (sh_r 20 6), .ref (sh_r 20 7), .ref (sh_r 20 8), .ref (sh_r 20 9), .int 0]) = _
  rw [show sh_r 20 0 = 21 by decide +kernel, show sh_r 20 1 = 23 by decide +kernel, show sh_r 20 2 = 42 by decide +kernel, show sh_r 20 3 = 61 by decide +kernel, show sh_r 20 5 = 80 by decide +kernel, show sh_r 20 6 = 234 by decide +kernel, show sh_r 20 7 = 237 by decide +kernel, show sh_r 20 8 = 243 by decide +kernel, show sh_r 20 9 = 248 by decide +kernel]
theorem K_119 {m1 : Mm} (h : d_119 20 (zm xs) = some m1) : ev_dn 228 10819 119 0 [some (.ref 20)] [] (21, ev_up (ev_sf L xs) 20 (ev_ob 10 (ev_new 10))) = some (.inl none, (249, mem L 249 m1)) := by
  have hF : ev_up (ev_sf L xs) 20 (ev_ob 10 (ev_new 10)) 20 = some (ev_ob 10 (ev_new 10)) := if_pos rfl
  have hc := cK_st (L := L) (xs := xs) (n := 21) hF
  rw [show (21, ev_up (ev_sf L xs) 20 (ev_ob 10 (ev_new 10))) = (21, cK L xs (ev_up (ev_sf L xs) 20 (ev_ob 10 (ev_new 10))) 20 21 21 (ev_ob 10 (ev_new 10))) from congrArg (Prod.mk 21) hc, N_119]
  have e : cK L xs (ev_up (ev_sf L xs) 20 (ev_ob 10 (ev_new 10))) 20 21 249 (ev_ob 10 [.ref 21, .ref 23, .ref 42, .ref 61, .int 0, .ref 80, .ref 234, .ref 237, .ref 243, .ref 248, .int 0]) = mem L 249 (zm xs) := by
    funext c
    unfold cK mem
    by_cases q : c = 20
    · rw [if_pos q, q, ← f_20 (L := L) (xs := xs)]
      exact cel_nx (by decide) (by decide)
    · rw [if_neg q]
      by_cases q2 : 21 ≤ c ∧ c < 249
      · rw [if_pos q2]
        exact cel_nx (by omega) q2.2
      · rw [if_neg q2]
        refine (if_neg q).trans ?_
        by_cases q3 : c < 20
        · exact zm_lo q3
        · rw [sf_hi (by omega)]
          unfold cel
          rw [if_neg (by omega)]
  rw [e]
  exact t_119 (by decide) (h0 := ⟨by decide +kernel, by decide⟩) _ h
end NG
