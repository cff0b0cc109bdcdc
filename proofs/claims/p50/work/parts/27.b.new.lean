/-! The constructors. -/
section NB
variable {L : Nat} {xs : Nat → Int32} {a n : Nat}
theorem zm_c0 (h : 20 ≤ a) (h0 : sh_c a = 0) : zm xs a = fun k => if 3 ≤ k ∧ k ≤ 5 then -1 else 0 := by
  funext k
  unfold zm
  rw [if_neg (by omega), if_neg (by omega), if_neg (by omega), if_neg (by omega), if_pos h0]
theorem zm_c8 (h : 20 ≤ a) (h0 : sh_c a = 8) : zm xs a = fun k => if k = 3 then -1 else 0 := by
  funext k
  unfold zm
  rw [if_neg (by omega), if_neg (by omega), if_neg (by omega), if_neg (by omega), if_neg (by rw [h0]; decide), if_pos h0]
abbrev S_9 (a n : Nat) : Prop := sh_c a = 1 ∧ a < n ∧ (sh_r a 0 = n ∧ sh_c (n) = 100 ∧ sh_n (n) = 64 ∧ n < 267) ∧ n < 267
theorem K_9 (h : S_9 a n) : Kt L xs 9 1 1 64 [some (.ref a)] a n (n + 1) := by
  intro F hF
  obtain ⟨e1, e6, s0, eN⟩ := h
  have h20 : 20 ≤ a := sh_lo (by rw [e1]; decide)
  have h20n : 20 ≤ n := Nat.le_of_lt (Nat.lt_of_le_of_lt h20 e6)
  have hc := cK_st (L := L) (xs := xs) (n := n) hF
  rw [show (n, F) = (n, cK L xs F a n n (ev_ob 1 (ev_new 1))) from congrArg (Prod.mk n) hc]
  rw [y_bl (pc' := 1) [(.aload_n 0, 1)] [some (.ref a)] [.ref a] (by decide +kernel) rfl]
  rw [y_ob (idx := 3) (pc' := 4) (by decide +kernel)]
  rw [y_bl (pc' := 7) [(.aload_n 0, 1), (.bipush 64, 2)] [some (.ref a)] [.int 64, .ref a] (by decide +kernel) rfl]
  rw [y_ni (b' := 0) (z' := 0) (n' := n + 1) (k := 64) (pc' := 9) (by decide +kernel) (by decide +kernel) (by decide) rfl e6 (Nat.le_refl n) s0.2]
  rw [y_pf (idx := 9) (ci := 1) (k := 0) (t := 2) (p := 11098) (pc' := 12) (fs' := [.ref n, .int 0, .int 0]) rfl (by decide +kernel) rfl h20 rfl]
  rw [y_bl (pc' := 14) [(.aload_n 0, 1), (.iconst 0, 1)] [some (.ref a)] [.int 0, .ref a] (by decide +kernel) rfl]
  rw [y_pf (idx := 15) (ci := 1) (k := 1) (t := 0) (p := 11099) (pc' := 17) (fs' := [.ref n, .int 0, .int 0]) rfl (by decide +kernel) rfl h20 rfl]
  rw [y_bl (pc' := 19) [(.aload_n 0, 1), (.iconst 0, 1)] [some (.ref a)] [.int 0, .ref a] (by decide +kernel) rfl]
  rw [y_pf (idx := 19) (ci := 1) (k := 2) (t := 0) (p := 11102) (pc' := 22) (fs' := [.ref n, .int 0, .int 0]) rfl (by decide +kernel) rfl h20 rfl]
  rw [y_rv (by decide +kernel), cK_en]
  unfold cel
  rw [if_pos (show a < 267 from Nat.lt_trans e6 eN), if_pos (show sh_c a < 15 by rw [e1]; decide), zm_0 h20 (by rw [e1]; decide) (by rw [e1]; decide) (by rw [e1]; decide), e1]
  show some (ev_ob 1 [.ref (sh_r a 0), .int 0, .int 0]) = _
  rw [s0.1]
abbrev S_37 (a n : Nat) : Prop := sh_c a = 2 ∧ a < n ∧ (sh_r a 0 = n ∧ sh_c (n) = 100 ∧ sh_n (n) = 8 ∧ n < 267) ∧ (sh_r a 1 = n + 1 ∧ sh_c (n + 1) = 100 ∧ sh_n (n + 1) = 8 ∧ n + 1 < 267) ∧ (sh_r a 2 = n + 2 ∧ sh_c (n + 2) = 100 ∧ sh_n (n + 2) = 8 ∧ n + 2 < 267) ∧ n + 2 < 267
theorem K_37 (h : S_37 a n) : Kt L xs 37 2 3 24 [some (.ref a)] a n (n + 3) := by
  intro F hF
  obtain ⟨e1, e6, s0, s1, s2, eN⟩ := h
  have h20 : 20 ≤ a := sh_lo (by rw [e1]; decide)
  have h20n : 20 ≤ n := Nat.le_of_lt (Nat.lt_of_le_of_lt h20 e6)
  have hc := cK_st (L := L) (xs := xs) (n := n) hF
  rw [show (n, F) = (n, cK L xs F a n n (ev_ob 2 (ev_new 2))) from congrArg (Prod.mk n) hc]
  rw [y_bl (pc' := 1) [(.aload_n 0, 1)] [some (.ref a)] [.ref a] (by decide +kernel) rfl]
  rw [y_ob (idx := 3) (pc' := 4) (by decide +kernel)]
  rw [y_bl (pc' := 7) [(.aload_n 0, 1), (.bipush 8, 2)] [some (.ref a)] [.int 8, .ref a] (by decide +kernel) rfl]
  rw [y_ni (b' := 2) (z' := 16) (n' := n + 1) (k := 8) (pc' := 9) (by decide +kernel) (by decide +kernel) (by decide) rfl e6 (Nat.le_refl n) s0.2]
  rw [y_pf (idx := 9) (ci := 2) (k := 0) (t := 2) (p := 11142) (pc' := 12) (fs' := [.ref n, .null, .null, .int 0]) rfl (by decide +kernel) rfl h20 rfl]
  rw [y_bl (pc' := 15) [(.aload_n 0, 1), (.bipush 8, 2)] [some (.ref a)] [.int 8, .ref a] (by decide +kernel) rfl]
  rw [y_ni (b' := 1) (z' := 8) (n' := n + 2) (k := 8) (pc' := 17) (by decide +kernel) (by decide +kernel) (by decide) rfl e6 (Nat.le_add_right n 1) s1.2]
  rw [y_pf (idx := 15) (ci := 2) (k := 1) (t := 2) (p := 11143) (pc' := 20) (fs' := [.ref n, .ref (n + 1), .null, .int 0]) rfl (by decide +kernel) rfl h20 rfl]
  rw [y_bl (pc' := 23) [(.aload_n 0, 1), (.bipush 8, 2)] [some (.ref a)] [.int 8, .ref a] (by decide +kernel) rfl]
  rw [y_ni (b' := 0) (z' := 0) (n' := n + 3) (k := 8) (pc' := 25) (by decide +kernel) (by decide +kernel) (by decide) rfl e6 (Nat.le_add_right n 2) s2.2]
  rw [y_pf (idx := 18) (ci := 2) (k := 2) (t := 2) (p := 11144) (pc' := 28) (fs' := [.ref n, .ref (n + 1), .ref (n + 2), .int 0]) rfl (by decide +kernel) rfl h20 rfl]
  rw [y_bl (pc' := 30) [(.aload_n 0, 1), (.iconst 0, 1)] [some (.ref a)] [.int 0, .ref a] (by decide +kernel) rfl]
  rw [y_pf (idx := 21) (ci := 2) (k := 3) (t := 0) (p := 11145) (pc' := 33) (fs' := [.ref n, .ref (n + 1), .ref (n + 2), .int 0]) rfl (by decide +kernel) rfl h20 rfl]
  rw [y_rv (by decide +kernel), cK_en]
  unfold cel
  rw [if_pos (show a < 267 from Nat.lt_trans e6 (Nat.lt_of_le_of_lt (Nat.le_add_right n 2) eN)), if_pos (show sh_c a < 15 by rw [e1]; decide), zm_0 h20 (by rw [e1]; decide) (by rw [e1]; decide) (by rw [e1]; decide), e1]
  show some (ev_ob 2 [.ref (sh_r a 0), .ref (sh_r a 1), .ref (sh_r a 2), .int 0]) = _
  rw [s0.1, s1.1, s2.1]
abbrev S_67 (a n : Nat) : Prop := sh_c a = 5 ∧ a < n ∧ (sh_r a 0 = n ∧ sh_c (n) = 100 ∧ sh_n (n) = 160 ∧ n < 267) ∧ n < 267
theorem K_67 (h : S_67 a n) : Kt L xs 67 5 1 160 [some (.ref a)] a n (n + 1) := by
  intro F hF
  obtain ⟨e1, e6, s0, eN⟩ := h
  have h20 : 20 ≤ a := sh_lo (by rw [e1]; decide)
  have h20n : 20 ≤ n := Nat.le_of_lt (Nat.lt_of_le_of_lt h20 e6)
  have hc := cK_st (L := L) (xs := xs) (n := n) hF
  rw [show (n, F) = (n, cK L xs F a n n (ev_ob 5 (ev_new 5))) from congrArg (Prod.mk n) hc]
  rw [y_bl (pc' := 1) [(.aload_n 0, 1)] [some (.ref a)] [.ref a] (by decide +kernel) rfl]
  rw [y_ob (idx := 3) (pc' := 4) (by decide +kernel)]
  rw [y_bl (pc' := 8) [(.aload_n 0, 1), (.sipush 160, 3)] [some (.ref a)] [.int 160, .ref a] (by decide +kernel) rfl]
  rw [y_ni (b' := 0) (z' := 0) (n' := n + 1) (k := 160) (pc' := 10) (by decide +kernel) (by decide +kernel) (by decide) rfl e6 (Nat.le_refl n) s0.2]
  rw [y_pf (idx := 9) (ci := 5) (k := 0) (t := 2) (p := 11163) (pc' := 13) (fs' := [.ref n, .int 0, .int 0]) rfl (by decide +kernel) rfl h20 rfl]
  rw [y_bl (pc' := 15) [(.aload_n 0, 1), (.iconst 0, 1)] [some (.ref a)] [.int 0, .ref a] (by decide +kernel) rfl]
  rw [y_pf (idx := 15) (ci := 5) (k := 1) (t := 0) (p := 11164) (pc' := 18) (fs' := [.ref n, .int 0, .int 0]) rfl (by decide +kernel) rfl h20 rfl]
  rw [y_bl (pc' := 20) [(.aload_n 0, 1), (.iconst 0, 1)] [some (.ref a)] [.int 0, .ref a] (by decide +kernel) rfl]
  rw [y_pf (idx := 19) (ci := 5) (k := 2) (t := 0) (p := 11166) (pc' := 23) (fs' := [.ref n, .int 0, .int 0]) rfl (by decide +kernel) rfl h20 rfl]
  rw [y_rv (by decide +kernel), cK_en]
  unfold cel
  rw [if_pos (show a < 267 from Nat.lt_trans e6 eN), if_pos (show sh_c a < 15 by rw [e1]; decide), zm_0 h20 (by rw [e1]; decide) (by rw [e1]; decide) (by rw [e1]; decide), e1]
  show some (ev_ob 5 [.ref (sh_r a 0), .int 0, .int 0]) = _
  rw [s0.1]
abbrev S_0 (a n : Nat) : Prop := sh_c a = 0 ∧ a < n ∧ (sh_r a 0 = n ∧ S_9 (n) (n + 1)) ∧ (sh_r a 1 = n + 2 ∧ S_9 (n + 2) (n + 3)) ∧ n + 3 < 267
theorem K_0 (h : S_0 a n) : Kt L xs 0 0 4 134 [some (.ref a)] a n (n + 4) := by
  intro F hF
  obtain ⟨e1, e6, s0, s1, eN⟩ := h
  have h20 : 20 ≤ a := sh_lo (by rw [e1]; decide)
  have h20n : 20 ≤ n := Nat.le_of_lt (Nat.lt_of_le_of_lt h20 e6)
  have hc := cK_st (L := L) (xs := xs) (n := n) hF
  rw [show (n, F) = (n, cK L xs F a n n (ev_ob 0 (ev_new 0))) from congrArg (Prod.mk n) hc]
  rw [y_bl (pc' := 1) [(.aload_n 0, 1)] [some (.ref a)] [.ref a] (by decide +kernel) rfl]
  rw [y_ob (idx := 3) (pc' := 4) (by decide +kernel)]
  rw [y_bl (pc' := 5) [(.aload_n 0, 1)] [some (.ref a)] [.ref a] (by decide +kernel) rfl]
  rw [y_nw (b' := 2) (z' := 67) (idx := 9) (idx2 := 11) (ci2 := 1) (p := 11092) (kz := 3) (t := 9) (ml := 1) (k1 := 1) (k2 := 64) (pc' := 12) (n' := n + 2) (en := [some (.ref n)]) (by decide +kernel) ⟨rfl, rfl, rfl, rfl, rfl, rfl⟩ (by decide) e6 (Nat.le_refl n) h20n (Nat.lt_add_of_pos_right (show 0 < 2 by decide)) (K_9 s0.2)]
  rw [y_pf (idx := 12) (ci := 0) (k := 0) (t := 2) (p := 11113) (pc' := 15) (fs' := [.ref n, .null, .int 0, .int 0, .int 0, .int 0]) rfl (by decide +kernel) rfl h20 rfl]
  rw [y_bl (pc' := 16) [(.aload_n 0, 1)] [some (.ref a)] [.ref a] (by decide +kernel) rfl]
  rw [y_nw (b' := 0) (z' := 0) (idx := 9) (idx2 := 11) (ci2 := 1) (p := 11092) (kz := 3) (t := 9) (ml := 1) (k1 := 1) (k2 := 64) (pc' := 23) (n' := n + 4) (en := [some (.ref (n + 2))]) (by decide +kernel) ⟨rfl, rfl, rfl, rfl, rfl, rfl⟩ (by decide) e6 (Nat.le_add_right n 2) (Nat.le_trans h20n (Nat.le_add_right n 2)) (Nat.add_lt_add_left (show 2 < 4 by decide) n) (K_9 s1.2)]
  rw [y_pf (idx := 18) (ci := 0) (k := 1) (t := 2) (p := 11117) (pc' := 26) (fs' := [.ref n, .ref (n + 2), .int 0, .int 0, .int 0, .int 0]) rfl (by decide +kernel) rfl h20 rfl]
  rw [y_bl (pc' := 28) [(.aload_n 0, 1), (.iconst 0, 1)] [some (.ref a)] [.int 0, .ref a] (by decide +kernel) rfl]
  rw [y_pf (idx := 21) (ci := 0) (k := 2) (t := 0) (p := 11118) (pc' := 31) (fs' := [.ref n, .ref (n + 2), .int 0, .int 0, .int 0, .int 0]) rfl (by decide +kernel) rfl h20 rfl]
  rw [y_bl (pc' := 33) [(.aload_n 0, 1), (.iconst (-1), 1)] [some (.ref a)] [.int (-1), .ref a] (by decide +kernel) rfl]
  rw [y_pf (idx := 25) (ci := 0) (k := 3) (t := 0) (p := 11120) (pc' := 36) (fs' := [.ref n, .ref (n + 2), .int 0, .int (-1), .int 0, .int 0]) rfl (by decide +kernel) rfl h20 rfl]
  rw [y_bl (pc' := 38) [(.aload_n 0, 1), (.iconst (-1), 1)] [some (.ref a)] [.int (-1), .ref a] (by decide +kernel) rfl]
  rw [y_pf (idx := 28) (ci := 0) (k := 4) (t := 0) (p := 11121) (pc' := 41) (fs' := [.ref n, .ref (n + 2), .int 0, .int (-1), .int (-1), .int 0]) rfl (by decide +kernel) rfl h20 rfl]
  rw [y_bl (pc' := 43) [(.aload_n 0, 1), (.iconst (-1), 1)] [some (.ref a)] [.int (-1), .ref a] (by decide +kernel) rfl]
  rw [y_pf (idx := 31) (ci := 0) (k := 5) (t := 0) (p := 11122) (pc' := 46) (fs' := [.ref n, .ref (n + 2), .int 0, .int (-1), .int (-1), .int (-1)]) rfl (by decide +kernel) rfl h20 rfl]
  rw [y_rv (by decide +kernel), cK_en]
  unfold cel
  rw [if_pos (show a < 267 from Nat.lt_trans e6 (Nat.lt_of_le_of_lt (Nat.le_add_right n 3) eN)), if_pos (show sh_c a < 15 by rw [e1]; decide), zm_c0 h20 e1, e1]
  show some (ev_ob 0 [.ref (sh_r a 0), .ref (sh_r a 1), .int 0, .int (-1), .int (-1), .int (-1)]) = _
  rw [s0.1, s1.1]
abbrev S_47 (a n : Nat) : Prop := sh_c a = 3 ∧ a < n ∧ (sh_r a 0 = n ∧ S_0 (n) (n + 1)) ∧ (sh_r a 1 = n + 5 ∧ S_0 (n + 5) (n + 6)) ∧ (sh_r a 2 = n + 10 ∧ S_37 (n + 10) (n + 11)) ∧ (sh_r a 3 = n + 14 ∧ S_67 (n + 14) (n + 15)) ∧ (sh_r a 4 = n + 16 ∧ S_67 (n + 16) (n + 17)) ∧ n + 17 < 267
theorem K_47a {F : Nat → Option ev_E} (h : S_47 a n) : ev_dn 18 634 47 0 [some (.ref a)] [] (n, cK L xs F a n n (ev_ob 3 (ev_new 3))) = ev_dn 0 0 47 59 [some (.ref a)] [] (n + 18, cK L xs F a n (n + 18) (ev_ob 3 [.ref n, .ref (n + 5), .ref (n + 10), .ref (n + 14), .ref (n + 16), .int 0, .int 0, .int 0, .int 0, .int 0, .int 0, .int 0, .int 0])) := by
  obtain ⟨e1, e6, s0, s1, s2, s3, s4, eN⟩ := h
  have h20 : 20 ≤ a := sh_lo (by rw [e1]; decide)
  have h20n : 20 ≤ n := Nat.le_of_lt (Nat.lt_of_le_of_lt h20 e6)
  rw [y_bl (pc' := 1) [(.aload_n 0, 1)] [some (.ref a)] [.ref a] (by decide +kernel) rfl]
  rw [y_ob (idx := 3) (pc' := 4) (by decide +kernel)]
  rw [y_bl (pc' := 5) [(.aload_n 0, 1)] [some (.ref a)] [.ref a] (by decide +kernel) rfl]
  rw [y_nw (b' := 13) (z' := 494) (idx := 9) (idx2 := 11) (ci2 := 0) (p := 11086) (kz := 6) (t := 0) (ml := 1) (k1 := 4) (k2 := 134) (pc' := 12) (n' := n + 5) (en := [some (.ref n)]) (by decide +kernel) ⟨rfl, rfl, rfl, rfl, rfl, rfl⟩ (by decide) e6 (Nat.le_refl n) h20n (Nat.lt_add_of_pos_right (show 0 < 5 by decide)) (K_0 s0.2)]
  rw [y_pf (idx := 12) (ci := 3) (k := 0) (t := 2) (p := 11175) (pc' := 15) (fs' := [.ref n, .null, .null, .null, .null, .int 0, .int 0, .int 0, .int 0, .int 0, .int 0, .int 0, .int 0]) rfl (by decide +kernel) rfl h20 rfl]
  rw [y_bl (pc' := 16) [(.aload_n 0, 1)] [some (.ref a)] [.ref a] (by decide +kernel) rfl]
  rw [y_nw (b' := 8) (z' := 354) (idx := 9) (idx2 := 11) (ci2 := 0) (p := 11086) (kz := 6) (t := 0) (ml := 1) (k1 := 4) (k2 := 134) (pc' := 23) (n' := n + 10) (en := [some (.ref (n + 5))]) (by decide +kernel) ⟨rfl, rfl, rfl, rfl, rfl, rfl⟩ (by decide) e6 (Nat.le_add_right n 5) (Nat.le_trans h20n (Nat.le_add_right n 5)) (Nat.add_lt_add_left (show 5 < 10 by decide) n) (K_0 s1.2)]
  rw [y_pf (idx := 18) (ci := 3) (k := 1) (t := 2) (p := 11178) (pc' := 26) (fs' := [.ref n, .ref (n + 5), .null, .null, .null, .int 0, .int 0, .int 0, .int 0, .int 0, .int 0, .int 0, .int 0]) rfl (by decide +kernel) rfl h20 rfl]
  rw [y_bl (pc' := 27) [(.aload_n 0, 1)] [some (.ref a)] [.ref a] (by decide +kernel) rfl]
  rw [y_nw (b' := 4) (z' := 326) (idx := 21) (idx2 := 23) (ci2 := 2) (p := 11136) (kz := 4) (t := 37) (ml := 1) (k1 := 3) (k2 := 24) (pc' := 34) (n' := n + 14) (en := [some (.ref (n + 10))]) (by decide +kernel) ⟨rfl, rfl, rfl, rfl, rfl, rfl⟩ (by decide) e6 (Nat.le_add_right n 10) (Nat.le_trans h20n (Nat.le_add_right n 10)) (Nat.add_lt_add_left (show 10 < 14 by decide) n) (K_37 s2.2)]
  rw [y_pf (idx := 24) (ci := 3) (k := 2) (t := 2) (p := 11180) (pc' := 37) (fs' := [.ref n, .ref (n + 5), .ref (n + 10), .null, .null, .int 0, .int 0, .int 0, .int 0, .int 0, .int 0, .int 0, .int 0]) rfl (by decide +kernel) rfl h20 rfl]
  rw [y_bl (pc' := 38) [(.aload_n 0, 1)] [some (.ref a)] [.ref a] (by decide +kernel) rfl]
  rw [y_nw (b' := 2) (z' := 163) (idx := 28) (idx2 := 30) (ci2 := 5) (p := 11157) (kz := 3) (t := 67) (ml := 1) (k1 := 1) (k2 := 160) (pc' := 45) (n' := n + 16) (en := [some (.ref (n + 14))]) (by decide +kernel) ⟨rfl, rfl, rfl, rfl, rfl, rfl⟩ (by decide) e6 (Nat.le_add_right n 14) (Nat.le_trans h20n (Nat.le_add_right n 14)) (Nat.add_lt_add_left (show 14 < 16 by decide) n) (K_67 s3.2)]
  rw [y_pf (idx := 31) (ci := 3) (k := 3) (t := 2) (p := 11183) (pc' := 48) (fs' := [.ref n, .ref (n + 5), .ref (n + 10), .ref (n + 14), .null, .int 0, .int 0, .int 0, .int 0, .int 0, .int 0, .int 0, .int 0]) rfl (by decide +kernel) rfl h20 rfl]
  rw [y_bl (pc' := 49) [(.aload_n 0, 1)] [some (.ref a)] [.ref a] (by decide +kernel) rfl]
  rw [y_nw (b' := 0) (z' := 0) (idx := 28) (idx2 := 30) (ci2 := 5) (p := 11157) (kz := 3) (t := 67) (ml := 1) (k1 := 1) (k2 := 160) (pc' := 56) (n' := n + 18) (en := [some (.ref (n + 16))]) (by decide +kernel) ⟨rfl, rfl, rfl, rfl, rfl, rfl⟩ (by decide) e6 (Nat.le_add_right n 16) (Nat.le_trans h20n (Nat.le_add_right n 16)) (Nat.add_lt_add_left (show 16 < 18 by decide) n) (K_67 s4.2)]
  rw [y_pf (idx := 35) (ci := 3) (k := 4) (t := 2) (p := 11185) (pc' := 59) (fs' := [.ref n, .ref (n + 5), .ref (n + 10), .ref (n + 14), .ref (n + 16), .int 0, .int 0, .int 0, .int 0, .int 0, .int 0, .int 0, .int 0]) rfl (by decide +kernel) rfl h20 rfl]
theorem K_47 (h : S_47 a n) : Kt L xs 47 3 18 634 [some (.ref a)] a n (n + 18) := by
  intro F hF
  have h0 := h
  obtain ⟨e1, e6, s0, s1, s2, s3, s4, eN⟩ := h
  have h20 : 20 ≤ a := sh_lo (by rw [e1]; decide)
  have h20n : 20 ≤ n := Nat.le_of_lt (Nat.lt_of_le_of_lt h20 e6)
  have hc := cK_st (L := L) (xs := xs) (n := n) hF
  rw [show (n, F) = (n, cK L xs F a n n (ev_ob 3 (ev_new 3))) from congrArg (Prod.mk n) hc]
  rw [K_47a h0]
  rw [y_bl (pc' := 61) [(.aload_n 0, 1), (.iconst 0, 1)] [some (.ref a)] [.int 0, .ref a] (by decide +kernel) rfl]
  rw [y_pf (idx := 38) (ci := 3) (k := 5) (t := 0) (p := 11187) (pc' := 64) (fs' := [.ref n, .ref (n + 5), .ref (n + 10), .ref (n + 14), .ref (n + 16), .int 0, .int 0, .int 0, .int 0, .int 0, .int 0, .int 0, .int 0]) rfl (by decide +kernel) rfl h20 rfl]
  rw [y_bl (pc' := 66) [(.aload_n 0, 1), (.iconst 0, 1)] [some (.ref a)] [.int 0, .ref a] (by decide +kernel) rfl]
  rw [y_pf (idx := 42) (ci := 3) (k := 6) (t := 0) (p := 11189) (pc' := 69) (fs' := [.ref n, .ref (n + 5), .ref (n + 10), .ref (n + 14), .ref (n + 16), .int 0, .int 0, .int 0, .int 0, .int 0, .int 0, .int 0, .int 0]) rfl (by decide +kernel) rfl h20 rfl]
  rw [y_bl (pc' := 71) [(.aload_n 0, 1), (.iconst 0, 1)] [some (.ref a)] [.int 0, .ref a] (by decide +kernel) rfl]
  rw [y_pf (idx := 45) (ci := 3) (k := 7) (t := 0) (p := 11191) (pc' := 74) (fs' := [.ref n, .ref (n + 5), .ref (n + 10), .ref (n + 14), .ref (n + 16), .int 0, .int 0, .int 0, .int 0, .int 0, .int 0, .int 0, .int 0]) rfl (by decide +kernel) rfl h20 rfl]
  rw [y_bl (pc' := 76) [(.aload_n 0, 1), (.iconst 0, 1)] [some (.ref a)] [.int 0, .ref a] (by decide +kernel) rfl]
  rw [y_pf (idx := 48) (ci := 3) (k := 8) (t := 0) (p := 11193) (pc' := 79) (fs' := [.ref n, .ref (n + 5), .ref (n + 10), .ref (n + 14), .ref (n + 16), .int 0, .int 0, .int 0, .int 0, .int 0, .int 0, .int 0, .int 0]) rfl (by decide +kernel) rfl h20 rfl]
  rw [y_bl (pc' := 81) [(.aload_n 0, 1), (.iconst 0, 1)] [some (.ref a)] [.int 0, .ref a] (by decide +kernel) rfl]
  rw [y_pf (idx := 51) (ci := 3) (k := 9) (t := 0) (p := 11196) (pc' := 84) (fs' := [.ref n, .ref (n + 5), .ref (n + 10), .ref (n + 14), .ref (n + 16), .int 0, .int 0, .int 0, .int 0, .int 0, .int 0, .int 0, .int 0]) rfl (by decide +kernel) rfl h20 rfl]
  rw [y_bl (pc' := 86) [(.aload_n 0, 1), (.iconst 0, 1)] [some (.ref a)] [.int 0, .ref a] (by decide +kernel) rfl]
  rw [y_pf (idx := 54) (ci := 3) (k := 10) (t := 0) (p := 11199) (pc' := 89) (fs' := [.ref n, .ref (n + 5), .ref (n + 10), .ref (n + 14), .ref (n + 16), .int 0, .int 0, .int 0, .int 0, .int 0, .int 0, .int 0, .int 0]) rfl (by decide +kernel) rfl h20 rfl]
  rw [y_bl (pc' := 91) [(.aload_n 0, 1), (.iconst 0, 1)] [some (.ref a)] [.int 0, .ref a] (by decide +kernel) rfl]
  rw [y_pf (idx := 57) (ci := 3) (k := 11) (t := 0) (p := 11202) (pc' := 94) (fs' := [.ref n, .ref (n + 5), .ref (n + 10), .ref (n + 14), .ref (n + 16), .int 0, .int 0, .int 0, .int 0, .int 0, .int 0, .int 0, .int 0]) rfl (by decide +kernel) rfl h20 rfl]
  rw [y_bl (pc' := 96) [(.aload_n 0, 1), (.iconst 0, 1)] [some (.ref a)] [.int 0, .ref a] (by decide +kernel) rfl]
  rw [y_pf (idx := 60) (ci := 3) (k := 12) (t := 0) (p := 11203) (pc' := 99) (fs' := [.ref n, .ref (n + 5), .ref (n + 10), .ref (n + 14), .ref (n + 16), .int 0, .int 0, .int 0, .int 0, .int 0, .int 0, .int 0, .int 0]) rfl (by decide +kernel) rfl h20 rfl]
  rw [y_rv (by decide +kernel), cK_en]
  unfold cel
  rw [if_pos (show a < 267 from Nat.lt_trans e6 (Nat.lt_of_le_of_lt (Nat.le_add_right n 17) eN)), if_pos (show sh_c a < 15 by rw [e1]; decide), zm_0 h20 (by rw [e1]; decide) (by rw [e1]; decide) (by rw [e1]; decide), e1]
  show some (ev_ob 3 [.ref (sh_r a 0), .ref (sh_r a 1), .ref (sh_r a 2), .ref (sh_r a 3), .ref (sh_r a 4), .int 0, .int 0, .int 0, .int 0, .int 0, .int 0, .int 0, .int 0]) = _
  rw [s0.1, s1.1, s2.1, s3.1, s4.1]
abbrev S_83 (a n : Nat) : Prop := sh_c a = 7 ∧ a < n ∧ (sh_r a 0 = n ∧ sh_c (n) = 100 ∧ sh_n (n) = 6 ∧ n < 267) ∧ (sh_r a 1 = n + 1 ∧ sh_c (n + 1) = 100 ∧ sh_n (n + 1) = 6 ∧ n + 1 < 267) ∧ n + 1 < 267
theorem K_83 (h : S_83 a n) : Kt L xs 83 7 2 12 [some (.ref a)] a n (n + 2) := by
  intro F hF
  obtain ⟨e1, e6, s0, s1, eN⟩ := h
  have h20 : 20 ≤ a := sh_lo (by rw [e1]; decide)
  have h20n : 20 ≤ n := Nat.le_of_lt (Nat.lt_of_le_of_lt h20 e6)
  have hc := cK_st (L := L) (xs := xs) (n := n) hF
  rw [show (n, F) = (n, cK L xs F a n n (ev_ob 7 (ev_new 7))) from congrArg (Prod.mk n) hc]
  rw [y_bl (pc' := 1) [(.aload_n 0, 1)] [some (.ref a)] [.ref a] (by decide +kernel) rfl]
  rw [y_ob (idx := 3) (pc' := 4) (by decide +kernel)]
  rw [y_bl (pc' := 7) [(.aload_n 0, 1), (.bipush 6, 2)] [some (.ref a)] [.int 6, .ref a] (by decide +kernel) rfl]
  rw [y_ni (b' := 1) (z' := 6) (n' := n + 1) (k := 6) (pc' := 9) (by decide +kernel) (by decide +kernel) (by decide) rfl e6 (Nat.le_refl n) s0.2]
  rw [y_pf (idx := 9) (ci := 7) (k := 0) (t := 2) (p := 12017) (pc' := 12) (fs' := [.ref n, .null, .int 0, .int 0, .int 0, .int 0, .int 0, .int 0]) rfl (by decide +kernel) rfl h20 rfl]
  rw [y_bl (pc' := 15) [(.aload_n 0, 1), (.bipush 6, 2)] [some (.ref a)] [.int 6, .ref a] (by decide +kernel) rfl]
  rw [y_ni (b' := 0) (z' := 0) (n' := n + 2) (k := 6) (pc' := 17) (by decide +kernel) (by decide +kernel) (by decide) rfl e6 (Nat.le_add_right n 1) s1.2]
  rw [y_pf (idx := 15) (ci := 7) (k := 1) (t := 2) (p := 12018) (pc' := 20) (fs' := [.ref n, .ref (n + 1), .int 0, .int 0, .int 0, .int 0, .int 0, .int 0]) rfl (by decide +kernel) rfl h20 rfl]
  rw [y_bl (pc' := 22) [(.aload_n 0, 1), (.iconst 0, 1)] [some (.ref a)] [.int 0, .ref a] (by decide +kernel) rfl]
  rw [y_pf (idx := 18) (ci := 7) (k := 2) (t := 0) (p := 12019) (pc' := 25) (fs' := [.ref n, .ref (n + 1), .int 0, .int 0, .int 0, .int 0, .int 0, .int 0]) rfl (by decide +kernel) rfl h20 rfl]
  rw [y_bl (pc' := 27) [(.aload_n 0, 1), (.iconst 0, 1)] [some (.ref a)] [.int 0, .ref a] (by decide +kernel) rfl]
  rw [y_pf (idx := 22) (ci := 7) (k := 3) (t := 0) (p := 12022) (pc' := 30) (fs' := [.ref n, .ref (n + 1), .int 0, .int 0, .int 0, .int 0, .int 0, .int 0]) rfl (by decide +kernel) rfl h20 rfl]
  rw [y_bl (pc' := 32) [(.aload_n 0, 1), (.iconst 0, 1)] [some (.ref a)] [.int 0, .ref a] (by decide +kernel) rfl]
  rw [y_pf (idx := 25) (ci := 7) (k := 4) (t := 0) (p := 12025) (pc' := 35) (fs' := [.ref n, .ref (n + 1), .int 0, .int 0, .int 0, .int 0, .int 0, .int 0]) rfl (by decide +kernel) rfl h20 rfl]
  rw [y_bl (pc' := 37) [(.aload_n 0, 1), (.iconst 0, 1)] [some (.ref a)] [.int 0, .ref a] (by decide +kernel) rfl]
  rw [y_pf (idx := 28) (ci := 7) (k := 5) (t := 0) (p := 12027) (pc' := 40) (fs' := [.ref n, .ref (n + 1), .int 0, .int 0, .int 0, .int 0, .int 0, .int 0]) rfl (by decide +kernel) rfl h20 rfl]
  rw [y_bl (pc' := 42) [(.aload_n 0, 1), (.iconst 0, 1)] [some (.ref a)] [.int 0, .ref a] (by decide +kernel) rfl]
  rw [y_pf (idx := 31) (ci := 7) (k := 6) (t := 1) (p := 12029) (pc' := 45) (fs' := [.ref n, .ref (n + 1), .int 0, .int 0, .int 0, .int 0, .int 0, .int 0]) rfl (by decide +kernel) rfl h20 rfl]
  rw [y_bl (pc' := 47) [(.aload_n 0, 1), (.iconst 0, 1)] [some (.ref a)] [.int 0, .ref a] (by decide +kernel) rfl]
  rw [y_pf (idx := 35) (ci := 7) (k := 7) (t := 0) (p := 12032) (pc' := 50) (fs' := [.ref n, .ref (n + 1), .int 0, .int 0, .int 0, .int 0, .int 0, .int 0]) rfl (by decide +kernel) rfl h20 rfl]
  rw [y_rv (by decide +kernel), cK_en]
  unfold cel
  rw [if_pos (show a < 267 from Nat.lt_trans e6 (Nat.lt_of_le_of_lt (Nat.le_add_right n 1) eN)), if_pos (show sh_c a < 15 by rw [e1]; decide), zm_0 h20 (by rw [e1]; decide) (by rw [e1]; decide) (by rw [e1]; decide), e1]
  show some (ev_ob 7 [.ref (sh_r a 0), .ref (sh_r a 1), .int 0, .int 0, .int 0, .int 0, .int 0, .int 0]) = _
  rw [s0.1, s1.1]
abbrev S_74 (a n : Nat) : Prop := sh_c a = 6 ∧ a < n ∧ (sh_r a 0 = n ∧ sh_c (n) = 100 ∧ sh_n (n) = 837 ∧ n < 267) ∧ (sh_r a 1 = n + 1 ∧ sh_c (n + 1) = 100 ∧ sh_n (n + 1) = 837 ∧ n + 1 < 267) ∧ (sh_r a 2 = n + 2 ∧ sh_c (n + 2) = 100 ∧ sh_n (n + 2) = 837 ∧ n + 2 < 267) ∧ (sh_r a 3 = n + 3 ∧ S_9 (n + 3) (n + 4)) ∧ n + 4 < 267
theorem K_74 (h : S_74 a n) : Kt L xs 74 6 5 2578 [some (.ref a)] a n (n + 5) := by
  intro F hF
  obtain ⟨e1, e6, s0, s1, s2, s3, eN⟩ := h
  have h20 : 20 ≤ a := sh_lo (by rw [e1]; decide)
  have h20n : 20 ≤ n := Nat.le_of_lt (Nat.lt_of_le_of_lt h20 e6)
  have hc := cK_st (L := L) (xs := xs) (n := n) hF
  rw [show (n, F) = (n, cK L xs F a n n (ev_ob 6 (ev_new 6))) from congrArg (Prod.mk n) hc]
  rw [y_bl (pc' := 1) [(.aload_n 0, 1)] [some (.ref a)] [.ref a] (by decide +kernel) rfl]
  rw [y_ob (idx := 3) (pc' := 4) (by decide +kernel)]
  rw [y_bl (pc' := 8) [(.aload_n 0, 1), (.sipush 837, 3)] [some (.ref a)] [.int 837, .ref a] (by decide +kernel) rfl]
  rw [y_ni (b' := 4) (z' := 1741) (n' := n + 1) (k := 837) (pc' := 10) (by decide +kernel) (by decide +kernel) (by decide) rfl e6 (Nat.le_refl n) s0.2]
  rw [y_pf (idx := 9) (ci := 6) (k := 0) (t := 2) (p := 12060) (pc' := 13) (fs' := [.ref n, .null, .null, .null, .int 0]) rfl (by decide +kernel) rfl h20 rfl]
  rw [y_bl (pc' := 17) [(.aload_n 0, 1), (.sipush 837, 3)] [some (.ref a)] [.int 837, .ref a] (by decide +kernel) rfl]
  rw [y_ni (b' := 3) (z' := 904) (n' := n + 2) (k := 837) (pc' := 19) (by decide +kernel) (by decide +kernel) (by decide) rfl e6 (Nat.le_add_right n 1) s1.2]
  rw [y_pf (idx := 15) (ci := 6) (k := 1) (t := 2) (p := 12061) (pc' := 22) (fs' := [.ref n, .ref (n + 1), .null, .null, .int 0]) rfl (by decide +kernel) rfl h20 rfl]
  rw [y_bl (pc' := 26) [(.aload_n 0, 1), (.sipush 837, 3)] [some (.ref a)] [.int 837, .ref a] (by decide +kernel) rfl]
  rw [y_ni (b' := 2) (z' := 67) (n' := n + 3) (k := 837) (pc' := 28) (by decide +kernel) (by decide +kernel) (by decide) rfl e6 (Nat.le_add_right n 2) s2.2]
  rw [y_pf (idx := 18) (ci := 6) (k := 2) (t := 2) (p := 12062) (pc' := 31) (fs' := [.ref n, .ref (n + 1), .ref (n + 2), .null, .int 0]) rfl (by decide +kernel) rfl h20 rfl]
  rw [y_bl (pc' := 32) [(.aload_n 0, 1)] [some (.ref a)] [.ref a] (by decide +kernel) rfl]
  rw [y_nw (b' := 0) (z' := 0) (idx := 21) (idx2 := 23) (ci2 := 1) (p := 12058) (kz := 3) (t := 9) (ml := 1) (k1 := 1) (k2 := 64) (pc' := 39) (n' := n + 5) (en := [some (.ref (n + 3))]) (by decide +kernel) ⟨rfl, rfl, rfl, rfl, rfl, rfl⟩ (by decide) e6 (Nat.le_add_right n 3) (Nat.le_trans h20n (Nat.le_add_right n 3)) (Nat.add_lt_add_left (show 3 < 5 by decide) n) (K_9 s3.2)]
  rw [y_pf (idx := 24) (ci := 6) (k := 3) (t := 2) (p := 12063) (pc' := 42) (fs' := [.ref n, .ref (n + 1), .ref (n + 2), .ref (n + 3), .int 0]) rfl (by decide +kernel) rfl h20 rfl]
  rw [y_bl (pc' := 44) [(.aload_n 0, 1), (.iconst 0, 1)] [some (.ref a)] [.int 0, .ref a] (by decide +kernel) rfl]
  rw [y_pf (idx := 28) (ci := 6) (k := 4) (t := 0) (p := 12064) (pc' := 47) (fs' := [.ref n, .ref (n + 1), .ref (n + 2), .ref (n + 3), .int 0]) rfl (by decide +kernel) rfl h20 rfl]
  rw [y_rv (by decide +kernel), cK_en]
  unfold cel
  rw [if_pos (show a < 267 from Nat.lt_trans e6 (Nat.lt_of_le_of_lt (Nat.le_add_right n 4) eN)), if_pos (show sh_c a < 15 by rw [e1]; decide), zm_0 h20 (by rw [e1]; decide) (by rw [e1]; decide) (by rw [e1]; decide), e1]
  show some (ev_ob 6 [.ref (sh_r a 0), .ref (sh_r a 1), .ref (sh_r a 2), .ref (sh_r a 3), .int 0]) = _
  rw [s0.1, s1.1, s2.1, s3.1]
abbrev S_115 (a n : Nat) : Prop := sh_c a = 9 ∧ a < n ∧ (sh_r a 0 = n ∧ S_9 (n) (n + 1)) ∧ (sh_r a 1 = n + 2 ∧ sh_c (n + 2) = 100 ∧ sh_n (n + 2) = 64 ∧ n + 2 < 267) ∧ (sh_r a 2 = n + 3 ∧ sh_c (n + 3) = 100 ∧ sh_n (n + 3) = 64 ∧ n + 3 < 267) ∧ n + 3 < 267
theorem K_115 (h : S_115 a n) : Kt L xs 115 9 4 195 [some (.ref a)] a n (n + 4) := by
  intro F hF
  obtain ⟨e1, e6, s0, s1, s2, eN⟩ := h
  have h20 : 20 ≤ a := sh_lo (by rw [e1]; decide)
  have h20n : 20 ≤ n := Nat.le_of_lt (Nat.lt_of_le_of_lt h20 e6)
  have hc := cK_st (L := L) (xs := xs) (n := n) hF
  rw [show (n, F) = (n, cK L xs F a n n (ev_ob 9 (ev_new 9))) from congrArg (Prod.mk n) hc]
  rw [y_bl (pc' := 1) [(.aload_n 0, 1)] [some (.ref a)] [.ref a] (by decide +kernel) rfl]
  rw [y_ob (idx := 3) (pc' := 4) (by decide +kernel)]
  rw [y_bl (pc' := 5) [(.aload_n 0, 1)] [some (.ref a)] [.ref a] (by decide +kernel) rfl]
  rw [y_nw (b' := 2) (z' := 128) (idx := 9) (idx2 := 11) (ci2 := 1) (p := 12083) (kz := 3) (t := 9) (ml := 1) (k1 := 1) (k2 := 64) (pc' := 12) (n' := n + 2) (en := [some (.ref n)]) (by decide +kernel) ⟨rfl, rfl, rfl, rfl, rfl, rfl⟩ (by decide) e6 (Nat.le_refl n) h20n (Nat.lt_add_of_pos_right (show 0 < 2 by decide)) (K_9 s0.2)]
  rw [y_pf (idx := 12) (ci := 9) (k := 0) (t := 2) (p := 12085) (pc' := 15) (fs' := [.ref n, .null, .null, .int 0]) rfl (by decide +kernel) rfl h20 rfl]
  rw [y_bl (pc' := 18) [(.aload_n 0, 1), (.bipush 64, 2)] [some (.ref a)] [.int 64, .ref a] (by decide +kernel) rfl]
  rw [y_ni (b' := 1) (z' := 64) (n' := n + 3) (k := 64) (pc' := 20) (by decide +kernel) (by decide +kernel) (by decide) rfl e6 (Nat.le_add_right n 2) s1.2]
  rw [y_pf (idx := 18) (ci := 9) (k := 1) (t := 2) (p := 12086) (pc' := 23) (fs' := [.ref n, .ref (n + 2), .null, .int 0]) rfl (by decide +kernel) rfl h20 rfl]
  rw [y_bl (pc' := 26) [(.aload_n 0, 1), (.bipush 64, 2)] [some (.ref a)] [.int 64, .ref a] (by decide +kernel) rfl]
  rw [y_ni (b' := 0) (z' := 0) (n' := n + 4) (k := 64) (pc' := 28) (by decide +kernel) (by decide +kernel) (by decide) rfl e6 (Nat.le_add_right n 3) s2.2]
  rw [y_pf (idx := 22) (ci := 9) (k := 2) (t := 2) (p := 12087) (pc' := 31) (fs' := [.ref n, .ref (n + 2), .ref (n + 3), .int 0]) rfl (by decide +kernel) rfl h20 rfl]
  rw [y_bl (pc' := 33) [(.aload_n 0, 1), (.iconst 0, 1)] [some (.ref a)] [.int 0, .ref a] (by decide +kernel) rfl]
  rw [y_pf (idx := 25) (ci := 9) (k := 3) (t := 0) (p := 12088) (pc' := 36) (fs' := [.ref n, .ref (n + 2), .ref (n + 3), .int 0]) rfl (by decide +kernel) rfl h20 rfl]
  rw [y_rv (by decide +kernel), cK_en]
  unfold cel
  rw [if_pos (show a < 267 from Nat.lt_trans e6 (Nat.lt_of_le_of_lt (Nat.le_add_right n 3) eN)), if_pos (show sh_c a < 15 by rw [e1]; decide), zm_0 h20 (by rw [e1]; decide) (by rw [e1]; decide) (by rw [e1]; decide), e1]
  show some (ev_ob 9 [.ref (sh_r a 0), .ref (sh_r a 1), .ref (sh_r a 2), .int 0]) = _
  rw [s0.1, s1.1, s2.1]
abbrev S_95 (a n : Nat) : Prop := sh_c a = 8 ∧ a < n ∧ (sh_r a 0 = n ∧ sh_c (n) = 101 ∧ sh_n (n) = 600 ∧ n < 267) ∧ n < 267
theorem K_95 (h : S_95 a n) : Kt L xs 95 8 1 600 [some (.ref a)] a n (n + 1) := by
  intro F hF
  obtain ⟨e1, e6, s0, eN⟩ := h
  have h20 : 20 ≤ a := sh_lo (by rw [e1]; decide)
  have h20n : 20 ≤ n := Nat.le_of_lt (Nat.lt_of_le_of_lt h20 e6)
  have hc := cK_st (L := L) (xs := xs) (n := n) hF
  rw [show (n, F) = (n, cK L xs F a n n (ev_ob 8 (ev_new 8))) from congrArg (Prod.mk n) hc]
  rw [y_bl (pc' := 1) [(.aload_n 0, 1)] [some (.ref a)] [.ref a] (by decide +kernel) rfl]
  rw [y_ob (idx := 3) (pc' := 4) (by decide +kernel)]
  rw [y_bl (pc' := 8) [(.aload_n 0, 1), (.sipush 600, 3)] [some (.ref a)] [.int 600, .ref a] (by decide +kernel) rfl]
  rw [y_nb (b' := 0) (z' := 0) (n' := n + 1) (k := 600) (pc' := 10) (by decide +kernel) (by decide +kernel) (by decide) rfl e6 (Nat.le_refl n) s0.2]
  rw [y_pf (idx := 9) (ci := 8) (k := 0) (t := 2) (p := 11045) (pc' := 13) (fs' := [.ref n, .int 0, .int 0, .int 0, .int 0, .int 0, .int 0, .int 0, .int 0, .int 0]) rfl (by decide +kernel) rfl h20 rfl]
  rw [y_bl (pc' := 15) [(.aload_n 0, 1), (.iconst 0, 1)] [some (.ref a)] [.int 0, .ref a] (by decide +kernel) rfl]
  rw [y_pf (idx := 15) (ci := 8) (k := 1) (t := 0) (p := 11046) (pc' := 18) (fs' := [.ref n, .int 0, .int 0, .int 0, .int 0, .int 0, .int 0, .int 0, .int 0, .int 0]) rfl (by decide +kernel) rfl h20 rfl]
  rw [y_bl (pc' := 20) [(.aload_n 0, 1), (.iconst 0, 1)] [some (.ref a)] [.int 0, .ref a] (by decide +kernel) rfl]
  rw [y_pf (idx := 19) (ci := 8) (k := 2) (t := 0) (p := 11048) (pc' := 23) (fs' := [.ref n, .int 0, .int 0, .int 0, .int 0, .int 0, .int 0, .int 0, .int 0, .int 0]) rfl (by decide +kernel) rfl h20 rfl]
  rw [y_bl (pc' := 25) [(.aload_n 0, 1), (.iconst (-1), 1)] [some (.ref a)] [.int (-1), .ref a] (by decide +kernel) rfl]
  rw [y_pf (idx := 22) (ci := 8) (k := 3) (t := 0) (p := 11050) (pc' := 28) (fs' := [.ref n, .int 0, .int 0, .int (-1), .int 0, .int 0, .int 0, .int 0, .int 0, .int 0]) rfl (by decide +kernel) rfl h20 rfl]
  rw [y_bl (pc' := 30) [(.aload_n 0, 1), (.iconst 0, 1)] [some (.ref a)] [.int 0, .ref a] (by decide +kernel) rfl]
  rw [y_pf (idx := 25) (ci := 8) (k := 4) (t := 0) (p := 11051) (pc' := 33) (fs' := [.ref n, .int 0, .int 0, .int (-1), .int 0, .int 0, .int 0, .int 0, .int 0, .int 0]) rfl (by decide +kernel) rfl h20 rfl]
  rw [y_bl (pc' := 35) [(.aload_n 0, 1), (.iconst 0, 1)] [some (.ref a)] [.int 0, .ref a] (by decide +kernel) rfl]
  rw [y_pf (idx := 28) (ci := 8) (k := 5) (t := 0) (p := 11053) (pc' := 38) (fs' := [.ref n, .int 0, .int 0, .int (-1), .int 0, .int 0, .int 0, .int 0, .int 0, .int 0]) rfl (by decide +kernel) rfl h20 rfl]
  rw [y_bl (pc' := 40) [(.aload_n 0, 1), (.iconst 0, 1)] [some (.ref a)] [.int 0, .ref a] (by decide +kernel) rfl]
  rw [y_pf (idx := 31) (ci := 8) (k := 6) (t := 0) (p := 11054) (pc' := 43) (fs' := [.ref n, .int 0, .int 0, .int (-1), .int 0, .int 0, .int 0, .int 0, .int 0, .int 0]) rfl (by decide +kernel) rfl h20 rfl]
  rw [y_bl (pc' := 45) [(.aload_n 0, 1), (.iconst 0, 1)] [some (.ref a)] [.int 0, .ref a] (by decide +kernel) rfl]
  rw [y_pf (idx := 34) (ci := 8) (k := 7) (t := 0) (p := 11055) (pc' := 48) (fs' := [.ref n, .int 0, .int 0, .int (-1), .int 0, .int 0, .int 0, .int 0, .int 0, .int 0]) rfl (by decide +kernel) rfl h20 rfl]
  rw [y_bl (pc' := 50) [(.aload_n 0, 1), (.iconst 0, 1)] [some (.ref a)] [.int 0, .ref a] (by decide +kernel) rfl]
  rw [y_pf (idx := 37) (ci := 8) (k := 8) (t := 0) (p := 11056) (pc' := 53) (fs' := [.ref n, .int 0, .int 0, .int (-1), .int 0, .int 0, .int 0, .int 0, .int 0, .int 0]) rfl (by decide +kernel) rfl h20 rfl]
  rw [y_bl (pc' := 55) [(.aload_n 0, 1), (.iconst 0, 1)] [some (.ref a)] [.int 0, .ref a] (by decide +kernel) rfl]
  rw [y_pf (idx := 40) (ci := 8) (k := 9) (t := 0) (p := 11057) (pc' := 58) (fs' := [.ref n, .int 0, .int 0, .int (-1), .int 0, .int 0, .int 0, .int 0, .int 0, .int 0]) rfl (by decide +kernel) rfl h20 rfl]
  rw [y_rv (by decide +kernel), cK_en]
  unfold cel
  rw [if_pos (show a < 267 from Nat.lt_trans e6 eN), if_pos (show sh_c a < 15 by rw [e1]; decide), zm_c8 h20 e1, e1]
  show some (ev_ob 8 [.ref (sh_r a 0), .int 0, .int 0, .int (-1), .int 0, .int 0, .int 0, .int 0, .int 0, .int 0]) = _
  rw [s0.1]
end NB
