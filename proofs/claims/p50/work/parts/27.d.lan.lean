/-! The constructors of the class and of the model, up to their first call. -/
section ND
variable {L : Nat} {xs : Nat → Int32}
theorem N_119_0 {F : Nat → Option ev_E} : ev_dn 228 10819 119 0 [some (.ref 20)] [] (21, cK L xs F 20 21 21 (ev_ob 10 (ev_new 10))) = ev_dn 188 8915 119 37 [some (.ref 20)] [] (61, cK L xs F 20 21 61 (ev_ob 10 [.ref 21, .ref 23, .ref 42, .null, .int 0, .null, .null, .null, .null, .null, .int 0])) := by
  have h20 : 20 ≤ 20 := by decide
  have e6 : 20 < 21 := by decide
  rw [y_bl (pc' := 1) [(.aload_n 0, 1)] [some (.ref 20)] [.ref 20] (by decide +kernel) rfl]
  rw [y_ob (idx := 1) (pc' := 4) (by decide +kernel)]
  rw [y_bl (pc' := 5) [(.aload_n 0, 1)] [some (.ref 20)] [.ref 20] (by decide +kernel) rfl]
  rw [y_nw (b' := 226) (z' := 10209) (idx := 7) (idx2 := 9) (ci2 := 8) (p := 11039) (kz := 10) (t := 95) (ml := 1) (k1 := 1) (k2 := 600) (pc' := 12) (n' := 23) (en := [some (.ref 21)]) (by decide +kernel) ⟨rfl, rfl, rfl, rfl, rfl, rfl⟩ (by decide) e6 (by decide) (by decide) (by decide) (K_95 (by (repeat' apply And.intro) <;> decide +kernel))]
  rw [y_pf (idx := 10) (ci := 10) (k := 0) (t := 2) (p := 12128) (pc' := 15) (fs' := [.ref 21, .null, .null, .null, .int 0, .null, .null, .null, .null, .null, .int 0]) rfl (by decide +kernel) rfl h20 rfl]
  rw [y_bl (pc' := 16) [(.aload_n 0, 1)] [some (.ref 20)] [.ref 20] (by decide +kernel) rfl]
  rw [y_nw (b' := 207) (z' := 9562) (idx := 16) (idx2 := 18) (ci2 := 3) (p := 11080) (kz := 13) (t := 47) (ml := 1) (k1 := 18) (k2 := 634) (pc' := 23) (n' := 42) (en := [some (.ref 23)]) (by decide +kernel) ⟨rfl, rfl, rfl, rfl, rfl, rfl⟩ (by decide) e6 (by decide) (by decide) (by decide) (K_47 (by (repeat' apply And.intro) <;> decide +kernel))]
  rw [y_pf (idx := 19) (ci := 10) (k := 1) (t := 2) (p := 12129) (pc' := 26) (fs' := [.ref 21, .ref 23, .null, .null, .int 0, .null, .null, .null, .null, .null, .int 0]) rfl (by decide +kernel) rfl h20 rfl]
  rw [y_bl (pc' := 27) [(.aload_n 0, 1)] [some (.ref 20)] [.ref 20] (by decide +kernel) rfl]
  rw [y_nw (b' := 188) (z' := 8915) (idx := 16) (idx2 := 18) (ci2 := 3) (p := 11080) (kz := 13) (t := 47) (ml := 1) (k1 := 18) (k2 := 634) (pc' := 34) (n' := 61) (en := [some (.ref 42)]) (by decide +kernel) ⟨rfl, rfl, rfl, rfl, rfl, rfl⟩ (by decide) e6 (by decide) (by decide) (by decide) (K_47 (by (repeat' apply And.intro) <;> decide +kernel))]
  rw [y_pf (idx := 23) (ci := 10) (k := 2) (t := 2) (p := 12130) (pc' := 37) (fs' := [.ref 21, .ref 23, .ref 42, .null, .int 0, .null, .null, .null, .null, .null, .int 0]) rfl (by decide +kernel) rfl h20 rfl]
theorem N_119_1 {F : Nat → Option ev_E} : ev_dn 188 8915 119 37 [some (.ref 20)] [] (61, cK L xs F 20 21 61 (ev_ob 10 [.ref 21, .ref 23, .ref 42, .null, .int 0, .null, .null, .null, .null, .null, .int 0])) = ev_dn 15 3081 119 64 [some (.ref 20)] [] (234, cK L xs F 20 21 234 (ev_ob 10 [.ref 21, .ref 23, .ref 42, .ref 61, .int 0, .ref 80, .null, .null, .null, .null, .int 0])) := by
  have h20 : 20 ≤ 20 := by decide
  have e6 : 20 < 21 := by decide
  rw [y_bl (pc' := 38) [(.aload_n 0, 1)] [some (.ref 20)] [.ref 20] (by decide +kernel) rfl]
  rw [y_nw (b' := 169) (z' := 8268) (idx := 16) (idx2 := 18) (ci2 := 3) (p := 11080) (kz := 13) (t := 47) (ml := 1) (k1 := 18) (k2 := 634) (pc' := 45) (n' := 80) (en := [some (.ref 61)]) (by decide +kernel) ⟨rfl, rfl, rfl, rfl, rfl, rfl⟩ (by decide) e6 (by decide) (by decide) (by decide) (K_47 (by (repeat' apply And.intro) <;> decide +kernel))]
  rw [y_pf (idx := 26) (ci := 10) (k := 3) (t := 2) (p := 12131) (pc' := 48) (fs' := [.ref 21, .ref 23, .ref 42, .ref 61, .int 0, .null, .null, .null, .null, .null, .int 0]) rfl (by decide +kernel) rfl h20 rfl]
  rw [y_bl (pc' := 50) [(.aload_n 0, 1), (.iconst 0, 1)] [some (.ref 20)] [.int 0, .ref 20] (by decide +kernel) rfl]
  rw [y_pf (idx := 29) (ci := 10) (k := 4) (t := 1) (p := 12132) (pc' := 53) (fs' := [.ref 21, .ref 23, .ref 42, .ref 61, .int 0, .null, .null, .null, .null, .null, .int 0]) rfl (by decide +kernel) rfl h20 rfl]
  rw [y_bl (pc' := 54) [(.aload_n 0, 1)] [some (.ref 20)] [.ref 20] (by decide +kernel) rfl]
  rw [y_nw (b' := 15) (z' := 3081) (idx := 33) (idx2 := 35) (ci2 := 4) (p := 11231) (kz := 3) (t := 63) (ml := 2) (k1 := 153) (k2 := 5184) (pc' := 61) (n' := 234) (en := [some (.ref 80), none]) (by decide +kernel) ⟨rfl, rfl, rfl, rfl, rfl, rfl⟩ (by decide) e6 (by decide) (by decide) (by decide) K_63]
  rw [y_pf (idx := 36) (ci := 10) (k := 5) (t := 2) (p := 12133) (pc' := 64) (fs' := [.ref 21, .ref 23, .ref 42, .ref 61, .int 0, .ref 80, .null, .null, .null, .null, .int 0]) rfl (by decide +kernel) rfl h20 rfl]
theorem N_119_2 {F : Nat → Option ev_E} : ev_dn 15 3081 119 64 [some (.ref 20)] [] (234, cK L xs F 20 21 234 (ev_ob 10 [.ref 21, .ref 23, .ref 42, .ref 61, .int 0, .ref 80, .null, .null, .null, .null, .int 0])) = ev_dn 1 279 119 97 [some (.ref 20)] [] (248, cK L xs F 20 21 248 (ev_ob 10 [.ref 21, .ref 23, .ref 42, .ref 61, .int 0, .ref 80, .ref 234, .ref 237, .ref 243, .null, .int 0])) := by
  have h20 : 20 ≤ 20 := by decide
  have e6 : 20 < 21 := by decide
  rw [y_bl (pc' := 65) [(.aload_n 0, 1)] [some (.ref 20)] [.ref 20] (by decide +kernel) rfl]
  rw [y_nw (b' := 12) (z' := 3061) (idx := 40) (idx2 := 42) (ci2 := 7) (p := 12011) (kz := 8) (t := 83) (ml := 1) (k1 := 2) (k2 := 12) (pc' := 72) (n' := 237) (en := [some (.ref 234)]) (by decide +kernel) ⟨rfl, rfl, rfl, rfl, rfl, rfl⟩ (by decide) e6 (by decide) (by decide) (by decide) (K_83 (by (repeat' apply And.intro) <;> decide +kernel))]
  rw [y_pf (idx := 43) (ci := 10) (k := 6) (t := 2) (p := 12134) (pc' := 75) (fs' := [.ref 21, .ref 23, .ref 42, .ref 61, .int 0, .ref 80, .ref 234, .null, .null, .null, .int 0]) rfl (by decide +kernel) rfl h20 rfl]
  rw [y_bl (pc' := 76) [(.aload_n 0, 1)] [some (.ref 20)] [.ref 20] (by decide +kernel) rfl]
  rw [y_nw (b' := 6) (z' := 478) (idx := 47) (idx2 := 49) (ci2 := 6) (p := 12052) (kz := 5) (t := 74) (ml := 1) (k1 := 5) (k2 := 2578) (pc' := 83) (n' := 243) (en := [some (.ref 237)]) (by decide +kernel) ⟨rfl, rfl, rfl, rfl, rfl, rfl⟩ (by decide) e6 (by decide) (by decide) (by decide) (K_74 (by (repeat' apply And.intro) <;> decide +kernel))]
  rw [y_pf (idx := 50) (ci := 10) (k := 7) (t := 2) (p := 12135) (pc' := 86) (fs' := [.ref 21, .ref 23, .ref 42, .ref 61, .int 0, .ref 80, .ref 234, .ref 237, .null, .null, .int 0]) rfl (by decide +kernel) rfl h20 rfl]
  rw [y_bl (pc' := 87) [(.aload_n 0, 1)] [some (.ref 20)] [.ref 20] (by decide +kernel) rfl]
  rw [y_nw (b' := 1) (z' := 279) (idx := 54) (idx2 := 56) (ci2 := 9) (p := 12077) (kz := 4) (t := 115) (ml := 1) (k1 := 4) (k2 := 195) (pc' := 94) (n' := 248) (en := [some (.ref 243)]) (by decide +kernel) ⟨rfl, rfl, rfl, rfl, rfl, rfl⟩ (by decide) e6 (by decide) (by decide) (by decide) (K_115 (by (repeat' apply And.intro) <;> decide +kernel))]
  rw [y_pf (idx := 57) (ci := 10) (k := 8) (t := 2) (p := 12136) (pc' := 97) (fs' := [.ref 21, .ref 23, .ref 42, .ref 61, .int 0, .ref 80, .ref 234, .ref 237, .ref 243, .null, .int 0]) rfl (by decide +kernel) rfl h20 rfl]
theorem N_119_3 {F : Nat → Option ev_E} : ev_dn 1 279 119 97 [some (.ref 20)] [] (248, cK L xs F 20 21 248 (ev_ob 10 [.ref 21, .ref 23, .ref 42, .ref 61, .int 0, .ref 80, .ref 234, .ref 237, .ref 243, .null, .int 0])) = ev_dn 0 0 119 111 [some (.ref 20)] [] (249, cK L xs F 20 21 249 (ev_ob 10 [.ref 21, .ref 23, .ref 42, .ref 61, .int 0, .ref 80, .ref 234, .ref 237, .ref 243, .ref 248, .int 0])) := by
  have h20 : 20 ≤ 20 := by decide
  have e6 : 20 < 21 := by decide
  rw [y_bl (pc' := 101) [(.aload_n 0, 1), (.sipush 279, 3)] [some (.ref 20)] [.int 279, .ref 20] (by decide +kernel) rfl]
  rw [y_nb (b' := 0) (z' := 0) (n' := 249) (k := 279) (pc' := 103) (by decide +kernel) (by decide +kernel) (by decide) rfl e6 (by decide) (by (repeat' apply And.intro) <;> decide +kernel)]
  rw [y_pf (idx := 61) (ci := 10) (k := 9) (t := 2) (p := 12137) (pc' := 106) (fs' := [.ref 21, .ref 23, .ref 42, .ref 61, .int 0, .ref 80, .ref 234, .ref 237, .ref 243, .ref 248, .int 0]) rfl (by decide +kernel) rfl h20 rfl]
  rw [y_bl (pc' := 108) [(.aload_n 0, 1), (.iconst 0, 1)] [some (.ref 20)] [.int 0, .ref 20] (by decide +kernel) rfl]
  rw [y_pf (idx := 65) (ci := 10) (k := 10) (t := 0) (p := 12138) (pc' := 111) (fs' := [.ref 21, .ref 23, .ref 42, .ref 61, .int 0, .ref 80, .ref 234, .ref 237, .ref 243, .ref 248, .int 0]) rfl (by decide +kernel) rfl h20 rfl]
theorem N_119 {F : Nat → Option ev_E} : ev_dn 228 10819 119 0 [some (.ref 20)] [] (21, cK L xs F 20 21 21 (ev_ob 10 (ev_new 10))) = ev_dn 0 0 119 111 [some (.ref 20)] [] (249, cK L xs F 20 21 249 (ev_ob 10 [.ref 21, .ref 23, .ref 42, .ref 61, .int 0, .ref 80, .ref 234, .ref 237, .ref 243, .ref 248, .int 0])) := by
  rw [N_119_0, N_119_1, N_119_2, N_119_3]
end ND
