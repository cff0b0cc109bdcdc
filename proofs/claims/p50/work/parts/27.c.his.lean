/-! The constructor of the history. -/
section NC
variable {L : Nat} {xs : Nat → Int32} {F G : Nat → Option ev_E} {b z M pc n a : Nat} {lo : ev_L} {ci : Nat} {fs : List Value}
theorem y_pG {idx k t p pc' : Nat} {v : Value} {fs' : List Value} (hset : fs.set k v = fs') (hd : ev_at M pc [(.putfield idx, 3)] = true ∧ ev_fl (ev_ci M) idx = some (ci, k, t, p) ∧ (ev_kd M = 2 ∧ ev_ci M = ci) ∧ pc + 3 = pc') (hfit : ev_fit t v = true) (h20 : 20 ≤ a) (hk : Nat.blt k fs.length = true) (hG : G a = some (ev_ob ci fs)) :
    ev_dn b z M pc lo [v, .ref a] (n, G) = ev_dn b z M pc' lo [] (n, ev_up G a (ev_ob ci fs')) := by
  subst hset
  obtain ⟨h1, h2, h3, rfl⟩ := hd
  rw [n_pf (at1 h1) h2 hfit (Or.inr h3)]
  dsimp only
  rw [hG]
  show (if ci = ci ∧ ev_S ≤ a ∧ k < fs.length then _ else _) = _
  rw [if_pos ⟨rfl, h20, by simpa using hk⟩]
theorem eg_rs_ok {m c2 v : Nat} {f : Nat → Option Nat} {x : Int32} {st : List Value} {μ : ev_H} (h : c2 = 3 ∧ ev_in x m = true ∧ ev_S ≤ a ∧ ev_S ≤ v) : eg_rs (some (ev_ra m f)) (some (ev_ob c2 fs)) x v a b z M pc lo st μ = ev_dn b z M pc lo st (μ.1, ev_up μ.2 a (ev_ra m (va_up f x.toNatClampNeg (some v)))) := if_pos h
def Rr (i : Nat) : ev_E := ev_ra 8 (fun k => if k < i then some (82 + 19 * k) else none)
theorem Rr_s {i v : Nat} (h : v = 82 + 19 * i) : ev_ra 8 (va_up (fun k => if k < i then some (82 + 19 * k) else none) i (some v)) = Rr (i + 1) := by
  unfold Rr
  refine congrArg (ev_ra 8) ?_
  funext k
  unfold va_up
  dsimp only
  by_cases q : k = i
  · rw [if_pos q, if_pos (by omega), q, h]
  · rw [if_neg q]
    by_cases q2 : k < i
    · rw [if_pos q2, if_pos (by omega)]
    · rw [if_neg q2, if_neg (by omega)]
theorem H_0 (hG : G 80 = some (ev_ob 4 [.ref 81, .int 0, .int 0])) : ev_dn 152 5176 63 25 [some (.ref 80), some (.int 0)] [] (82, cK L xs G 81 82 82 (Rr 0)) = ev_dn 133 4529 63 25 [some (.ref 80), some (.int 1)] [] (101, cK L xs G 81 82 101 (Rr 1)) := by
  rw [y_bl (pc' := 28) [(.iload_n 1, 1), (.bipush 8, 2)] [some (.ref 80), some (.int 0)] [.int 8, .int 0] (by decide +kernel) rfl]
  rw [n_ic (p := (8 : Int32) ≤ 0) (t := 50) (at1 (i := .if_icmp .ge 22) (by decide +kernel)) (by decide +kernel) (by decide +kernel), if_neg (by decide)]
  rw [y_bl (pc' := 32) [(.aload_n 0, 1)] [some (.ref 80), some (.int 0)] [.ref 80] (by decide +kernel) rfl]
  rw [n_gf (idx := 11) (ci := 4) (k := 0) (t := 2) (p := 12000) (at1 (by decide +kernel)) (by decide +kernel)]
  have e80 : cK L xs G 81 82 82 (Rr 0) 80 = some (ev_ob 4 [.ref 81, .int 0, .int 0]) := by
    unfold cK
    rw [if_neg (by decide), if_neg (by decide), hG]
  dsimp only
  rw [e80]
  show ev_dn 152 5176 63 35 [some (.ref 80), some (.int 0)] [.ref 81] _ = _
  rw [y_bl (pc' := 36) [(.iload_n 1, 1)] [some (.ref 80), some (.int 0)] [.int 0, .ref 81] (by decide +kernel) rfl]
  rw [y_nw (b' := 133) (z' := 4529) (idx := 9) (idx2 := 24) (ci2 := 3) (p := 11237) (kz := 13) (t := 47) (ml := 1) (k1 := 18) (k2 := 634) (pc' := 43) (n' := 101) (en := [some (.ref 82)]) (by decide +kernel) ⟨rfl, rfl, rfl, rfl, rfl, rfl⟩ (by decide) (by decide) (by decide) (by decide) (by decide) (K_47 (by (repeat' apply And.intro) <;> decide +kernel))]
  rw [n_rs (at1 (by decide +kernel))]
  have e81 : cK L xs G 81 82 101 (Rr 0) 81 = some (ev_ra 8 (fun k => if k < 0 then some (82 + 19 * k) else none)) := cK_a
  have eg : ∃ q, cK L xs G 81 82 101 (Rr 0) 82 = some (ev_ob 3 q) := by
    unfold cK
    rw [if_neg (by decide), if_pos (by decide)]
    exact ⟨_, cel_ob (by decide +kernel) (by decide)⟩
  obtain ⟨q, eg⟩ := eg
  dsimp only
  rw [e81, eg]
  rw [eg_rs_ok ⟨rfl, by decide, by decide, by decide⟩]
  dsimp only
  rw [y_bl (pc' := 47) [(.iinc 1 1, 3)] [some (.ref 80), some (.int 1)] [] (by decide +kernel) rfl]
  rw [n_go (t := 25) (at1 (i := .goto (-22)) (by decide +kernel)) (by decide +kernel), cK_up]
  exact congrArg (fun x => ev_dn 133 4529 63 25 [some (.ref 80), some (.int 1)] [] (101, cK L xs G 81 82 101 x)) (Rr_s (i := 0) rfl)
theorem H_1 (hG : G 80 = some (ev_ob 4 [.ref 81, .int 0, .int 0])) : ev_dn 133 4529 63 25 [some (.ref 80), some (.int 1)] [] (101, cK L xs G 81 82 101 (Rr 1)) = ev_dn 114 3882 63 25 [some (.ref 80), some (.int 2)] [] (120, cK L xs G 81 82 120 (Rr 2)) := by
  rw [y_bl (pc' := 28) [(.iload_n 1, 1), (.bipush 8, 2)] [some (.ref 80), some (.int 1)] [.int 8, .int 1] (by decide +kernel) rfl]
  rw [n_ic (p := (8 : Int32) ≤ 1) (t := 50) (at1 (i := .if_icmp .ge 22) (by decide +kernel)) (by decide +kernel) (by decide +kernel), if_neg (by decide)]
  rw [y_bl (pc' := 32) [(.aload_n 0, 1)] [some (.ref 80), some (.int 1)] [.ref 80] (by decide +kernel) rfl]
  rw [n_gf (idx := 11) (ci := 4) (k := 0) (t := 2) (p := 12000) (at1 (by decide +kernel)) (by decide +kernel)]
  have e80 : cK L xs G 81 82 101 (Rr 1) 80 = some (ev_ob 4 [.ref 81, .int 0, .int 0]) := by
    unfold cK
    rw [if_neg (by decide), if_neg (by decide), hG]
  dsimp only
  rw [e80]
  show ev_dn 133 4529 63 35 [some (.ref 80), some (.int 1)] [.ref 81] _ = _
  rw [y_bl (pc' := 36) [(.iload_n 1, 1)] [some (.ref 80), some (.int 1)] [.int 1, .ref 81] (by decide +kernel) rfl]
  rw [y_nw (b' := 114) (z' := 3882) (idx := 9) (idx2 := 24) (ci2 := 3) (p := 11237) (kz := 13) (t := 47) (ml := 1) (k1 := 18) (k2 := 634) (pc' := 43) (n' := 120) (en := [some (.ref 101)]) (by decide +kernel) ⟨rfl, rfl, rfl, rfl, rfl, rfl⟩ (by decide) (by decide) (by decide) (by decide) (by decide) (K_47 (by (repeat' apply And.intro) <;> decide +kernel))]
  rw [n_rs (at1 (by decide +kernel))]
  have e81 : cK L xs G 81 82 120 (Rr 1) 81 = some (ev_ra 8 (fun k => if k < 1 then some (82 + 19 * k) else none)) := cK_a
  have eg : ∃ q, cK L xs G 81 82 120 (Rr 1) 101 = some (ev_ob 3 q) := by
    unfold cK
    rw [if_neg (by decide), if_pos (by decide)]
    exact ⟨_, cel_ob (by decide +kernel) (by decide)⟩
  obtain ⟨q, eg⟩ := eg
  dsimp only
  rw [e81, eg]
  rw [eg_rs_ok ⟨rfl, by decide, by decide, by decide⟩]
  dsimp only
  rw [y_bl (pc' := 47) [(.iinc 1 1, 3)] [some (.ref 80), some (.int 2)] [] (by decide +kernel) rfl]
  rw [n_go (t := 25) (at1 (i := .goto (-22)) (by decide +kernel)) (by decide +kernel), cK_up]
  exact congrArg (fun x => ev_dn 114 3882 63 25 [some (.ref 80), some (.int 2)] [] (120, cK L xs G 81 82 120 x)) (Rr_s (i := 1) rfl)
theorem H_2 (hG : G 80 = some (ev_ob 4 [.ref 81, .int 0, .int 0])) : ev_dn 114 3882 63 25 [some (.ref 80), some (.int 2)] [] (120, cK L xs G 81 82 120 (Rr 2)) = ev_dn 95 3235 63 25 [some (.ref 80), some (.int 3)] [] (139, cK L xs G 81 82 139 (Rr 3)) := by
  rw [y_bl (pc' := 28) [(.iload_n 1, 1), (.bipush 8, 2)] [some (.ref 80), some (.int 2)] [.int 8, .int 2] (by decide +kernel) rfl]
  rw [n_ic (p := (8 : Int32) ≤ 2) (t := 50) (at1 (i := .if_icmp .ge 22) (by decide +kernel)) (by decide +kernel) (by decide +kernel), if_neg (by decide)]
  rw [y_bl (pc' := 32) [(.aload_n 0, 1)] [some (.ref 80), some (.int 2)] [.ref 80] (by decide +kernel) rfl]
  rw [n_gf (idx := 11) (ci := 4) (k := 0) (t := 2) (p := 12000) (at1 (by decide +kernel)) (by decide +kernel)]
  have e80 : cK L xs G 81 82 120 (Rr 2) 80 = some (ev_ob 4 [.ref 81, .int 0, .int 0]) := by
    unfold cK
    rw [if_neg (by decide), if_neg (by decide), hG]
  dsimp only
  rw [e80]
  show ev_dn 114 3882 63 35 [some (.ref 80), some (.int 2)] [.ref 81] _ = _
  rw [y_bl (pc' := 36) [(.iload_n 1, 1)] [some (.ref 80), some (.int 2)] [.int 2, .ref 81] (by decide +kernel) rfl]
  rw [y_nw (b' := 95) (z' := 3235) (idx := 9) (idx2 := 24) (ci2 := 3) (p := 11237) (kz := 13) (t := 47) (ml := 1) (k1 := 18) (k2 := 634) (pc' := 43) (n' := 139) (en := [some (.ref 120)]) (by decide +kernel) ⟨rfl, rfl, rfl, rfl, rfl, rfl⟩ (by decide) (by decide) (by decide) (by decide) (by decide) (K_47 (by (repeat' apply And.intro) <;> decide +kernel))]
  rw [n_rs (at1 (by decide +kernel))]
  have e81 : cK L xs G 81 82 139 (Rr 2) 81 = some (ev_ra 8 (fun k => if k < 2 then some (82 + 19 * k) else none)) := cK_a
  have eg : ∃ q, cK L xs G 81 82 139 (Rr 2) 120 = some (ev_ob 3 q) := by
    unfold cK
    rw [if_neg (by decide), if_pos (by decide)]
    exact ⟨_, cel_ob (by decide +kernel) (by decide)⟩
  obtain ⟨q, eg⟩ := eg
  dsimp only
  rw [e81, eg]
  rw [eg_rs_ok ⟨rfl, by decide, by decide, by decide⟩]
  dsimp only
  rw [y_bl (pc' := 47) [(.iinc 1 1, 3)] [some (.ref 80), some (.int 3)] [] (by decide +kernel) rfl]
  rw [n_go (t := 25) (at1 (i := .goto (-22)) (by decide +kernel)) (by decide +kernel), cK_up]
  exact congrArg (fun x => ev_dn 95 3235 63 25 [some (.ref 80), some (.int 3)] [] (139, cK L xs G 81 82 139 x)) (Rr_s (i := 2) rfl)
theorem H_3 (hG : G 80 = some (ev_ob 4 [.ref 81, .int 0, .int 0])) : ev_dn 95 3235 63 25 [some (.ref 80), some (.int 3)] [] (139, cK L xs G 81 82 139 (Rr 3)) = ev_dn 76 2588 63 25 [some (.ref 80), some (.int 4)] [] (158, cK L xs G 81 82 158 (Rr 4)) := by
  rw [y_bl (pc' := 28) [(.iload_n 1, 1), (.bipush 8, 2)] [some (.ref 80), some (.int 3)] [.int 8, .int 3] (by decide +kernel) rfl]
  rw [n_ic (p := (8 : Int32) ≤ 3) (t := 50) (at1 (i := .if_icmp .ge 22) (by decide +kernel)) (by decide +kernel) (by decide +kernel), if_neg (by decide)]
  rw [y_bl (pc' := 32) [(.aload_n 0, 1)] [some (.ref 80), some (.int 3)] [.ref 80] (by decide +kernel) rfl]
  rw [n_gf (idx := 11) (ci := 4) (k := 0) (t := 2) (p := 12000) (at1 (by decide +kernel)) (by decide +kernel)]
  have e80 : cK L xs G 81 82 139 (Rr 3) 80 = some (ev_ob 4 [.ref 81, .int 0, .int 0]) := by
    unfold cK
    rw [if_neg (by decide), if_neg (by decide), hG]
  dsimp only
  rw [e80]
  show ev_dn 95 3235 63 35 [some (.ref 80), some (.int 3)] [.ref 81] _ = _
  rw [y_bl (pc' := 36) [(.iload_n 1, 1)] [some (.ref 80), some (.int 3)] [.int 3, .ref 81] (by decide +kernel) rfl]
  rw [y_nw (b' := 76) (z' := 2588) (idx := 9) (idx2 := 24) (ci2 := 3) (p := 11237) (kz := 13) (t := 47) (ml := 1) (k1 := 18) (k2 := 634) (pc' := 43) (n' := 158) (en := [some (.ref 139)]) (by decide +kernel) ⟨rfl, rfl, rfl, rfl, rfl, rfl⟩ (by decide) (by decide) (by decide) (by decide) (by decide) (K_47 (by (repeat' apply And.intro) <;> decide +kernel))]
  rw [n_rs (at1 (by decide +kernel))]
  have e81 : cK L xs G 81 82 158 (Rr 3) 81 = some (ev_ra 8 (fun k => if k < 3 then some (82 + 19 * k) else none)) := cK_a
  have eg : ∃ q, cK L xs G 81 82 158 (Rr 3) 139 = some (ev_ob 3 q) := by
    unfold cK
    rw [if_neg (by decide), if_pos (by decide)]
    exact ⟨_, cel_ob (by decide +kernel) (by decide)⟩
  obtain ⟨q, eg⟩ := eg
  dsimp only
  rw [e81, eg]
  rw [eg_rs_ok ⟨rfl, by decide, by decide, by decide⟩]
  dsimp only
  rw [y_bl (pc' := 47) [(.iinc 1 1, 3)] [some (.ref 80), some (.int 4)] [] (by decide +kernel) rfl]
  rw [n_go (t := 25) (at1 (i := .goto (-22)) (by decide +kernel)) (by decide +kernel), cK_up]
  exact congrArg (fun x => ev_dn 76 2588 63 25 [some (.ref 80), some (.int 4)] [] (158, cK L xs G 81 82 158 x)) (Rr_s (i := 3) rfl)
theorem H_4 (hG : G 80 = some (ev_ob 4 [.ref 81, .int 0, .int 0])) : ev_dn 76 2588 63 25 [some (.ref 80), some (.int 4)] [] (158, cK L xs G 81 82 158 (Rr 4)) = ev_dn 57 1941 63 25 [some (.ref 80), some (.int 5)] [] (177, cK L xs G 81 82 177 (Rr 5)) := by
  rw [y_bl (pc' := 28) [(.iload_n 1, 1), (.bipush 8, 2)] [some (.ref 80), some (.int 4)] [.int 8, .int 4] (by decide +kernel) rfl]
  rw [n_ic (p := (8 : Int32) ≤ 4) (t := 50) (at1 (i := .if_icmp .ge 22) (by decide +kernel)) (by decide +kernel) (by decide +kernel), if_neg (by decide)]
  rw [y_bl (pc' := 32) [(.aload_n 0, 1)] [some (.ref 80), some (.int 4)] [.ref 80] (by decide +kernel) rfl]
  rw [n_gf (idx := 11) (ci := 4) (k := 0) (t := 2) (p := 12000) (at1 (by decide +kernel)) (by decide +kernel)]
  have e80 : cK L xs G 81 82 158 (Rr 4) 80 = some (ev_ob 4 [.ref 81, .int 0, .int 0]) := by
    unfold cK
    rw [if_neg (by decide), if_neg (by decide), hG]
  dsimp only
  rw [e80]
  show ev_dn 76 2588 63 35 [some (.ref 80), some (.int 4)] [.ref 81] _ = _
  rw [y_bl (pc' := 36) [(.iload_n 1, 1)] [some (.ref 80), some (.int 4)] [.int 4, .ref 81] (by decide +kernel) rfl]
  rw [y_nw (b' := 57) (z' := 1941) (idx := 9) (idx2 := 24) (ci2 := 3) (p := 11237) (kz := 13) (t := 47) (ml := 1) (k1 := 18) (k2 := 634) (pc' := 43) (n' := 177) (en := [some (.ref 158)]) (by decide +kernel) ⟨rfl, rfl, rfl, rfl, rfl, rfl⟩ (by decide) (by decide) (by decide) (by decide) (by decide) (K_47 (by (repeat' apply And.intro) <;> decide +kernel))]
  rw [n_rs (at1 (by decide +kernel))]
  have e81 : cK L xs G 81 82 177 (Rr 4) 81 = some (ev_ra 8 (fun k => if k < 4 then some (82 + 19 * k) else none)) := cK_a
  have eg : ∃ q, cK L xs G 81 82 177 (Rr 4) 158 = some (ev_ob 3 q) := by
    unfold cK
    rw [if_neg (by decide), if_pos (by decide)]
    exact ⟨_, cel_ob (by decide +kernel) (by decide)⟩
  obtain ⟨q, eg⟩ := eg
  dsimp only
  rw [e81, eg]
  rw [eg_rs_ok ⟨rfl, by decide, by decide, by decide⟩]
  dsimp only
  rw [y_bl (pc' := 47) [(.iinc 1 1, 3)] [some (.ref 80), some (.int 5)] [] (by decide +kernel) rfl]
  rw [n_go (t := 25) (at1 (i := .goto (-22)) (by decide +kernel)) (by decide +kernel), cK_up]
  exact congrArg (fun x => ev_dn 57 1941 63 25 [some (.ref 80), some (.int 5)] [] (177, cK L xs G 81 82 177 x)) (Rr_s (i := 4) rfl)
theorem H_5 (hG : G 80 = some (ev_ob 4 [.ref 81, .int 0, .int 0])) : ev_dn 57 1941 63 25 [some (.ref 80), some (.int 5)] [] (177, cK L xs G 81 82 177 (Rr 5)) = ev_dn 38 1294 63 25 [some (.ref 80), some (.int 6)] [] (196, cK L xs G 81 82 196 (Rr 6)) := by
  rw [y_bl (pc' := 28) [(.iload_n 1, 1), (.bipush 8, 2)] [some (.ref 80), some (.int 5)] [.int 8, .int 5] (by decide +kernel) rfl]
  rw [n_ic (p := (8 : Int32) ≤ 5) (t := 50) (at1 (i := .if_icmp .ge 22) (by decide +kernel)) (by decide +kernel) (by decide +kernel), if_neg (by decide)]
  rw [y_bl (pc' := 32) [(.aload_n 0, 1)] [some (.ref 80), some (.int 5)] [.ref 80] (by decide +kernel) rfl]
  rw [n_gf (idx := 11) (ci := 4) (k := 0) (t := 2) (p := 12000) (at1 (by decide +kernel)) (by decide +kernel)]
  have e80 : cK L xs G 81 82 177 (Rr 5) 80 = some (ev_ob 4 [.ref 81, .int 0, .int 0]) := by
    unfold cK
    rw [if_neg (by decide), if_neg (by decide), hG]
  dsimp only
  rw [e80]
  show ev_dn 57 1941 63 35 [some (.ref 80), some (.int 5)] [.ref 81] _ = _
  rw [y_bl (pc' := 36) [(.iload_n 1, 1)] [some (.ref 80), some (.int 5)] [.int 5, .ref 81] (by decide +kernel) rfl]
  rw [y_nw (b' := 38) (z' := 1294) (idx := 9) (idx2 := 24) (ci2 := 3) (p := 11237) (kz := 13) (t := 47) (ml := 1) (k1 := 18) (k2 := 634) (pc' := 43) (n' := 196) (en := [some (.ref 177)]) (by decide +kernel) ⟨rfl, rfl, rfl, rfl, rfl, rfl⟩ (by decide) (by decide) (by decide) (by decide) (by decide) (K_47 (by (repeat' apply And.intro) <;> decide +kernel))]
  rw [n_rs (at1 (by decide +kernel))]
  have e81 : cK L xs G 81 82 196 (Rr 5) 81 = some (ev_ra 8 (fun k => if k < 5 then some (82 + 19 * k) else none)) := cK_a
  have eg : ∃ q, cK L xs G 81 82 196 (Rr 5) 177 = some (ev_ob 3 q) := by
    unfold cK
    rw [if_neg (by decide), if_pos (by decide)]
    exact ⟨_, cel_ob (by decide +kernel) (by decide)⟩
  obtain ⟨q, eg⟩ := eg
  dsimp only
  rw [e81, eg]
  rw [eg_rs_ok ⟨rfl, by decide, by decide, by decide⟩]
  dsimp only
  rw [y_bl (pc' := 47) [(.iinc 1 1, 3)] [some (.ref 80), some (.int 6)] [] (by decide +kernel) rfl]
  rw [n_go (t := 25) (at1 (i := .goto (-22)) (by decide +kernel)) (by decide +kernel), cK_up]
  exact congrArg (fun x => ev_dn 38 1294 63 25 [some (.ref 80), some (.int 6)] [] (196, cK L xs G 81 82 196 x)) (Rr_s (i := 5) rfl)
theorem H_6 (hG : G 80 = some (ev_ob 4 [.ref 81, .int 0, .int 0])) : ev_dn 38 1294 63 25 [some (.ref 80), some (.int 6)] [] (196, cK L xs G 81 82 196 (Rr 6)) = ev_dn 19 647 63 25 [some (.ref 80), some (.int 7)] [] (215, cK L xs G 81 82 215 (Rr 7)) := by
  rw [y_bl (pc' := 28) [(.iload_n 1, 1), (.bipush 8, 2)] [some (.ref 80), some (.int 6)] [.int 8, .int 6] (by decide +kernel) rfl]
  rw [n_ic (p := (8 : Int32) ≤ 6) (t := 50) (at1 (i := .if_icmp .ge 22) (by decide +kernel)) (by decide +kernel) (by decide +kernel), if_neg (by decide)]
  rw [y_bl (pc' := 32) [(.aload_n 0, 1)] [some (.ref 80), some (.int 6)] [.ref 80] (by decide +kernel) rfl]
  rw [n_gf (idx := 11) (ci := 4) (k := 0) (t := 2) (p := 12000) (at1 (by decide +kernel)) (by decide +kernel)]
  have e80 : cK L xs G 81 82 196 (Rr 6) 80 = some (ev_ob 4 [.ref 81, .int 0, .int 0]) := by
    unfold cK
    rw [if_neg (by decide), if_neg (by decide), hG]
  dsimp only
  rw [e80]
  show ev_dn 38 1294 63 35 [some (.ref 80), some (.int 6)] [.ref 81] _ = _
  rw [y_bl (pc' := 36) [(.iload_n 1, 1)] [some (.ref 80), some (.int 6)] [.int 6, .ref 81] (by decide +kernel) rfl]
  rw [y_nw (b' := 19) (z' := 647) (idx := 9) (idx2 := 24) (ci2 := 3) (p := 11237) (kz := 13) (t := 47) (ml := 1) (k1 := 18) (k2 := 634) (pc' := 43) (n' := 215) (en := [some (.ref 196)]) (by decide +kernel) ⟨rfl, rfl, rfl, rfl, rfl, rfl⟩ (by decide) (by decide) (by decide) (by decide) (by decide) (K_47 (by (repeat' apply And.intro) <;> decide +kernel))]
  rw [n_rs (at1 (by decide +kernel))]
  have e81 : cK L xs G 81 82 215 (Rr 6) 81 = some (ev_ra 8 (fun k => if k < 6 then some (82 + 19 * k) else none)) := cK_a
  have eg : ∃ q, cK L xs G 81 82 215 (Rr 6) 196 = some (ev_ob 3 q) := by
    unfold cK
    rw [if_neg (by decide), if_pos (by decide)]
    exact ⟨_, cel_ob (by decide +kernel) (by decide)⟩
  obtain ⟨q, eg⟩ := eg
  dsimp only
  rw [e81, eg]
  rw [eg_rs_ok ⟨rfl, by decide, by decide, by decide⟩]
  dsimp only
  rw [y_bl (pc' := 47) [(.iinc 1 1, 3)] [some (.ref 80), some (.int 7)] [] (by decide +kernel) rfl]
  rw [n_go (t := 25) (at1 (i := .goto (-22)) (by decide +kernel)) (by decide +kernel), cK_up]
  exact congrArg (fun x => ev_dn 19 647 63 25 [some (.ref 80), some (.int 7)] [] (215, cK L xs G 81 82 215 x)) (Rr_s (i := 6) rfl)
theorem H_7 (hG : G 80 = some (ev_ob 4 [.ref 81, .int 0, .int 0])) : ev_dn 19 647 63 25 [some (.ref 80), some (.int 7)] [] (215, cK L xs G 81 82 215 (Rr 7)) = ev_dn 0 0 63 25 [some (.ref 80), some (.int 8)] [] (234, cK L xs G 81 82 234 (Rr 8)) := by
  rw [y_bl (pc' := 28) [(.iload_n 1, 1), (.bipush 8, 2)] [some (.ref 80), some (.int 7)] [.int 8, .int 7] (by decide +kernel) rfl]
  rw [n_ic (p := (8 : Int32) ≤ 7) (t := 50) (at1 (i := .if_icmp .ge 22) (by decide +kernel)) (by decide +kernel) (by decide +kernel), if_neg (by decide)]
  rw [y_bl (pc' := 32) [(.aload_n 0, 1)] [some (.ref 80), some (.int 7)] [.ref 80] (by decide +kernel) rfl]
  rw [n_gf (idx := 11) (ci := 4) (k := 0) (t := 2) (p := 12000) (at1 (by decide +kernel)) (by decide +kernel)]
  have e80 : cK L xs G 81 82 215 (Rr 7) 80 = some (ev_ob 4 [.ref 81, .int 0, .int 0]) := by
    unfold cK
    rw [if_neg (by decide), if_neg (by decide), hG]
  dsimp only
  rw [e80]
  show ev_dn 19 647 63 35 [some (.ref 80), some (.int 7)] [.ref 81] _ = _
  rw [y_bl (pc' := 36) [(.iload_n 1, 1)] [some (.ref 80), some (.int 7)] [.int 7, .ref 81] (by decide +kernel) rfl]
  rw [y_nw (b' := 0) (z' := 0) (idx := 9) (idx2 := 24) (ci2 := 3) (p := 11237) (kz := 13) (t := 47) (ml := 1) (k1 := 18) (k2 := 634) (pc' := 43) (n' := 234) (en := [some (.ref 215)]) (by decide +kernel) ⟨rfl, rfl, rfl, rfl, rfl, rfl⟩ (by decide) (by decide) (by decide) (by decide) (by decide) (K_47 (by (repeat' apply And.intro) <;> decide +kernel))]
  rw [n_rs (at1 (by decide +kernel))]
  have e81 : cK L xs G 81 82 234 (Rr 7) 81 = some (ev_ra 8 (fun k => if k < 7 then some (82 + 19 * k) else none)) := cK_a
  have eg : ∃ q, cK L xs G 81 82 234 (Rr 7) 215 = some (ev_ob 3 q) := by
    unfold cK
    rw [if_neg (by decide), if_pos (by decide)]
    exact ⟨_, cel_ob (by decide +kernel) (by decide)⟩
  obtain ⟨q, eg⟩ := eg
  dsimp only
  rw [e81, eg]
  rw [eg_rs_ok ⟨rfl, by decide, by decide, by decide⟩]
  dsimp only
  rw [y_bl (pc' := 47) [(.iinc 1 1, 3)] [some (.ref 80), some (.int 8)] [] (by decide +kernel) rfl]
  rw [n_go (t := 25) (at1 (i := .goto (-22)) (by decide +kernel)) (by decide +kernel), cK_up]
  exact congrArg (fun x => ev_dn 0 0 63 25 [some (.ref 80), some (.int 8)] [] (234, cK L xs G 81 82 234 x)) (Rr_s (i := 7) rfl)
theorem K_63 : Kt L xs 63 4 153 5184 [some (.ref 80), none] 80 81 234 := by
  intro F hF
  rw [y_bl (pc' := 1) [(.aload_n 0, 1)] [some (.ref 80), none] [.ref 80] (by decide +kernel) rfl]
  rw [y_ob (idx := 3) (pc' := 4) (by decide +kernel)]
  rw [y_bl (pc' := 7) [(.aload_n 0, 1), (.bipush 8, 2)] [some (.ref 80), none] [.int 8, .ref 80] (by decide +kernel) rfl]
  rw [n_na (k := 8) (at1 (by decide +kernel)) (by decide +kernel) (by decide) (by decide), if_pos (by decide)]
  show ev_dn 152 5176 63 10 [some (.ref 80), none] [.ref 81, .ref 80] (82, ev_up F 81 (ev_ra 8 (fun _ => none))) = _
  have g1 : ev_up F 81 (ev_ra 8 (fun _ => none)) 80 = some (ev_ob 4 (ev_new 4)) := (if_neg (by decide)).trans hF
  have g2 : ev_up F 81 (ev_ra 8 (fun _ => none)) 81 = some (Rr 0) := if_pos rfl
  have g3 : ∀ c, c ≠ 81 → ev_up F 81 (ev_ra 8 (fun _ => none)) c = F c := fun c h => if_neg h
  generalize ev_up F 81 (ev_ra 8 (fun _ => none)) = G at *
  rw [y_pG (idx := 11) (ci := 4) (k := 0) (t := 2) (p := 12000) (pc' := 13) (fs' := [.ref 81, .int 0, .int 0]) rfl (by decide +kernel) rfl (by decide) rfl g1]
  rw [y_bl (pc' := 15) [(.aload_n 0, 1), (.iconst 0, 1)] [some (.ref 80), none] [.int 0, .ref 80] (by decide +kernel) rfl]
  rw [y_pG (idx := 17) (ci := 4) (k := 1) (t := 0) (p := 12001) (pc' := 18) (fs := [.ref 81, .int 0, .int 0]) (fs' := [.ref 81, .int 0, .int 0]) rfl (by decide +kernel) rfl (by decide) rfl (if_pos rfl)]
  rw [y_bl (pc' := 20) [(.aload_n 0, 1), (.iconst 0, 1)] [some (.ref 80), none] [.int 0, .ref 80] (by decide +kernel) rfl]
  rw [y_pG (idx := 21) (ci := 4) (k := 2) (t := 0) (p := 12002) (pc' := 23) (fs := [.ref 81, .int 0, .int 0]) (fs' := [.ref 81, .int 0, .int 0]) rfl (by decide +kernel) rfl (by decide) rfl (if_pos rfl)]
  have hA : ev_up (ev_up (ev_up G 80 (ev_ob 4 [.ref 81, .int 0, .int 0])) 80 (ev_ob 4 [.ref 81, .int 0, .int 0])) 80 (ev_ob 4 [.ref 81, .int 0, .int 0]) 80 = some (ev_ob 4 [.ref 81, .int 0, .int 0]) := if_pos rfl
  have hB : ∀ c, c ≠ 80 → ev_up (ev_up (ev_up G 80 (ev_ob 4 [.ref 81, .int 0, .int 0])) 80 (ev_ob 4 [.ref 81, .int 0, .int 0])) 80 (ev_ob 4 [.ref 81, .int 0, .int 0]) c = G c := fun c h => (if_neg h).trans ((if_neg h).trans (if_neg h))
  generalize ev_up (ev_up (ev_up G 80 (ev_ob 4 [.ref 81, .int 0, .int 0])) 80 (ev_ob 4 [.ref 81, .int 0, .int 0])) 80 (ev_ob 4 [.ref 81, .int 0, .int 0]) = Q at *
  rw [y_bl (pc' := 25) [(.iconst 0, 1), (.istore_n 1, 1)] [some (.ref 80), some (.int 0)] [] (by decide +kernel) rfl]
  have hR : Q 81 = some (Rr 0) := (hB 81 (by decide)).trans g2
  rw [show (82, Q) = (82, cK L xs Q 81 82 82 (Rr 0)) from congrArg (Prod.mk 82) (by
    have := cK_st (L := L) (xs := xs) (n := 82) hR
    exact this)]
  rw [H_0 hA, H_1 hA, H_2 hA, H_3 hA, H_4 hA, H_5 hA, H_6 hA, H_7 hA]
  rw [y_bl (pc' := 28) [(.iload_n 1, 1), (.bipush 8, 2)] [some (.ref 80), some (.int 8)] [.int 8, .int 8] (by decide +kernel) rfl]
  rw [n_ic (p := (8 : Int32) ≤ 8) (t := 50) (at1 (i := .if_icmp .ge 22) (by decide +kernel)) (by decide +kernel) (by decide +kernel), if_pos (by decide), y_rv (by decide +kernel)]
  have f80 : cel L 267 80 (zm xs 80) = some (ev_ob 4 [.ref 81, .int 0, .int 0]) := by
    unfold cel
    rw [if_pos (by decide), if_pos (by decide +kernel), zm_0 (by decide) (by decide +kernel) (by decide +kernel) (by decide +kernel), show sh_c 80 = 4 by decide +kernel]
    show some (ev_ob 4 [.ref (sh_r 80 0), .int 0, .int 0]) = _
    rw [show sh_r 80 0 = 81 by decide +kernel]
  have f81 : cel L 267 81 (zm xs 81) = some (Rr 8) := by
    rw [cel_ra (by decide +kernel), show sh_n 81 = 8 by decide +kernel]
    unfold Rr
    refine congrArg some (congrArg (ev_ra 8) ?_)
    funext k
    by_cases q : k < 8
    · rw [if_pos q, if_pos q]
      have : ∀ k, k < 8 → sh_r 81 k = 82 + 19 * k := by decide +kernel
      rw [this k q]
    · rw [if_neg q, if_neg q]
  refine congrArg some (congrArg (Prod.mk (Sum.inl none)) (congrArg (Prod.mk 234) ?_))
  funext c
  unfold cK
  by_cases q : c = 81
  · rw [if_pos q, if_pos (by omega), q, f81]
  · rw [if_neg q]
    by_cases q2 : 82 ≤ c ∧ c < 234
    · rw [if_pos q2, if_pos (by omega)]
    · rw [if_neg q2]
      by_cases q3 : c = 80
      · rw [if_pos (Or.inl q3), q3, hA, f80]
      · rw [if_neg (by omega), hB c q3, g3 c q]
end NC
