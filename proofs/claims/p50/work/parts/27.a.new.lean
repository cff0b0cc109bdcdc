/-! Objects made: memory while a constructor runs. -/
section NA
variable {L : Nat} {xs : Nat → Int32} {b z M pc a n0 n n' : Nat} {lo : ev_L} {st : List Value} {e e' : ev_E} {F F0 : Nat → Option ev_E} {ci : Nat} {fs : List Value}
/-- the numbers of what is new -/
def zm (xs : Nat → Int32) : Mm := fun a k => if a = 0 then ([100, 9, 5, 3, 3, 1] : List Int32).getD k 0 else if a = 1 then ([100, 9, 5, 3, 3, 1] : List Int32).getD k 0 else if a = 2 then xs k else if a < 20 then (ev_tb (a - 3)).getD k 0 else if sh_c a = 0 then (if 3 ≤ k ∧ k ≤ 5 then -1 else 0) else if sh_c a = 8 then (if k = 3 then -1 else 0) else if sh_c a = 11 then (if k = 26 then -1 else 0) else 0
theorem zm_0 (h : 20 ≤ a) (h0 : sh_c a ≠ 0) (h8 : sh_c a ≠ 8) (h11 : sh_c a ≠ 11) : zm xs a = fun _ => 0 := by
  funext k
  unfold zm
  rw [if_neg (by omega), if_neg (by omega), if_neg (by omega), if_neg (by omega), if_neg h0, if_neg h8, if_neg h11]
/-- what a has while its object is made, and what was made behind n0 -/
def cK (L : Nat) (xs : Nat → Int32) (F0 : Nat → Option ev_E) (a n0 n : Nat) (e : ev_E) : Nat → Option ev_E := fun c => if c = a then some e else if n0 ≤ c ∧ c < n then cel L 267 c (zm xs c) else F0 c
theorem cK_a : cK L xs F0 a n0 n e a = some e := if_pos rfl
theorem cK_st (h : F a = some e) : F = cK L xs F a n n e := by
  funext c
  unfold cK
  by_cases q : c = a
  · rw [if_pos q, q, h]
  · rw [if_neg q, if_neg (by omega)]
theorem cK_up : ev_up (cK L xs F0 a n0 n e) a e' = cK L xs F0 a n0 n e' := by
  funext c
  unfold ev_up cK
  by_cases q : c = a
  · rw [if_pos q, if_pos q]
  · rw [if_neg q, if_neg q, if_neg q]
theorem cK_nw {x : ev_E} (h1 : a < n0) (h2 : n0 ≤ n) (hx : cel L 267 n (zm xs n) = some x) : ev_up (cK L xs F0 a n0 n e) n x = cK L xs F0 a n0 (n + 1) e := by
  funext c
  unfold ev_up cK
  by_cases q : c = n
  · rw [if_pos q, if_neg (by omega), if_pos (by omega), q, hx]
  · rw [if_neg q]
    by_cases q2 : c = a
    · rw [if_pos q2, if_pos q2]
    · rw [if_neg q2, if_neg q2]
      by_cases q3 : n0 ≤ c ∧ c < n
      · rw [if_pos q3, if_pos (by omega)]
      · rw [if_neg q3, if_neg (by omega)]
/-- a constructor: the object at a is made, and what it has from n on -/
def Kt (L : Nat) (xs : Nat → Int32) (t ci k1 k2 : Nat) (en : ev_L) (a n n' : Nat) : Prop := ∀ F : Nat → Option ev_E, F a = some (ev_ob ci (ev_new ci)) → ev_dn k1 k2 t 0 en [] (n, F) = some (.inl none, (n', fun c => if c = a ∨ (n ≤ c ∧ c < n') then cel L 267 c (zm xs c) else F c))
theorem cK_en (he : cel L 267 a (zm xs a) = some e) : cK L xs F0 a n0 n e = fun c => if c = a ∨ (n0 ≤ c ∧ c < n) then cel L 267 c (zm xs c) else F0 c := by
  funext c
  unfold cK
  by_cases q : c = a
  · rw [if_pos q, if_pos (Or.inl q), q, he]
  · rw [if_neg q]
    by_cases q3 : n0 ≤ c ∧ c < n
    · rw [if_pos q3, if_pos (Or.inr q3)]
    · rw [if_neg q3, if_neg (fun h => h.elim q q3)]
theorem cK_ch (h1 : a < n0) (h2 : n0 ≤ n) (h3 : n < n') : (fun c => if c = n ∨ (n + 1 ≤ c ∧ c < n') then cel L 267 c (zm xs c) else ev_up (cK L xs F0 a n0 n e) n e' c) = cK L xs F0 a n0 n' e := by
  funext c
  unfold ev_up cK
  by_cases q : c = n ∨ (n + 1 ≤ c ∧ c < n')
  · rw [if_pos q, if_neg (by omega), if_pos (by omega)]
  · rw [if_neg q, if_neg (fun h => q (Or.inl h))]
    by_cases q2 : c = a
    · rw [if_pos q2, if_pos q2]
    · rw [if_neg q2, if_neg q2]
      by_cases q3 : n0 ≤ c ∧ c < n
      · rw [if_pos q3, if_pos (by omega)]
      · rw [if_neg q3, if_neg (by omega)]
/-- steps -/
theorem y_bl {pc' : Nat} {μ : ev_H} (blk : List (Instr × Nat)) (lo' : ev_L) (st' : List Value) (hd : ev_at M pc blk = true ∧ pc + ev_tot blk = pc') (he : ev_bl blk lo st = some (lo', st')) : ev_dn b z M pc lo st μ = ev_dn b z M pc' lo' st' μ := by
  rw [ev_bl_ok blk pc lo st _ hd.1 he, hd.2]
theorem y_ob {idx pc' : Nat} {μ : ev_H} (hd : ev_at M pc [(.invokespecial idx, 3)] = true ∧ ev_iv M (.invokespecial idx) 3 = some (1006, 2) ∧ ev_jk 1006 = 2 ∧ ev_jf 1006 ≤ ev_dp M ∧ ev_jl 1006 ≤ ev_lc M ∧ pc + 3 = pc') : ev_dn b z M pc lo [.ref a] μ = ev_dn b z M pc' lo [] μ := by
  obtain ⟨h1, h2, h3, h4, h5, rfl⟩ := hd
  exact n_obj (at1 h1) h2 ⟨h3, Nat.le_of_ble_eq_true rfl, h4, h5⟩
theorem y_pf {idx k t p pc' : Nat} {v : Value} {fs' : List Value} (hset : fs.set k v = fs') (hd : ev_at M pc [(.putfield idx, 3)] = true ∧ ev_fl (ev_ci M) idx = some (ci, k, t, p) ∧ (ev_kd M = 2 ∧ ev_ci M = ci) ∧ pc + 3 = pc') (hfit : ev_fit t v = true) (h20 : 20 ≤ a) (hk : Nat.blt k fs.length = true) :
    ev_dn b z M pc lo [v, .ref a] (n, cK L xs F0 a n0 n (ev_ob ci fs)) = ev_dn b z M pc' lo [] (n, cK L xs F0 a n0 n (ev_ob ci fs')) := by
  subst hset
  obtain ⟨h1, h2, h3, rfl⟩ := hd
  rw [n_pf (at1 h1) h2 hfit (Or.inr h3)]
  dsimp only
  rw [cK_a]
  show (if ci = ci ∧ ev_S ≤ a ∧ k < fs.length then _ else _) = _
  rw [if_pos ⟨rfl, h20, by simpa using hk⟩, cK_up]
theorem y_ni {k pc' b' z' n' : Nat} {x : Int32} (hd : ev_at M pc [(.newarray .int, 2)] = true ∧ pc + 2 = pc') (hx : x.toNatClampNeg = k ∧ ¬ (x < 0 ∨ 5000 < x.toNatClampNeg)) (hz : (1 ≤ b ∧ k ≤ z) ∧ b - 1 = b' ∧ z - k = z') (hn : n + 1 = n') (h1 : a < n0) (h2 : n0 ≤ n) (hs : sh_c n = 100 ∧ sh_n n = k ∧ n < 267) :
    ev_dn b z M pc lo (.int x :: st) (n, cK L xs F0 a n0 n e) = ev_dn b' z' M pc' lo (.ref n :: st) (n', cK L xs F0 a n0 n' e) := by
  obtain ⟨hz, rfl, rfl⟩ := hz
  subst hn
  obtain ⟨g1, rfl⟩ := hd
  have h20 : 20 ≤ n := sh_lo (by rw [hs.1]; decide)
  rw [n_ni (at1 g1) hx.1 hx.2, if_pos hz]
  dsimp only
  rw [cK_nw h1 h2]
  unfold cel
  rw [if_pos hs.2.2, zm_0 h20 (by rw [hs.1]; decide) (by rw [hs.1]; decide) (by rw [hs.1]; decide), hs.1, hs.2.1]
  rfl
theorem y_nb {k pc' b' z' n' : Nat} {x : Int32} (hd : ev_at M pc [(.newarray .byte, 2)] = true ∧ pc + 2 = pc') (hx : x.toNatClampNeg = k ∧ ¬ (x < 0 ∨ 5000 < x.toNatClampNeg)) (hz : (1 ≤ b ∧ k ≤ z) ∧ b - 1 = b' ∧ z - k = z') (hn : n + 1 = n') (h1 : a < n0) (h2 : n0 ≤ n) (hs : sh_c n = 101 ∧ sh_n n = k ∧ n < 267) :
    ev_dn b z M pc lo (.int x :: st) (n, cK L xs F0 a n0 n e) = ev_dn b' z' M pc' lo (.ref n :: st) (n', cK L xs F0 a n0 n' e) := by
  obtain ⟨hz, rfl, rfl⟩ := hz
  subst hn
  obtain ⟨g1, rfl⟩ := hd
  have h20 : 20 ≤ n := sh_lo (by rw [hs.1]; decide)
  rw [n_nb (at1 g1) hx.1 hx.2, if_pos hz]
  dsimp only
  rw [cK_nw h1 h2]
  unfold cel
  rw [if_pos hs.2.2, zm_0 h20 (by rw [hs.1]; decide) (by rw [hs.1]; decide) (by rw [hs.1]; decide), hs.1, hs.2.1]
  rfl
theorem y_nw {idx idx2 ci2 p kz t ml k1 k2 pc' b' z' : Nat} {en : ev_L} (hd : ev_at M pc [(.new idx, 3), (.dup, 1), (.invokespecial idx2, 3)] = true ∧ ev_nw (ev_ci M) idx = some (ci2, p) ∧ (ev_C ci2).2.2 = kz ∧ cd_ M (pc + 3 + 1) t 2 1 ml k1 k2 pc' (.invokespecial idx2) ∧ ev_ci t = ci2) (ho : co_ 1 ml (.ref n :: .ref n :: st) [.ref n] (.ref n :: st) en) (hz : ((1 ≤ b ∧ kz ≤ z) ∧ k1 ≤ b - 1 ∧ k2 ≤ z - kz) ∧ b - 1 - k1 = b' ∧ z - kz - k2 = z') (h1 : a < n0) (h2 : n0 ≤ n) (h20 : 20 ≤ n) (h3 : n < n')
    (hk : Kt L xs t ci2 k1 k2 en n (n + 1) n') :
    ev_dn b z M pc lo st (n, cK L xs F0 a n0 n e) = ev_dn b' z' M pc' lo (.ref n :: st) (n', cK L xs F0 a n0 n' e) := by
  obtain ⟨hz, rfl, rfl⟩ := hz
  obtain ⟨g1, g2, g3, g4, g5⟩ := hd
  have g1' := g1
  unfold ev_at at g1'
  simp only [Bool.and_eq_true, decide_eq_true_eq] at g1'
  obtain ⟨⟨a1, a2⟩, a3⟩ := g1'
  have a2 := Option.isNone_iff_eq_none.mp a2
  unfold ev_at at a3
  simp only [Bool.and_eq_true, decide_eq_true_eq] at a3
  obtain ⟨⟨b1, b2⟩, b3⟩ := a3
  have b2 := Option.isNone_iff_eq_none.mp b2
  rw [n_nw ⟨a1, a2⟩ g2 g3 rfl, if_pos hz.1]
  dsimp only
  rw [n_pu (st' := .ref n :: .ref n :: st) ⟨b1, b2⟩ rfl]
  have hr : ev_rc t 2 (.ref n :: []) (n + 1, ev_up (cK L xs F0 a n0 n e) n (ev_ob ci2 (ev_new ci2))) = true := by
    have e1 : ev_up (cK L xs F0 a n0 n e) n (ev_ob ci2 (ev_new ci2)) n = some (ev_ob ci2 (ev_new ci2)) := if_pos rfl
    simp only [ev_rc, e1]
    exact decide_eq_true ⟨g5.symm, h20⟩
  rw [i_c0 g4 ho rfl rfl rfl rfl rfl hr hz.2, hk _ (if_pos rfl)]
  unfold ev_bh
  dsimp only
  rw [cK_ch h1 h2 h3, g4.2.2.2.2.2.2.2.2.2.2]
  rfl
theorem y_rv (hd : ev_at M pc [(.return_, 1)] = true ∧ ev_rt M = none) {μ : ev_H} : ev_dn b z M pc lo [] μ = some (.inl none, μ) := n_rv (at1 hd.1) hd.2
end NA
