/-! Programs in numbers, and that the evaluator answers what they answer. -/
/-! 107 LanternChess$SetupText.takeNumber(II)I -/
noncomputable def d_107_48 (a0 : Nat) (x3 : Int32) (m : Mm) : Option (Int32 × Mm) := (d_111 a0 m).bind fun m3 => some (x3, m3)
theorem t_107_48 {L nx : Nat} (hN : okn nx) {b z : Nat} {m : Mm} {a0 : Nat} (h0 : ok nx a0 8) {x3 : Int32} {o1 : Option Value} {o2 : Option Value} : Im (d_107_48 a0 x3 m) (wI L nx) (ev_dn b z 107 48 [some (.ref a0), o1, o2, some (.int x3)] [] (nx, mem L nx m)) := by
  unfold d_107_48
  refine i_bl (pc' := 49) [(.aload_n 0, 1)] [some (.ref a0), o1, o2, some (.int x3)] [.ref a0] (by decide +kernel) rfl ?_
  refine i_cv (ci := 8) (t := 111) (na := 1) (ml := 1) (idx := 43) (pc' := 52) (st' := []) (en := [some (.ref a0)]) (av := []) (vo := fun _ => none) (mo := fun m => m) (s2 := fun _ => []) (by decide +kernel) (by decide +kernel) h0 ⟨rfl, rfl, rfl, rfl, rfl, rfl⟩ (fun _ => rfl) (t_111 hN (h0 := h0)) (fun m3 => ?_)
  refine i_bl (pc' := 53) [(.iload_n 3, 1)] [some (.ref a0), o1, o2, some (.int x3)] [.int x3] (by decide +kernel) rfl ?_
  exact i_ri (by decide +kernel) rfl

noncomputable def d_107_37 (a0 : Nat) (x1 : Int32) (m : Mm) : Option (Int32 × Mm) := (d_110 a0 2 (m a0 8) m).bind fun m2 => d_107_48 a0 x1 m2
theorem t_107_37 {L nx : Nat} (hN : okn nx) {b z : Nat} {m : Mm} {a0 : Nat} (h0 : ok nx a0 8) {x1 : Int32} {o2 : Option Value} {o3 : Option Value} : Im (d_107_37 a0 x1 m) (wI L nx) (ev_dn b z 107 37 [some (.ref a0), some (.int x1), o2, o3] [] (nx, mem L nx m)) := by
  unfold d_107_37
  refine i_bl (pc' := 40) [(.aload_n 0, 1), (.iconst 2, 1), (.aload_n 0, 1)] [some (.ref a0), some (.int x1), o2, o3] [.ref a0, .int 2, .ref a0] (by decide +kernel) rfl ?_
  refine i_gf (idx := 37) (ci := 8) (k := 8) (t := 0) (p := 11054) (pc' := 43) (by decide +kernel) h0 ?_
  refine i_cv (ci := 8) (t := 110) (na := 3) (ml := 3) (idx := 69) (pc' := 46) (st' := []) (en := [some (.ref a0), some (.int 2), some (.int (m a0 8))]) (av := [.int 2, .int (m a0 8)]) (vo := fun _ => none) (mo := fun m => m) (s2 := fun _ => []) (by decide +kernel) (by decide +kernel) h0 ⟨rfl, rfl, rfl, rfl, rfl, rfl⟩ (fun _ => rfl) (t_110 hN (h0 := h0)) (fun m2 => ?_)
  refine i_bl (pc' := 48) [(.iload_n 1, 1), (.istore_n 3, 1)] [some (.ref a0), some (.int x1), (ev_kl o2), some (.int x1)] [] (by decide +kernel) rfl ?_
  exact t_107_48 hN (h0 := h0)

noncomputable def d_107_27 (a0 : Nat) (x1 : Int32) (x2 : Int32) (x3 : Int32) (m : Mm) : Option (Int32 × Mm) := if x3 < x1 then (d_107_37 a0 x1 m) else (if x3 ≤ x2 then (d_107_48 a0 x3 m) else (d_107_37 a0 x1 m))
theorem t_107_27 {L nx : Nat} (hN : okn nx) {b z : Nat} {m : Mm} {a0 : Nat} (h0 : ok nx a0 8) {x1 : Int32} {x2 : Int32} {x3 : Int32}  : Im (d_107_27 a0 x1 x2 x3 m) (wI L nx) (ev_dn b z 107 27 [some (.ref a0), some (.int x1), some (.int x2), some (.int x3)] [] (nx, mem L nx m)) := by
  unfold d_107_27
  refine i_bl (pc' := 29) [(.iload_n 3, 1), (.iload_n 1, 1)] [some (.ref a0), some (.int x1), some (.int x2), some (.int x3)] [.int x1, .int x3] (by decide +kernel) rfl ?_
  refine i_ic (c := .lt) (off := 8) (t := 37) (pc' := 32) (p := x3 < x1) (by decide +kernel) rfl ?_ ?_
  · exact t_107_37 hN (h0 := h0)
  · refine i_bl (pc' := 34) [(.iload_n 3, 1), (.iload_n 2, 1)] [some (.ref a0), some (.int x1), some (.int x2), some (.int x3)] [.int x2, .int x3] (by decide +kernel) rfl ?_
    refine i_ic (c := .le) (off := 14) (t := 48) (pc' := 37) (p := x3 ≤ x2) (by decide +kernel) rfl ?_ ?_
    · exact t_107_48 hN (h0 := h0)
    · exact t_107_37 hN (h0 := h0)

noncomputable def d_107 (a0 : Nat) (x1 : Int32) (x2 : Int32) (m : Mm) : Option (Int32 × Mm) := if (m a0 7) = 2 then ((d_108 a0 m).bind fun v1 => d_107_27 a0 x1 x2 v1 m) else ((d_110 a0 1 (m a0 8) m).bind fun m4 => d_107_27 a0 x1 x2 x1 m4)
theorem t_107 {L nx : Nat} (hN : okn nx) {b z : Nat} {m : Mm} {a0 : Nat} (h0 : ok nx a0 8) {x1 : Int32} {x2 : Int32}  : Im (d_107 a0 x1 x2 m) (wI L nx) (ev_dn b z 107 0 [some (.ref a0), some (.int x1), some (.int x2), none] [] (nx, mem L nx m)) := by
  unfold d_107
  refine i_bl (pc' := 3) [(.iload_n 1, 1), (.istore_n 3, 1), (.aload_n 0, 1)] [some (.ref a0), some (.int x1), some (.int x2), some (.int x1)] [.ref a0] (by decide +kernel) rfl ?_
  refine i_gf (idx := 34) (ci := 8) (k := 7) (t := 0) (p := 11053) (pc' := 6) (by decide +kernel) h0 ?_
  refine i_bl (pc' := 7) [(.iconst 2, 1)] [some (.ref a0), some (.int x1), some (.int x2), some (.int x1)] [.int 2, .int (m a0 7)] (by decide +kernel) rfl ?_
  refine i_ic (c := .eq) (off := 15) (t := 22) (pc' := 10) (p := (m a0 7) = 2) (by decide +kernel) rfl ?_ ?_
  · refine i_bl (pc' := 23) [(.aload_n 0, 1)] [some (.ref a0), some (.int x1), some (.int x2), some (.int x1)] [.ref a0] (by decide +kernel) rfl ?_
    refine i_cv (ci := 8) (t := 108) (na := 1) (ml := 3) (idx := 175) (pc' := 26) (st' := []) (en := [some (.ref a0), none, none]) (av := []) (vo := fun v => some (.int v)) (mo := fun _ => m) (s2 := fun v => .int v :: []) (by decide +kernel) (by decide +kernel) h0 ⟨rfl, rfl, rfl, rfl, rfl, rfl⟩ (fun _ => rfl) (t_108 hN (h0 := h0)) (fun v1 => ?_)
    refine i_bl (pc' := 27) [(.istore_n 3, 1)] [some (.ref a0), some (.int x1), some (.int x2), some (.int v1)] [] (by decide +kernel) rfl ?_
    exact t_107_27 hN (h0 := h0)
  · refine i_bl (pc' := 13) [(.aload_n 0, 1), (.iconst 1, 1), (.aload_n 0, 1)] [some (.ref a0), some (.int x1), some (.int x2), some (.int x1)] [.ref a0, .int 1, .ref a0] (by decide +kernel) rfl ?_
    refine i_gf (idx := 37) (ci := 8) (k := 8) (t := 0) (p := 11054) (pc' := 16) (by decide +kernel) h0 ?_
    refine i_cv (ci := 8) (t := 110) (na := 3) (ml := 3) (idx := 69) (pc' := 19) (st' := []) (en := [some (.ref a0), some (.int 1), some (.int (m a0 8))]) (av := [.int 1, .int (m a0 8)]) (vo := fun _ => none) (mo := fun m => m) (s2 := fun _ => []) (by decide +kernel) (by decide +kernel) h0 ⟨rfl, rfl, rfl, rfl, rfl, rfl⟩ (fun _ => rfl) (t_110 hN (h0 := h0)) (fun m4 => ?_)
    refine i_go (t := 27) (off := 8) (by decide +kernel) ?_
    exact t_107_27 hN (h0 := h0)

/-! 106 LanternChess$SetupText.takeSemicolon()V -/
noncomputable def d_106_17 (a0 : Nat) (m : Mm) : Option Mm := (d_111 a0 m).bind fun m1 => some m1
theorem t_106_17 {L nx : Nat} (hN : okn nx) {b z : Nat} {m : Mm} {a0 : Nat} (h0 : ok nx a0 8)   : Im (d_106_17 a0 m) (wV L nx) (ev_dn b z 106 17 [some (.ref a0)] [] (nx, mem L nx m)) := by
  unfold d_106_17
  refine i_bl (pc' := 18) [(.aload_n 0, 1)] [some (.ref a0)] [.ref a0] (by decide +kernel) rfl ?_
  refine i_cv (ci := 8) (t := 111) (na := 1) (ml := 1) (idx := 43) (pc' := 21) (st' := []) (en := [some (.ref a0)]) (av := []) (vo := fun _ => none) (mo := fun m => m) (s2 := fun _ => []) (by decide +kernel) (by decide +kernel) h0 ⟨rfl, rfl, rfl, rfl, rfl, rfl⟩ (fun _ => rfl) (t_111 hN (h0 := h0)) (fun m1 => ?_)
  exact i_rv (by decide +kernel) rfl

noncomputable def d_106 (a0 : Nat) (m : Mm) : Option Mm := if (m a0 7) = 3 then (d_106_17 a0 m) else ((d_110 a0 1 (m a0 8) m).bind fun m2 => d_106_17 a0 m2)
theorem t_106 {L nx : Nat} (hN : okn nx) {b z : Nat} {m : Mm} {a0 : Nat} (h0 : ok nx a0 8)   : Im (d_106 a0 m) (wV L nx) (ev_dn b z 106 0 [some (.ref a0)] [] (nx, mem L nx m)) := by
  unfold d_106
  refine i_bl (pc' := 1) [(.aload_n 0, 1)] [some (.ref a0)] [.ref a0] (by decide +kernel) rfl ?_
  refine i_gf (idx := 34) (ci := 8) (k := 7) (t := 0) (p := 11053) (pc' := 4) (by decide +kernel) h0 ?_
  refine i_bl (pc' := 5) [(.iconst 3, 1)] [some (.ref a0)] [.int 3, .int (m a0 7)] (by decide +kernel) rfl ?_
  refine i_ic (c := .eq) (off := 12) (t := 17) (pc' := 8) (p := (m a0 7) = 3) (by decide +kernel) rfl ?_ ?_
  · exact t_106_17 hN (h0 := h0)
  · refine i_bl (pc' := 11) [(.aload_n 0, 1), (.iconst 1, 1), (.aload_n 0, 1)] [some (.ref a0)] [.ref a0, .int 1, .ref a0] (by decide +kernel) rfl ?_
    refine i_gf (idx := 37) (ci := 8) (k := 8) (t := 0) (p := 11054) (pc' := 14) (by decide +kernel) h0 ?_
    refine i_cv (ci := 8) (t := 110) (na := 3) (ml := 3) (idx := 69) (pc' := 17) (st' := []) (en := [some (.ref a0), some (.int 1), some (.int (m a0 8))]) (av := [.int 1, .int (m a0 8)]) (vo := fun _ => none) (mo := fun m => m) (s2 := fun _ => []) (by decide +kernel) (by decide +kernel) h0 ⟨rfl, rfl, rfl, rfl, rfl, rfl⟩ (fun _ => rfl) (t_110 hN (h0 := h0)) (fun m2 => ?_)
    exact t_106_17 hN (h0 := h0)

/-! 104 LanternChess$SetupText.takeOnce(I)V -/
noncomputable def d_104_18 (a0 : Nat) (x1 : Int32) (m : Mm) : Option Mm := wb (wr m a0 5 ((m a0 5) ||| x1)) fun m1 => (d_111 a0 m1).bind fun m2 => some m2
theorem t_104_18 {L nx : Nat} (hN : okn nx) {b z : Nat} {m : Mm} {a0 : Nat} (h0 : ok nx a0 8) {x1 : Int32}  : Im (d_104_18 a0 x1 m) (wV L nx) (ev_dn b z 104 18 [some (.ref a0), some (.int x1)] [] (nx, mem L nx m)) := by
  unfold d_104_18
  refine i_bl (pc' := 20) [(.aload_n 0, 1), (.dup, 1)] [some (.ref a0), some (.int x1)] [.ref a0, .ref a0] (by decide +kernel) rfl ?_
  refine i_gf (idx := 28) (ci := 8) (k := 5) (t := 0) (p := 11051) (pc' := 23) (by decide +kernel) h0 ?_
  refine i_bl (pc' := 25) [(.iload_n 1, 1), (.ior, 1)] [some (.ref a0), some (.int x1)] [.int ((m a0 5) ||| x1), .ref a0] (by decide +kernel) rfl ?_
  refine i_pf (x := ((m a0 5) ||| x1)) (idx := 28) (ci := 8) (k := 5) (p := 11051) (pc' := 28) (by decide +kernel) h0 (fun m1 => ?_)
  refine i_bl (pc' := 29) [(.aload_n 0, 1)] [some (.ref a0), some (.int x1)] [.ref a0] (by decide +kernel) rfl ?_
  refine i_cv (ci := 8) (t := 111) (na := 1) (ml := 1) (idx := 43) (pc' := 32) (st' := []) (en := [some (.ref a0)]) (av := []) (vo := fun _ => none) (mo := fun m => m) (s2 := fun _ => []) (by decide +kernel) (by decide +kernel) h0 ⟨rfl, rfl, rfl, rfl, rfl, rfl⟩ (fun _ => rfl) (t_111 hN (h0 := h0)) (fun m2 => ?_)
  exact i_rv (by decide +kernel) rfl

noncomputable def d_104 (a0 : Nat) (x1 : Int32) (m : Mm) : Option Mm := if ((m a0 5) &&& x1) = 0 then (d_104_18 a0 x1 m) else ((d_110 a0 3 (m a0 8) m).bind fun m3 => d_104_18 a0 x1 m3)
theorem t_104 {L nx : Nat} (hN : okn nx) {b z : Nat} {m : Mm} {a0 : Nat} (h0 : ok nx a0 8) {x1 : Int32}  : Im (d_104 a0 x1 m) (wV L nx) (ev_dn b z 104 0 [some (.ref a0), some (.int x1)] [] (nx, mem L nx m)) := by
  unfold d_104
  refine i_bl (pc' := 1) [(.aload_n 0, 1)] [some (.ref a0), some (.int x1)] [.ref a0] (by decide +kernel) rfl ?_
  refine i_gf (idx := 28) (ci := 8) (k := 5) (t := 0) (p := 11051) (pc' := 4) (by decide +kernel) h0 ?_
  refine i_bl (pc' := 6) [(.iload_n 1, 1), (.iand, 1)] [some (.ref a0), some (.int x1)] [.int ((m a0 5) &&& x1)] (by decide +kernel) rfl ?_
  refine i_if (c := .eq) (off := 12) (t := 18) (pc' := 9) (p := ((m a0 5) &&& x1) = 0) (by decide +kernel) rfl ?_ ?_
  · exact t_104_18 hN (h0 := h0)
  · refine i_bl (pc' := 12) [(.aload_n 0, 1), (.iconst 3, 1), (.aload_n 0, 1)] [some (.ref a0), some (.int x1)] [.ref a0, .int 3, .ref a0] (by decide +kernel) rfl ?_
    refine i_gf (idx := 37) (ci := 8) (k := 8) (t := 0) (p := 11054) (pc' := 15) (by decide +kernel) h0 ?_
    refine i_cv (ci := 8) (t := 110) (na := 3) (ml := 3) (idx := 69) (pc' := 18) (st' := []) (en := [some (.ref a0), some (.int 3), some (.int (m a0 8))]) (av := [.int 3, .int (m a0 8)]) (vo := fun _ => none) (mo := fun m => m) (s2 := fun _ => []) (by decide +kernel) (by decide +kernel) h0 ⟨rfl, rfl, rfl, rfl, rfl, rfl⟩ (fun _ => rfl) (t_110 hN (h0 := h0)) (fun m3 => ?_)
    exact t_104_18 hN (h0 := h0)

/-! 103 LanternChess$SetupText.kindOfWord()I -/
noncomputable def d_103 (a0 : Nat) (m : Mm) : Option Int32 := (d_109 a0 9 m).bind fun v1 => if v1 = true then (some 0) else ((d_109 a0 10 m).bind fun v2 => if v2 = true then (some 1) else ((d_109 a0 11 m).bind fun v3 => if v3 = true then (some 2) else ((d_109 a0 12 m).bind fun v4 => if v4 = true then (some 3) else ((d_109 a0 13 m).bind fun v5 => if v5 = true then (some 4) else ((d_109 a0 14 m).bind fun v6 => if v6 = true then (some 5) else (some (-1)))))))
theorem t_103 {L nx : Nat} (hN : okn nx) {b z : Nat} {m : Mm} {a0 : Nat} (h0 : ok nx a0 8)   : Im (d_103 a0 m) (kI L nx m) (ev_dn b z 103 0 [some (.ref a0)] [] (nx, mem L nx m)) := by
  unfold d_103
  refine i_bl (pc' := 1) [(.aload_n 0, 1)] [some (.ref a0)] [.ref a0] (by decide +kernel) rfl ?_
  refine i_lt (idx := 163) (p := 13061) (w := 9) (tx := "king") (pc' := 3) (by decide +kernel) ?_
  refine i_cv (ci := 8) (t := 109) (na := 2) (ml := 3) (idx := 74) (pc' := 6) (st' := []) (en := [some (.ref a0), some (.ref 9), none]) (av := [.ref 9]) (vo := fun v => some (.int (bi v))) (mo := fun _ => m) (s2 := fun v => .int (bi v) :: []) (by decide +kernel) (by decide +kernel) h0 ⟨rfl, rfl, rfl, rfl, rfl, rfl⟩ (fun _ => rfl) (t_109 hN (h0 := h0) (h1 := (o_lo hN (by decide +kernel)))) (fun v1 => ?_)
  refine i_bz (off := 5) (t := 11) (pc' := 9) (by decide +kernel) ?_ ?_
  · refine i_bl (pc' := 10) [(.iconst 0, 1)] [some (.ref a0)] [.int 0] (by decide +kernel) rfl ?_
    exact i_ri (by decide +kernel) rfl
  · refine i_bl (pc' := 12) [(.aload_n 0, 1)] [some (.ref a0)] [.ref a0] (by decide +kernel) rfl ?_
    refine i_lt (idx := 165) (p := 13062) (w := 10) (tx := "queen") (pc' := 14) (by decide +kernel) ?_
    refine i_cv (ci := 8) (t := 109) (na := 2) (ml := 3) (idx := 74) (pc' := 17) (st' := []) (en := [some (.ref a0), some (.ref 10), none]) (av := [.ref 10]) (vo := fun v => some (.int (bi v))) (mo := fun _ => m) (s2 := fun v => .int (bi v) :: []) (by decide +kernel) (by decide +kernel) h0 ⟨rfl, rfl, rfl, rfl, rfl, rfl⟩ (fun _ => rfl) (t_109 hN (h0 := h0) (h1 := (o_lo hN (by decide +kernel)))) (fun v2 => ?_)
    refine i_bz (off := 5) (t := 22) (pc' := 20) (by decide +kernel) ?_ ?_
    · refine i_bl (pc' := 21) [(.iconst 1, 1)] [some (.ref a0)] [.int 1] (by decide +kernel) rfl ?_
      exact i_ri (by decide +kernel) rfl
    · refine i_bl (pc' := 23) [(.aload_n 0, 1)] [some (.ref a0)] [.ref a0] (by decide +kernel) rfl ?_
      refine i_lt (idx := 167) (p := 13063) (w := 11) (tx := "rook") (pc' := 25) (by decide +kernel) ?_
      refine i_cv (ci := 8) (t := 109) (na := 2) (ml := 3) (idx := 74) (pc' := 28) (st' := []) (en := [some (.ref a0), some (.ref 11), none]) (av := [.ref 11]) (vo := fun v => some (.int (bi v))) (mo := fun _ => m) (s2 := fun v => .int (bi v) :: []) (by decide +kernel) (by decide +kernel) h0 ⟨rfl, rfl, rfl, rfl, rfl, rfl⟩ (fun _ => rfl) (t_109 hN (h0 := h0) (h1 := (o_lo hN (by decide +kernel)))) (fun v3 => ?_)
      refine i_bz (off := 5) (t := 33) (pc' := 31) (by decide +kernel) ?_ ?_
      · refine i_bl (pc' := 32) [(.iconst 2, 1)] [some (.ref a0)] [.int 2] (by decide +kernel) rfl ?_
        exact i_ri (by decide +kernel) rfl
      · refine i_bl (pc' := 34) [(.aload_n 0, 1)] [some (.ref a0)] [.ref a0] (by decide +kernel) rfl ?_
        refine i_lt (idx := 169) (p := 13064) (w := 12) (tx := "bishop") (pc' := 36) (by decide +kernel) ?_
        refine i_cv (ci := 8) (t := 109) (na := 2) (ml := 3) (idx := 74) (pc' := 39) (st' := []) (en := [some (.ref a0), some (.ref 12), none]) (av := [.ref 12]) (vo := fun v => some (.int (bi v))) (mo := fun _ => m) (s2 := fun v => .int (bi v) :: []) (by decide +kernel) (by decide +kernel) h0 ⟨rfl, rfl, rfl, rfl, rfl, rfl⟩ (fun _ => rfl) (t_109 hN (h0 := h0) (h1 := (o_lo hN (by decide +kernel)))) (fun v4 => ?_)
        refine i_bz (off := 5) (t := 44) (pc' := 42) (by decide +kernel) ?_ ?_
        · refine i_bl (pc' := 43) [(.iconst 3, 1)] [some (.ref a0)] [.int 3] (by decide +kernel) rfl ?_
          exact i_ri (by decide +kernel) rfl
        · refine i_bl (pc' := 45) [(.aload_n 0, 1)] [some (.ref a0)] [.ref a0] (by decide +kernel) rfl ?_
          refine i_lt (idx := 171) (p := 13065) (w := 13) (tx := "knight") (pc' := 47) (by decide +kernel) ?_
          refine i_cv (ci := 8) (t := 109) (na := 2) (ml := 3) (idx := 74) (pc' := 50) (st' := []) (en := [some (.ref a0), some (.ref 13), none]) (av := [.ref 13]) (vo := fun v => some (.int (bi v))) (mo := fun _ => m) (s2 := fun v => .int (bi v) :: []) (by decide +kernel) (by decide +kernel) h0 ⟨rfl, rfl, rfl, rfl, rfl, rfl⟩ (fun _ => rfl) (t_109 hN (h0 := h0) (h1 := (o_lo hN (by decide +kernel)))) (fun v5 => ?_)
          refine i_bz (off := 5) (t := 55) (pc' := 53) (by decide +kernel) ?_ ?_
          · refine i_bl (pc' := 54) [(.iconst 4, 1)] [some (.ref a0)] [.int 4] (by decide +kernel) rfl ?_
            exact i_ri (by decide +kernel) rfl
          · refine i_bl (pc' := 56) [(.aload_n 0, 1)] [some (.ref a0)] [.ref a0] (by decide +kernel) rfl ?_
            refine i_lt (idx := 173) (p := 13066) (w := 14) (tx := "pawn") (pc' := 58) (by decide +kernel) ?_
            refine i_cv (ci := 8) (t := 109) (na := 2) (ml := 3) (idx := 74) (pc' := 61) (st' := []) (en := [some (.ref a0), some (.ref 14), none]) (av := [.ref 14]) (vo := fun v => some (.int (bi v))) (mo := fun _ => m) (s2 := fun v => .int (bi v) :: []) (by decide +kernel) (by decide +kernel) h0 ⟨rfl, rfl, rfl, rfl, rfl, rfl⟩ (fun _ => rfl) (t_109 hN (h0 := h0) (h1 := (o_lo hN (by decide +kernel)))) (fun v6 => ?_)
            refine i_bz (off := 7) (t := 68) (pc' := 64) (by decide +kernel) ?_ ?_
            · refine i_bl (pc' := 65) [(.iconst 5, 1)] [some (.ref a0)] [.int 5] (by decide +kernel) rfl ?_
              refine i_go (t := 69) (off := 4) (by decide +kernel) ?_
              exact i_ri (by decide +kernel) rfl
            · refine i_bl (pc' := 69) [(.iconst (-1), 1)] [some (.ref a0)] [.int (-1)] (by decide +kernel) rfl ?_
              exact i_ri (by decide +kernel) rfl

/-! 102 LanternChess$SetupText.takeKind(I)I -/
noncomputable def d_102_35 (x2 : Int32) (s0 : Nat) (s1 : Int32) (m : Mm) : Option (Int32 × Mm) := (d_104 s0 s1 m).bind fun m3 => some (x2, m3)
theorem t_102_35 {L nx : Nat} (hN : okn nx) {b z : Nat} {m : Mm} {s0 : Nat} (hs0 : ok nx s0 8) {x2 : Int32} {s1 : Int32} {o0 : Option Value} {o1 : Option Value} : Im (d_102_35 x2 s0 s1 m) (wI L nx) (ev_dn b z 102 35 [o0, o1, some (.int x2)] [.int s1, .ref s0] (nx, mem L nx m)) := by
  unfold d_102_35
  refine i_cv (ci := 8) (t := 104) (na := 2) (ml := 2) (idx := 78) (pc' := 38) (st' := []) (en := [some (.ref s0), some (.int s1)]) (av := [.int s1]) (vo := fun _ => none) (mo := fun m => m) (s2 := fun _ => []) (by decide +kernel) (by decide +kernel) hs0 ⟨rfl, rfl, rfl, rfl, rfl, rfl⟩ (fun _ => rfl) (t_104 hN (h0 := hs0)) (fun m3 => ?_)
  refine i_go (t := 45) (off := 7) (by decide +kernel) ?_
  refine i_bl (pc' := 46) [(.iload_n 2, 1)] [o0, o1, some (.int x2)] [.int x2] (by decide +kernel) rfl ?_
  exact i_ri (by decide +kernel) rfl

noncomputable def d_102_19 (a0 : Nat) (x1 : Int32) (x2 : Int32) (m : Mm) : Option (Int32 × Mm) := if ¬ x2 = 0 then ((d_111 a0 m).bind fun m2 => some (x2, m2)) else (if ¬ x1 = 0 then (d_102_35 x2 a0 32 m) else (d_102_35 x2 a0 16 m))
theorem t_102_19 {L nx : Nat} (hN : okn nx) {b z : Nat} {m : Mm} {a0 : Nat} (h0 : ok nx a0 8) {x1 : Int32} {x2 : Int32}  : Im (d_102_19 a0 x1 x2 m) (wI L nx) (ev_dn b z 102 19 [some (.ref a0), some (.int x1), some (.int x2)] [] (nx, mem L nx m)) := by
  unfold d_102_19
  refine i_bl (pc' := 20) [(.iload_n 2, 1)] [some (.ref a0), some (.int x1), some (.int x2)] [.int x2] (by decide +kernel) rfl ?_
  refine i_if (c := .ne) (off := 21) (t := 41) (pc' := 23) (p := ¬ x2 = 0) (by decide +kernel) rfl ?_ ?_
  · refine i_bl (pc' := 42) [(.aload_n 0, 1)] [some (.ref a0), some (.int x1), some (.int x2)] [.ref a0] (by decide +kernel) rfl ?_
    refine i_cv (ci := 8) (t := 111) (na := 1) (ml := 1) (idx := 43) (pc' := 45) (st' := []) (en := [some (.ref a0)]) (av := []) (vo := fun _ => none) (mo := fun m => m) (s2 := fun _ => []) (by decide +kernel) (by decide +kernel) h0 ⟨rfl, rfl, rfl, rfl, rfl, rfl⟩ (fun _ => rfl) (t_111 hN (h0 := h0)) (fun m2 => ?_)
    refine i_bl (pc' := 46) [(.iload_n 2, 1)] [some (.ref a0), some (.int x1), some (.int x2)] [.int x2] (by decide +kernel) rfl ?_
    exact i_ri (by decide +kernel) rfl
  · refine i_bl (pc' := 25) [(.aload_n 0, 1), (.iload_n 1, 1)] [some (.ref a0), some (.int x1), some (.int x2)] [.int x1, .ref a0] (by decide +kernel) rfl ?_
    refine i_if (c := .ne) (off := 8) (t := 33) (pc' := 28) (p := ¬ x1 = 0) (by decide +kernel) rfl ?_ ?_
    · refine i_bl (pc' := 35) [(.bipush (32), 2)] [some (.ref a0), some (.int x1), some (.int x2)] [.int 32, .ref a0] (by decide +kernel) rfl ?_
      exact t_102_35 hN (hs0 := h0)
    · refine i_bl (pc' := 30) [(.bipush (16), 2)] [some (.ref a0), some (.int x1), some (.int x2)] [.int 16, .ref a0] (by decide +kernel) rfl ?_
      refine i_go (t := 35) (off := 5) (by decide +kernel) ?_
      exact t_102_35 hN (hs0 := h0)

noncomputable def d_102 (a0 : Nat) (x1 : Int32) (m : Mm) : Option (Int32 × Mm) := (d_103 a0 m).bind fun v1 => if ¬ v1 = (-1) then (d_102_19 a0 x1 v1 m) else ((d_110 a0 1 (m a0 8) m).bind fun m4 => d_102_19 a0 x1 v1 m4)
theorem t_102 {L nx : Nat} (hN : okn nx) {b z : Nat} {m : Mm} {a0 : Nat} (h0 : ok nx a0 8) {x1 : Int32}  : Im (d_102 a0 x1 m) (wI L nx) (ev_dn b z 102 0 [some (.ref a0), some (.int x1), none] [] (nx, mem L nx m)) := by
  unfold d_102
  refine i_bl (pc' := 1) [(.aload_n 0, 1)] [some (.ref a0), some (.int x1), none] [.ref a0] (by decide +kernel) rfl ?_
  refine i_cv (ci := 8) (t := 103) (na := 1) (ml := 1) (idx := 159) (pc' := 4) (st' := []) (en := [some (.ref a0)]) (av := []) (vo := fun v => some (.int v)) (mo := fun _ => m) (s2 := fun v => .int v :: []) (by decide +kernel) (by decide +kernel) h0 ⟨rfl, rfl, rfl, rfl, rfl, rfl⟩ (fun _ => rfl) (t_103 hN (h0 := h0)) (fun v1 => ?_)
  refine i_bl (pc' := 7) [(.istore_n 2, 1), (.iload_n 2, 1), (.iconst (-1), 1)] [some (.ref a0), some (.int x1), some (.int v1)] [.int (-1), .int v1] (by decide +kernel) rfl ?_
  refine i_ic (c := .ne) (off := 12) (t := 19) (pc' := 10) (p := ¬ v1 = (-1)) (by decide +kernel) rfl ?_ ?_
  · exact t_102_19 hN (h0 := h0)
  · refine i_bl (pc' := 13) [(.aload_n 0, 1), (.iconst 1, 1), (.aload_n 0, 1)] [some (.ref a0), some (.int x1), some (.int v1)] [.ref a0, .int 1, .ref a0] (by decide +kernel) rfl ?_
    refine i_gf (idx := 37) (ci := 8) (k := 8) (t := 0) (p := 11054) (pc' := 16) (by decide +kernel) h0 ?_
    refine i_cv (ci := 8) (t := 110) (na := 3) (ml := 3) (idx := 69) (pc' := 19) (st' := []) (en := [some (.ref a0), some (.int 1), some (.int (m a0 8))]) (av := [.int 1, .int (m a0 8)]) (vo := fun _ => none) (mo := fun m => m) (s2 := fun _ => []) (by decide +kernel) (by decide +kernel) h0 ⟨rfl, rfl, rfl, rfl, rfl, rfl⟩ (fun _ => rfl) (t_110 hN (h0 := h0)) (fun m4 => ?_)
    exact t_102_19 hN (h0 := h0)

/-! 100 LanternChess$SetupText.readPiece(LLanternChess$Game;I)V -/
noncomputable def d_100_100 (a0 : Nat) (a1 : Nat) (x2 : Int32) (x3 : Int32) (x6 : Int32) (m : Mm) : Option Mm := (d_50 a1 x6 (x3 + (6 * x2)) m).bind fun m7 => wb (wr m7 a0 4 ((m7 a0 4) + 1)) fun m8 => some m8
theorem t_100_100 {L nx : Nat} (hN : okn nx) {b z : Nat} {m : Mm} {a0 : Nat} (h0 : ok nx a0 8) {a1 : Nat} (h1 : ok nx a1 3) {x2 : Int32} {x3 : Int32} {x6 : Int32} {o4 : Option Value} {o5 : Option Value} : Im (d_100_100 a0 a1 x2 x3 x6 m) (wV L nx) (ev_dn b z 100 100 [some (.ref a0), some (.ref a1), some (.int x2), some (.int x3), o4, o5, some (.int x6)] [] (nx, mem L nx m)) := by
  unfold d_100_100
  refine i_bl (pc' := 109) [(.aload_n 1, 1), (.iload 6, 2), (.iload_n 3, 1), (.bipush (6), 2), (.iload_n 2, 1), (.imul, 1), (.iadd, 1)] [some (.ref a0), some (.ref a1), some (.int x2), some (.int x3), o4, o5, some (.int x6)] [.int (x3 + (6 * x2)), .int x6, .ref a1] (by decide +kernel) rfl ?_
  refine i_cv (ci := 3) (t := 50) (na := 3) (ml := 3) (idx := 138) (pc' := 112) (st' := []) (en := [some (.ref a1), some (.int x6), some (.int (x3 + (6 * x2)))]) (av := [.int x6, .int (x3 + (6 * x2))]) (vo := fun _ => none) (mo := fun m => m) (s2 := fun _ => []) (by decide +kernel) (by decide +kernel) h1 ⟨rfl, rfl, rfl, rfl, rfl, rfl⟩ (fun _ => rfl) (t_50 hN (h0 := h1)) (fun m7 => ?_)
  refine i_bl (pc' := 114) [(.aload_n 0, 1), (.dup, 1)] [some (.ref a0), some (.ref a1), some (.int x2), some (.int x3), o4, o5, some (.int x6)] [.ref a0, .ref a0] (by decide +kernel) rfl ?_
  refine i_gf (idx := 25) (ci := 8) (k := 4) (t := 0) (p := 11049) (pc' := 117) (by decide +kernel) h0 ?_
  refine i_bl (pc' := 119) [(.iconst 1, 1), (.iadd, 1)] [some (.ref a0), some (.ref a1), some (.int x2), some (.int x3), o4, o5, some (.int x6)] [.int ((m7 a0 4) + 1), .ref a0] (by decide +kernel) rfl ?_
  refine i_pf (x := ((m7 a0 4) + 1)) (idx := 25) (ci := 8) (k := 4) (p := 11049) (pc' := 122) (by decide +kernel) h0 (fun m8 => ?_)
  exact i_rv (by decide +kernel) rfl

noncomputable def d_100_18 (a0 : Nat) (a1 : Nat) (x2 : Int32) (m : Mm) : Option Mm := (d_111 a0 m).bind fun m1 => (d_102 a0 x2 m1).bind fun r2 => (d_107 a0 0 ((r2.2 (sh_r (sh_r a1 0) 0) 1) - 1) r2.2).bind fun r3 => (d_107 a0 0 ((r3.2 (sh_r (sh_r a1 0) 0) 2) - 1) r3.2).bind fun r4 => (d_12 r3.1 r4.1).bind fun v5 => (d_17 (sh_r (sh_r a1 0) 0) v5 r4.2).bind fun v6 => if v6 = (-1) then (d_100_100 a0 a1 x2 r2.1 v5 r4.2) else ((d_110 a0 3 (r4.2 a0 9) r4.2).bind fun m9 => d_100_100 a0 a1 x2 r2.1 v5 m9)
theorem t_100_18 {L nx : Nat} (hN : okn nx) {b z : Nat} {m : Mm} {a0 : Nat} (h0 : ok nx a0 8) {a1 : Nat} (h1 : ok nx a1 3) {x2 : Int32}  : Im (d_100_18 a0 a1 x2 m) (wV L nx) (ev_dn b z 100 18 [some (.ref a0), some (.ref a1), some (.int x2), none, none, none, none] [] (nx, mem L nx m)) := by
  unfold d_100_18
  refine i_bl (pc' := 19) [(.aload_n 0, 1)] [some (.ref a0), some (.ref a1), some (.int x2), none, none, none, none] [.ref a0] (by decide +kernel) rfl ?_
  refine i_cv (ci := 8) (t := 111) (na := 1) (ml := 1) (idx := 43) (pc' := 22) (st' := []) (en := [some (.ref a0)]) (av := []) (vo := fun _ => none) (mo := fun m => m) (s2 := fun _ => []) (by decide +kernel) (by decide +kernel) h0 ⟨rfl, rfl, rfl, rfl, rfl, rfl⟩ (fun _ => rfl) (t_111 hN (h0 := h0)) (fun m1 => ?_)
  refine i_bl (pc' := 24) [(.aload_n 0, 1), (.iload_n 2, 1)] [some (.ref a0), some (.ref a1), some (.int x2), none, none, none, none] [.int x2, .ref a0] (by decide +kernel) rfl ?_
  refine i_cv (ci := 8) (t := 102) (na := 2) (ml := 3) (idx := 111) (pc' := 27) (st' := []) (en := [some (.ref a0), some (.int x2), none]) (av := [.int x2]) (vo := fun v => some (.int v.1)) (mo := fun v => v.2) (s2 := fun v => .int v.1 :: []) (by decide +kernel) (by decide +kernel) h0 ⟨rfl, rfl, rfl, rfl, rfl, rfl⟩ (fun _ => rfl) (t_102 hN (h0 := h0)) (fun r2 => ?_)
  refine i_bl (pc' := 31) [(.istore_n 3, 1), (.aload_n 0, 1), (.iconst 0, 1), (.aload_n 1, 1)] [some (.ref a0), some (.ref a1), some (.int x2), some (.int r2.1), none, none, none] [.ref a1, .int 0, .ref a0] (by decide +kernel) rfl ?_
  refine i_gr (idx := 115) (ci := 3) (k := 0) (t := 2) (p := 11174) (pc' := 34) (by decide +kernel) h1 ?_
  refine i_gr (idx := 118) (ci := 0) (k := 0) (t := 2) (p := 11113) (pc' := 37) (by decide +kernel) (o_3_0 hN h1) ?_
  refine i_gf (idx := 124) (ci := 1) (k := 1) (t := 0) (p := 11098) (pc' := 40) (by decide +kernel) (o_0_0 hN (o_3_0 hN h1)) ?_
  refine i_bl (pc' := 42) [(.iconst 1, 1), (.isub, 1)] [some (.ref a0), some (.ref a1), some (.int x2), some (.int r2.1), none, none, none] [.int ((r2.2 (sh_r (sh_r a1 0) 0) 1) - 1), .int 0, .ref a0] (by decide +kernel) rfl ?_
  refine i_cv (ci := 8) (t := 107) (na := 3) (ml := 4) (idx := 52) (pc' := 45) (st' := []) (en := [some (.ref a0), some (.int 0), some (.int ((r2.2 (sh_r (sh_r a1 0) 0) 1) - 1)), none]) (av := [.int 0, .int ((r2.2 (sh_r (sh_r a1 0) 0) 1) - 1)]) (vo := fun v => some (.int v.1)) (mo := fun v => v.2) (s2 := fun v => .int v.1 :: []) (by decide +kernel) (by decide +kernel) h0 ⟨rfl, rfl, rfl, rfl, rfl, rfl⟩ (fun _ => rfl) (t_107 hN (h0 := h0)) (fun r3 => ?_)
  refine i_bl (pc' := 50) [(.istore 4, 2), (.aload_n 0, 1), (.iconst 0, 1), (.aload_n 1, 1)] [some (.ref a0), some (.ref a1), some (.int x2), some (.int r2.1), some (.int r3.1), none, none] [.ref a1, .int 0, .ref a0] (by decide +kernel) rfl ?_
  refine i_gr (idx := 115) (ci := 3) (k := 0) (t := 2) (p := 11174) (pc' := 53) (by decide +kernel) h1 ?_
  refine i_gr (idx := 118) (ci := 0) (k := 0) (t := 2) (p := 11113) (pc' := 56) (by decide +kernel) (o_3_0 hN h1) ?_
  refine i_gf (idx := 129) (ci := 1) (k := 2) (t := 0) (p := 11101) (pc' := 59) (by decide +kernel) (o_0_0 hN (o_3_0 hN h1)) ?_
  refine i_bl (pc' := 61) [(.iconst 1, 1), (.isub, 1)] [some (.ref a0), some (.ref a1), some (.int x2), some (.int r2.1), some (.int r3.1), none, none] [.int ((r3.2 (sh_r (sh_r a1 0) 0) 2) - 1), .int 0, .ref a0] (by decide +kernel) rfl ?_
  refine i_cv (ci := 8) (t := 107) (na := 3) (ml := 4) (idx := 52) (pc' := 64) (st' := []) (en := [some (.ref a0), some (.int 0), some (.int ((r3.2 (sh_r (sh_r a1 0) 0) 2) - 1)), none]) (av := [.int 0, .int ((r3.2 (sh_r (sh_r a1 0) 0) 2) - 1)]) (vo := fun v => some (.int v.1)) (mo := fun v => v.2) (s2 := fun v => .int v.1 :: []) (by decide +kernel) (by decide +kernel) h0 ⟨rfl, rfl, rfl, rfl, rfl, rfl⟩ (fun _ => rfl) (t_107 hN (h0 := h0)) (fun r4 => ?_)
  refine i_bl (pc' := 70) [(.istore 5, 2), (.iload 4, 2), (.iload 5, 2)] [some (.ref a0), some (.ref a1), some (.int x2), some (.int r2.1), some (.int r3.1), some (.int r4.1), none] [.int r4.1, .int r3.1] (by decide +kernel) rfl ?_
  refine i_cs (t := 12) (na := 2) (ml := 2) (idx := 132) (pc' := 73) (st' := []) (en := [some (.int r3.1), some (.int r4.1)]) (av := [.int r3.1, .int r4.1]) (vo := fun v => some (.int v)) (mo := fun _ => r4.2) (s2 := fun v => .int v :: []) (by decide +kernel) ⟨rfl, rfl, rfl, rfl, rfl, rfl⟩ (fun _ => rfl) (t_12 hN ) (fun v5 => ?_)
  refine i_bl (pc' := 76) [(.istore 6, 2), (.aload_n 1, 1)] [some (.ref a0), some (.ref a1), some (.int x2), some (.int r2.1), some (.int r3.1), some (.int r4.1), some (.int v5)] [.ref a1] (by decide +kernel) rfl ?_
  refine i_gr (idx := 115) (ci := 3) (k := 0) (t := 2) (p := 11174) (pc' := 79) (by decide +kernel) h1 ?_
  refine i_gr (idx := 118) (ci := 0) (k := 0) (t := 2) (p := 11113) (pc' := 82) (by decide +kernel) (o_3_0 hN h1) ?_
  refine i_bl (pc' := 84) [(.iload 6, 2)] [some (.ref a0), some (.ref a1), some (.int x2), some (.int r2.1), some (.int r3.1), some (.int r4.1), some (.int v5)] [.int v5, .ref (sh_r (sh_r a1 0) 0)] (by decide +kernel) rfl ?_
  refine i_cv (ci := 1) (t := 17) (na := 2) (ml := 2) (idx := 135) (pc' := 87) (st' := []) (en := [some (.ref (sh_r (sh_r a1 0) 0)), some (.int v5)]) (av := [.int v5]) (vo := fun v => some (.int v)) (mo := fun _ => r4.2) (s2 := fun v => .int v :: []) (by decide +kernel) (by decide +kernel) (o_0_0 hN (o_3_0 hN h1)) ⟨rfl, rfl, rfl, rfl, rfl, rfl⟩ (fun _ => rfl) (t_17 hN (h0 := (o_0_0 hN (o_3_0 hN h1)))) (fun v6 => ?_)
  refine i_bl (pc' := 88) [(.iconst (-1), 1)] [some (.ref a0), some (.ref a1), some (.int x2), some (.int r2.1), some (.int r3.1), some (.int r4.1), some (.int v5)] [.int (-1), .int v6] (by decide +kernel) rfl ?_
  refine i_ic (c := .eq) (off := 12) (t := 100) (pc' := 91) (p := v6 = (-1)) (by decide +kernel) rfl ?_ ?_
  · exact t_100_100 hN (h0 := h0) (h1 := h1)
  · refine i_bl (pc' := 94) [(.aload_n 0, 1), (.iconst 3, 1), (.aload_n 0, 1)] [some (.ref a0), some (.ref a1), some (.int x2), some (.int r2.1), some (.int r3.1), some (.int r4.1), some (.int v5)] [.ref a0, .int 3, .ref a0] (by decide +kernel) rfl ?_
    refine i_gf (idx := 40) (ci := 8) (k := 9) (t := 0) (p := 11055) (pc' := 97) (by decide +kernel) h0 ?_
    refine i_cv (ci := 8) (t := 110) (na := 3) (ml := 3) (idx := 69) (pc' := 100) (st' := []) (en := [some (.ref a0), some (.int 3), some (.int (r4.2 a0 9))]) (av := [.int 3, .int (r4.2 a0 9)]) (vo := fun _ => none) (mo := fun m => m) (s2 := fun _ => []) (by decide +kernel) (by decide +kernel) h0 ⟨rfl, rfl, rfl, rfl, rfl, rfl⟩ (fun _ => rfl) (t_110 hN (h0 := h0)) (fun m9 => ?_)
    exact t_100_100 hN (h0 := h0) (h1 := h1)

noncomputable def d_100 (a0 : Nat) (a1 : Nat) (x2 : Int32) (m : Mm) : Option Mm := if (m a0 4) < 32 then (d_100_18 a0 a1 x2 m) else ((d_110 a0 4 (m a0 8) m).bind fun m10 => d_100_18 a0 a1 x2 m10)
theorem t_100 {L nx : Nat} (hN : okn nx) {b z : Nat} {m : Mm} {a0 : Nat} (h0 : ok nx a0 8) {a1 : Nat} (h1 : ok nx a1 3) {x2 : Int32}  : Im (d_100 a0 a1 x2 m) (wV L nx) (ev_dn b z 100 0 [some (.ref a0), some (.ref a1), some (.int x2), none, none, none, none] [] (nx, mem L nx m)) := by
  unfold d_100
  refine i_bl (pc' := 1) [(.aload_n 0, 1)] [some (.ref a0), some (.ref a1), some (.int x2), none, none, none, none] [.ref a0] (by decide +kernel) rfl ?_
  refine i_gf (idx := 25) (ci := 8) (k := 4) (t := 0) (p := 11049) (pc' := 4) (by decide +kernel) h0 ?_
  refine i_bl (pc' := 6) [(.bipush (32), 2)] [some (.ref a0), some (.ref a1), some (.int x2), none, none, none, none] [.int 32, .int (m a0 4)] (by decide +kernel) rfl ?_
  refine i_ic (c := .lt) (off := 12) (t := 18) (pc' := 9) (p := (m a0 4) < 32) (by decide +kernel) rfl ?_ ?_
  · exact t_100_18 hN (h0 := h0) (h1 := h1)
  · refine i_bl (pc' := 12) [(.aload_n 0, 1), (.iconst 4, 1), (.aload_n 0, 1)] [some (.ref a0), some (.ref a1), some (.int x2), none, none, none, none] [.ref a0, .int 4, .ref a0] (by decide +kernel) rfl ?_
    refine i_gf (idx := 37) (ci := 8) (k := 8) (t := 0) (p := 11054) (pc' := 15) (by decide +kernel) h0 ?_
    refine i_cv (ci := 8) (t := 110) (na := 3) (ml := 3) (idx := 69) (pc' := 18) (st' := []) (en := [some (.ref a0), some (.int 4), some (.int (m a0 8))]) (av := [.int 4, .int (m a0 8)]) (vo := fun _ => none) (mo := fun m => m) (s2 := fun _ => []) (by decide +kernel) (by decide +kernel) h0 ⟨rfl, rfl, rfl, rfl, rfl, rfl⟩ (fun _ => rfl) (t_110 hN (h0 := h0)) (fun m10 => ?_)
    exact t_100_18 hN (h0 := h0) (h1 := h1)

/-! 101 LanternChess$SetupText.readFog(LLanternChess$Game;)V -/
noncomputable def d_101_52 (a0 : Nat) (a1 : Nat) (x2 : Int32) (m : Mm) : Option Mm := (d_107 a0 1 999 m).bind fun r5 => (d_107 a0 1 9 r5.2).bind fun r6 => (d_41 (sh_r a1 2) x2 r5.1 r6.1 r6.2).bind fun r7 => some r7.2
theorem t_101_52 {L nx : Nat} (hN : okn nx) {b z : Nat} {m : Mm} {a0 : Nat} (h0 : ok nx a0 8) {a1 : Nat} (h1 : ok nx a1 3) {x2 : Int32}  : Im (d_101_52 a0 a1 x2 m) (wV L nx) (ev_dn b z 101 52 [some (.ref a0), some (.ref a1), some (.int x2), none, none] [] (nx, mem L nx m)) := by
  unfold d_101_52
  refine i_bl (pc' := 57) [(.aload_n 0, 1), (.iconst 1, 1), (.sipush (999), 3)] [some (.ref a0), some (.ref a1), some (.int x2), none, none] [.int 999, .int 1, .ref a0] (by decide +kernel) rfl ?_
  refine i_cv (ci := 8) (t := 107) (na := 3) (ml := 4) (idx := 52) (pc' := 60) (st' := []) (en := [some (.ref a0), some (.int 1), some (.int 999), none]) (av := [.int 1, .int 999]) (vo := fun v => some (.int v.1)) (mo := fun v => v.2) (s2 := fun v => .int v.1 :: []) (by decide +kernel) (by decide +kernel) h0 ⟨rfl, rfl, rfl, rfl, rfl, rfl⟩ (fun _ => rfl) (t_107 hN (h0 := h0)) (fun r5 => ?_)
  refine i_bl (pc' := 65) [(.istore_n 3, 1), (.aload_n 0, 1), (.iconst 1, 1), (.bipush (9), 2)] [some (.ref a0), some (.ref a1), some (.int x2), some (.int r5.1), none] [.int 9, .int 1, .ref a0] (by decide +kernel) rfl ?_
  refine i_cv (ci := 8) (t := 107) (na := 3) (ml := 4) (idx := 52) (pc' := 68) (st' := []) (en := [some (.ref a0), some (.int 1), some (.int 9), none]) (av := [.int 1, .int 9]) (vo := fun v => some (.int v.1)) (mo := fun v => v.2) (s2 := fun v => .int v.1 :: []) (by decide +kernel) (by decide +kernel) h0 ⟨rfl, rfl, rfl, rfl, rfl, rfl⟩ (fun _ => rfl) (t_107 hN (h0 := h0)) (fun r6 => ?_)
  refine i_bl (pc' := 71) [(.istore 4, 2), (.aload_n 1, 1)] [some (.ref a0), some (.ref a1), some (.int x2), some (.int r5.1), some (.int r6.1)] [.ref a1] (by decide +kernel) rfl ?_
  refine i_gr (idx := 141) (ci := 3) (k := 2) (t := 2) (p := 11179) (pc' := 74) (by decide +kernel) h1 ?_
  refine i_bl (pc' := 78) [(.iload_n 2, 1), (.iload_n 3, 1), (.iload 4, 2)] [some (.ref a0), some (.ref a1), some (.int x2), some (.int r5.1), some (.int r6.1)] [.int r6.1, .int r5.1, .int x2, .ref (sh_r a1 2)] (by decide +kernel) rfl ?_
  refine i_cv (ci := 2) (t := 41) (na := 4) (ml := 6) (idx := 155) (pc' := 81) (st' := []) (en := [some (.ref (sh_r a1 2)), some (.int x2), some (.int r5.1), some (.int r6.1), none, none]) (av := [.int x2, .int r5.1, .int r6.1]) (vo := fun v => some (.int v.1)) (mo := fun v => v.2) (s2 := fun v => .int v.1 :: []) (by decide +kernel) (by decide +kernel) (o_3_2 hN h1) ⟨rfl, rfl, rfl, rfl, rfl, rfl⟩ (fun _ => rfl) (t_41 hN (h0 := (o_3_2 hN h1))) (fun r7 => ?_)
  refine i_bl (pc' := 82) [(.pop, 1)] [some (.ref a0), some (.ref a1), some (.int x2), some (.int r5.1), some (.int r6.1)] [] (by decide +kernel) rfl ?_
  exact i_rv (by decide +kernel) rfl

noncomputable def d_101_19 (a0 : Nat) (a1 : Nat) (m : Mm) : Option Mm := (d_111 a0 m).bind fun m2 => (d_107 a0 0 9999 m2).bind fun r3 => (d_40 (sh_r a1 2) r3.1 r3.2).bind fun v4 => if v4 = true then ((d_110 a0 3 (r3.2 a0 9) r3.2).bind fun m8 => d_101_52 a0 a1 r3.1 m8) else (d_101_52 a0 a1 r3.1 r3.2)
theorem t_101_19 {L nx : Nat} (hN : okn nx) {b z : Nat} {m : Mm} {a0 : Nat} (h0 : ok nx a0 8) {a1 : Nat} (h1 : ok nx a1 3)   : Im (d_101_19 a0 a1 m) (wV L nx) (ev_dn b z 101 19 [some (.ref a0), some (.ref a1), none, none, none] [] (nx, mem L nx m)) := by
  unfold d_101_19
  refine i_bl (pc' := 20) [(.aload_n 0, 1)] [some (.ref a0), some (.ref a1), none, none, none] [.ref a0] (by decide +kernel) rfl ?_
  refine i_cv (ci := 8) (t := 111) (na := 1) (ml := 1) (idx := 43) (pc' := 23) (st' := []) (en := [some (.ref a0)]) (av := []) (vo := fun _ => none) (mo := fun m => m) (s2 := fun _ => []) (by decide +kernel) (by decide +kernel) h0 ⟨rfl, rfl, rfl, rfl, rfl, rfl⟩ (fun _ => rfl) (t_111 hN (h0 := h0)) (fun m2 => ?_)
  refine i_bl (pc' := 28) [(.aload_n 0, 1), (.iconst 0, 1), (.sipush (9999), 3)] [some (.ref a0), some (.ref a1), none, none, none] [.int 9999, .int 0, .ref a0] (by decide +kernel) rfl ?_
  refine i_cv (ci := 8) (t := 107) (na := 3) (ml := 4) (idx := 52) (pc' := 31) (st' := []) (en := [some (.ref a0), some (.int 0), some (.int 9999), none]) (av := [.int 0, .int 9999]) (vo := fun v => some (.int v.1)) (mo := fun v => v.2) (s2 := fun v => .int v.1 :: []) (by decide +kernel) (by decide +kernel) h0 ⟨rfl, rfl, rfl, rfl, rfl, rfl⟩ (fun _ => rfl) (t_107 hN (h0 := h0)) (fun r3 => ?_)
  refine i_bl (pc' := 33) [(.istore_n 2, 1), (.aload_n 1, 1)] [some (.ref a0), some (.ref a1), some (.int r3.1), none, none] [.ref a1] (by decide +kernel) rfl ?_
  refine i_gr (idx := 141) (ci := 3) (k := 2) (t := 2) (p := 11179) (pc' := 36) (by decide +kernel) h1 ?_
  refine i_bl (pc' := 37) [(.iload_n 2, 1)] [some (.ref a0), some (.ref a1), some (.int r3.1), none, none] [.int r3.1, .ref (sh_r a1 2)] (by decide +kernel) rfl ?_
  refine i_cv (ci := 2) (t := 40) (na := 2) (ml := 3) (idx := 151) (pc' := 40) (st' := []) (en := [some (.ref (sh_r a1 2)), some (.int r3.1), none]) (av := [.int r3.1]) (vo := fun v => some (.int (bi v))) (mo := fun _ => r3.2) (s2 := fun v => .int (bi v) :: []) (by decide +kernel) (by decide +kernel) (o_3_2 hN h1) ⟨rfl, rfl, rfl, rfl, rfl, rfl⟩ (fun _ => rfl) (t_40 hN (h0 := (o_3_2 hN h1))) (fun v4 => ?_)
  refine i_bz (off := 12) (t := 52) (pc' := 43) (by decide +kernel) ?_ ?_
  · refine i_bl (pc' := 46) [(.aload_n 0, 1), (.iconst 3, 1), (.aload_n 0, 1)] [some (.ref a0), some (.ref a1), some (.int r3.1), none, none] [.ref a0, .int 3, .ref a0] (by decide +kernel) rfl ?_
    refine i_gf (idx := 40) (ci := 8) (k := 9) (t := 0) (p := 11055) (pc' := 49) (by decide +kernel) h0 ?_
    refine i_cv (ci := 8) (t := 110) (na := 3) (ml := 3) (idx := 69) (pc' := 52) (st' := []) (en := [some (.ref a0), some (.int 3), some (.int (r3.2 a0 9))]) (av := [.int 3, .int (r3.2 a0 9)]) (vo := fun _ => none) (mo := fun m => m) (s2 := fun _ => []) (by decide +kernel) (by decide +kernel) h0 ⟨rfl, rfl, rfl, rfl, rfl, rfl⟩ (fun _ => rfl) (t_110 hN (h0 := h0)) (fun m8 => ?_)
    exact t_101_52 hN (h0 := h0) (h1 := h1)
  · exact t_101_52 hN (h0 := h0) (h1 := h1)

noncomputable def d_101 (a0 : Nat) (a1 : Nat) (m : Mm) : Option Mm := (d_39 (sh_r a1 2) m).bind fun v1 => if v1 = true then ((d_110 a0 4 (m a0 8) m).bind fun m9 => d_101_19 a0 a1 m9) else (d_101_19 a0 a1 m)
theorem t_101 {L nx : Nat} (hN : okn nx) {b z : Nat} {m : Mm} {a0 : Nat} (h0 : ok nx a0 8) {a1 : Nat} (h1 : ok nx a1 3)   : Im (d_101 a0 a1 m) (wV L nx) (ev_dn b z 101 0 [some (.ref a0), some (.ref a1), none, none, none] [] (nx, mem L nx m)) := by
  unfold d_101
  refine i_bl (pc' := 1) [(.aload_n 1, 1)] [some (.ref a0), some (.ref a1), none, none, none] [.ref a1] (by decide +kernel) rfl ?_
  refine i_gr (idx := 141) (ci := 3) (k := 2) (t := 2) (p := 11179) (pc' := 4) (by decide +kernel) h1 ?_
  refine i_cv (ci := 2) (t := 39) (na := 1) (ml := 1) (idx := 145) (pc' := 7) (st' := []) (en := [some (.ref (sh_r a1 2))]) (av := []) (vo := fun v => some (.int (bi v))) (mo := fun _ => m) (s2 := fun v => .int (bi v) :: []) (by decide +kernel) (by decide +kernel) (o_3_2 hN h1) ⟨rfl, rfl, rfl, rfl, rfl, rfl⟩ (fun _ => rfl) (t_39 hN (h0 := (o_3_2 hN h1))) (fun v1 => ?_)
  refine i_bz (off := 12) (t := 19) (pc' := 10) (by decide +kernel) ?_ ?_
  · refine i_bl (pc' := 13) [(.aload_n 0, 1), (.iconst 4, 1), (.aload_n 0, 1)] [some (.ref a0), some (.ref a1), none, none, none] [.ref a0, .int 4, .ref a0] (by decide +kernel) rfl ?_
    refine i_gf (idx := 37) (ci := 8) (k := 8) (t := 0) (p := 11054) (pc' := 16) (by decide +kernel) h0 ?_
    refine i_cv (ci := 8) (t := 110) (na := 3) (ml := 3) (idx := 69) (pc' := 19) (st' := []) (en := [some (.ref a0), some (.int 4), some (.int (m a0 8))]) (av := [.int 4, .int (m a0 8)]) (vo := fun _ => none) (mo := fun m => m) (s2 := fun _ => []) (by decide +kernel) (by decide +kernel) h0 ⟨rfl, rfl, rfl, rfl, rfl, rfl⟩ (fun _ => rfl) (t_110 hN (h0 := h0)) (fun m9 => ?_)
    exact t_101_19 hN (h0 := h0) (h1 := h1)
  · exact t_101_19 hN (h0 := h0) (h1 := h1)

/-! 99 LanternChess$SetupText.readStatement(LLanternChess$Game;)V -/
noncomputable def d_99 (a0 : Nat) (a1 : Nat) (m : Mm) : Option Mm := (d_109 a0 4 m).bind fun v1 => if v1 = true then ((d_104 a0 1 m).bind fun m21 => (d_107 a0 1 9999 m21).bind fun r22 => (d_53 a1 0 r22.1 r22.2).bind fun m23 => (d_107 a0 1 9999 m23).bind fun r24 => (d_53 a1 1 r24.1 r24.2).bind fun m25 => some m25) else ((d_109 a0 5 m).bind fun v2 => if v2 = true then ((d_104 a0 2 m).bind fun m18 => (d_107 a0 1 5 m18).bind fun r19 => wb (wr r19.2 a1 8 r19.1) fun m20 => some m20) else ((d_109 a0 6 m).bind fun v3 => if v3 = true then ((d_104 a0 4 m).bind fun m15 => (d_107 a0 0 9 m15).bind fun r16 => wb (wr r16.2 a1 9 r16.1) fun m17 => some m17) else ((d_109 a0 7 m).bind fun v4 => if v4 = true then ((d_104 a0 8 m).bind fun m12 => (d_107 a0 1 9 m12).bind fun r13 => wb (wr r13.2 a1 10 r13.1) fun m14 => some m14) else ((d_109 a0 8 m).bind fun v5 => if v5 = true then ((d_100 a0 a1 0 m).bind fun m11 => some m11) else ((d_109 a0 15 m).bind fun v6 => if v6 = true then ((d_100 a0 a1 1 m).bind fun m10 => some m10) else ((d_109 a0 16 m).bind fun v7 => if v7 = true then ((d_101 a0 a1 m).bind fun m9 => some m9) else ((d_110 a0 1 (m a0 8) m).bind fun m8 => some m8)))))))
theorem t_99 {L nx : Nat} (hN : okn nx) {b z : Nat} {m : Mm} {a0 : Nat} (h0 : ok nx a0 8) {a1 : Nat} (h1 : ok nx a1 3)   : Im (d_99 a0 a1 m) (wV L nx) (ev_dn b z 99 0 [some (.ref a0), some (.ref a1)] [] (nx, mem L nx m)) := by
  unfold d_99
  refine i_bl (pc' := 1) [(.aload_n 0, 1)] [some (.ref a0), some (.ref a1)] [.ref a0] (by decide +kernel) rfl ?_
  refine i_lt (idx := 72) (p := 13036) (w := 4) (tx := "clock") (pc' := 3) (by decide +kernel) ?_
  refine i_cv (ci := 8) (t := 109) (na := 2) (ml := 3) (idx := 74) (pc' := 6) (st' := []) (en := [some (.ref a0), some (.ref 4), none]) (av := [.ref 4]) (vo := fun v => some (.int (bi v))) (mo := fun _ => m) (s2 := fun v => .int (bi v) :: []) (by decide +kernel) (by decide +kernel) h0 ⟨rfl, rfl, rfl, rfl, rfl, rfl⟩ (fun _ => rfl) (t_109 hN (h0 := h0) (h1 := (o_lo hN (by decide +kernel)))) (fun v1 => ?_)
  refine i_bz (off := 37) (t := 43) (pc' := 9) (by decide +kernel) ?_ ?_
  · refine i_bl (pc' := 11) [(.aload_n 0, 1), (.iconst 1, 1)] [some (.ref a0), some (.ref a1)] [.int 1, .ref a0] (by decide +kernel) rfl ?_
    refine i_cv (ci := 8) (t := 104) (na := 2) (ml := 2) (idx := 78) (pc' := 14) (st' := []) (en := [some (.ref a0), some (.int 1)]) (av := [.int 1]) (vo := fun _ => none) (mo := fun m => m) (s2 := fun _ => []) (by decide +kernel) (by decide +kernel) h0 ⟨rfl, rfl, rfl, rfl, rfl, rfl⟩ (fun _ => rfl) (t_104 hN (h0 := h0)) (fun m21 => ?_)
    refine i_bl (pc' := 21) [(.aload_n 1, 1), (.iconst 0, 1), (.aload_n 0, 1), (.iconst 1, 1), (.sipush (9999), 3)] [some (.ref a0), some (.ref a1)] [.int 9999, .int 1, .ref a0, .int 0, .ref a1] (by decide +kernel) rfl ?_
    refine i_cv (ci := 8) (t := 107) (na := 3) (ml := 4) (idx := 52) (pc' := 24) (st' := [.int 0, .ref a1]) (en := [some (.ref a0), some (.int 1), some (.int 9999), none]) (av := [.int 1, .int 9999]) (vo := fun v => some (.int v.1)) (mo := fun v => v.2) (s2 := fun v => .int v.1 :: [.int 0, .ref a1]) (by decide +kernel) (by decide +kernel) h0 ⟨rfl, rfl, rfl, rfl, rfl, rfl⟩ (fun _ => rfl) (t_107 hN (h0 := h0)) (fun r22 => ?_)
    refine i_cv (ci := 3) (t := 53) (na := 3) (ml := 3) (idx := 82) (pc' := 27) (st' := []) (en := [some (.ref a1), some (.int 0), some (.int r22.1)]) (av := [.int 0, .int r22.1]) (vo := fun _ => none) (mo := fun m => m) (s2 := fun _ => []) (by decide +kernel) (by decide +kernel) h1 ⟨rfl, rfl, rfl, rfl, rfl, rfl⟩ (fun _ => rfl) (t_53 hN (h0 := h1)) (fun m23 => ?_)
    refine i_bl (pc' := 34) [(.aload_n 1, 1), (.iconst 1, 1), (.aload_n 0, 1), (.iconst 1, 1), (.sipush (9999), 3)] [some (.ref a0), some (.ref a1)] [.int 9999, .int 1, .ref a0, .int 1, .ref a1] (by decide +kernel) rfl ?_
    refine i_cv (ci := 8) (t := 107) (na := 3) (ml := 4) (idx := 52) (pc' := 37) (st' := [.int 1, .ref a1]) (en := [some (.ref a0), some (.int 1), some (.int 9999), none]) (av := [.int 1, .int 9999]) (vo := fun v => some (.int v.1)) (mo := fun v => v.2) (s2 := fun v => .int v.1 :: [.int 1, .ref a1]) (by decide +kernel) (by decide +kernel) h0 ⟨rfl, rfl, rfl, rfl, rfl, rfl⟩ (fun _ => rfl) (t_107 hN (h0 := h0)) (fun r24 => ?_)
    refine i_cv (ci := 3) (t := 53) (na := 3) (ml := 3) (idx := 82) (pc' := 40) (st' := []) (en := [some (.ref a1), some (.int 1), some (.int r24.1)]) (av := [.int 1, .int r24.1]) (vo := fun _ => none) (mo := fun m => m) (s2 := fun _ => []) (by decide +kernel) (by decide +kernel) h1 ⟨rfl, rfl, rfl, rfl, rfl, rfl⟩ (fun _ => rfl) (t_53 hN (h0 := h1)) (fun m25 => ?_)
    refine i_go (t := 189) (off := 149) (by decide +kernel) ?_
    exact i_rv (by decide +kernel) rfl
  · refine i_bl (pc' := 44) [(.aload_n 0, 1)] [some (.ref a0), some (.ref a1)] [.ref a0] (by decide +kernel) rfl ?_
    refine i_lt (idx := 85) (p := 13045) (w := 5) (tx := "pause") (pc' := 46) (by decide +kernel) ?_
    refine i_cv (ci := 8) (t := 109) (na := 2) (ml := 3) (idx := 74) (pc' := 49) (st' := []) (en := [some (.ref a0), some (.ref 5), none]) (av := [.ref 5]) (vo := fun v => some (.int (bi v))) (mo := fun _ => m) (s2 := fun v => .int (bi v) :: []) (by decide +kernel) (by decide +kernel) h0 ⟨rfl, rfl, rfl, rfl, rfl, rfl⟩ (fun _ => rfl) (t_109 hN (h0 := h0) (h1 := (o_lo hN (by decide +kernel)))) (fun v2 => ?_)
    refine i_bz (off := 21) (t := 70) (pc' := 52) (by decide +kernel) ?_ ?_
    · refine i_bl (pc' := 54) [(.aload_n 0, 1), (.iconst 2, 1)] [some (.ref a0), some (.ref a1)] [.int 2, .ref a0] (by decide +kernel) rfl ?_
      refine i_cv (ci := 8) (t := 104) (na := 2) (ml := 2) (idx := 78) (pc' := 57) (st' := []) (en := [some (.ref a0), some (.int 2)]) (av := [.int 2]) (vo := fun _ => none) (mo := fun m => m) (s2 := fun _ => []) (by decide +kernel) (by decide +kernel) h0 ⟨rfl, rfl, rfl, rfl, rfl, rfl⟩ (fun _ => rfl) (t_104 hN (h0 := h0)) (fun m18 => ?_)
      refine i_bl (pc' := 61) [(.aload_n 1, 1), (.aload_n 0, 1), (.iconst 1, 1), (.iconst 5, 1)] [some (.ref a0), some (.ref a1)] [.int 5, .int 1, .ref a0, .ref a1] (by decide +kernel) rfl ?_
      refine i_cv (ci := 8) (t := 107) (na := 3) (ml := 4) (idx := 52) (pc' := 64) (st' := [.ref a1]) (en := [some (.ref a0), some (.int 1), some (.int 5), none]) (av := [.int 1, .int 5]) (vo := fun v => some (.int v.1)) (mo := fun v => v.2) (s2 := fun v => .int v.1 :: [.ref a1]) (by decide +kernel) (by decide +kernel) h0 ⟨rfl, rfl, rfl, rfl, rfl, rfl⟩ (fun _ => rfl) (t_107 hN (h0 := h0)) (fun r19 => ?_)
      refine i_pf (x := r19.1) (idx := 87) (ci := 3) (k := 8) (p := 11192) (pc' := 67) (by decide +kernel) h1 (fun m20 => ?_)
      refine i_go (t := 189) (off := 122) (by decide +kernel) ?_
      exact i_rv (by decide +kernel) rfl
    · refine i_bl (pc' := 71) [(.aload_n 0, 1)] [some (.ref a0), some (.ref a1)] [.ref a0] (by decide +kernel) rfl ?_
      refine i_lt (idx := 89) (p := 13046) (w := 6) (tx := "wait") (pc' := 73) (by decide +kernel) ?_
      refine i_cv (ci := 8) (t := 109) (na := 2) (ml := 3) (idx := 74) (pc' := 76) (st' := []) (en := [some (.ref a0), some (.ref 6), none]) (av := [.ref 6]) (vo := fun v => some (.int (bi v))) (mo := fun _ => m) (s2 := fun v => .int (bi v) :: []) (by decide +kernel) (by decide +kernel) h0 ⟨rfl, rfl, rfl, rfl, rfl, rfl⟩ (fun _ => rfl) (t_109 hN (h0 := h0) (h1 := (o_lo hN (by decide +kernel)))) (fun v3 => ?_)
      refine i_bz (off := 22) (t := 98) (pc' := 79) (by decide +kernel) ?_ ?_
      · refine i_bl (pc' := 81) [(.aload_n 0, 1), (.iconst 4, 1)] [some (.ref a0), some (.ref a1)] [.int 4, .ref a0] (by decide +kernel) rfl ?_
        refine i_cv (ci := 8) (t := 104) (na := 2) (ml := 2) (idx := 78) (pc' := 84) (st' := []) (en := [some (.ref a0), some (.int 4)]) (av := [.int 4]) (vo := fun _ => none) (mo := fun m => m) (s2 := fun _ => []) (by decide +kernel) (by decide +kernel) h0 ⟨rfl, rfl, rfl, rfl, rfl, rfl⟩ (fun _ => rfl) (t_104 hN (h0 := h0)) (fun m15 => ?_)
        refine i_bl (pc' := 89) [(.aload_n 1, 1), (.aload_n 0, 1), (.iconst 0, 1), (.bipush (9), 2)] [some (.ref a0), some (.ref a1)] [.int 9, .int 0, .ref a0, .ref a1] (by decide +kernel) rfl ?_
        refine i_cv (ci := 8) (t := 107) (na := 3) (ml := 4) (idx := 52) (pc' := 92) (st' := [.ref a1]) (en := [some (.ref a0), some (.int 0), some (.int 9), none]) (av := [.int 0, .int 9]) (vo := fun v => some (.int v.1)) (mo := fun v => v.2) (s2 := fun v => .int v.1 :: [.ref a1]) (by decide +kernel) (by decide +kernel) h0 ⟨rfl, rfl, rfl, rfl, rfl, rfl⟩ (fun _ => rfl) (t_107 hN (h0 := h0)) (fun r16 => ?_)
        refine i_pf (x := r16.1) (idx := 91) (ci := 3) (k := 9) (p := 11195) (pc' := 95) (by decide +kernel) h1 (fun m17 => ?_)
        refine i_go (t := 189) (off := 94) (by decide +kernel) ?_
        exact i_rv (by decide +kernel) rfl
      · refine i_bl (pc' := 99) [(.aload_n 0, 1)] [some (.ref a0), some (.ref a1)] [.ref a0] (by decide +kernel) rfl ?_
        refine i_lt (idx := 94) (p := 13047) (w := 7) (tx := "tries") (pc' := 101) (by decide +kernel) ?_
        refine i_cv (ci := 8) (t := 109) (na := 2) (ml := 3) (idx := 74) (pc' := 104) (st' := []) (en := [some (.ref a0), some (.ref 7), none]) (av := [.ref 7]) (vo := fun v => some (.int (bi v))) (mo := fun _ => m) (s2 := fun v => .int (bi v) :: []) (by decide +kernel) (by decide +kernel) h0 ⟨rfl, rfl, rfl, rfl, rfl, rfl⟩ (fun _ => rfl) (t_109 hN (h0 := h0) (h1 := (o_lo hN (by decide +kernel)))) (fun v4 => ?_)
        refine i_bz (off := 23) (t := 127) (pc' := 107) (by decide +kernel) ?_ ?_
        · refine i_bl (pc' := 110) [(.aload_n 0, 1), (.bipush (8), 2)] [some (.ref a0), some (.ref a1)] [.int 8, .ref a0] (by decide +kernel) rfl ?_
          refine i_cv (ci := 8) (t := 104) (na := 2) (ml := 2) (idx := 78) (pc' := 113) (st' := []) (en := [some (.ref a0), some (.int 8)]) (av := [.int 8]) (vo := fun _ => none) (mo := fun m => m) (s2 := fun _ => []) (by decide +kernel) (by decide +kernel) h0 ⟨rfl, rfl, rfl, rfl, rfl, rfl⟩ (fun _ => rfl) (t_104 hN (h0 := h0)) (fun m12 => ?_)
          refine i_bl (pc' := 118) [(.aload_n 1, 1), (.aload_n 0, 1), (.iconst 1, 1), (.bipush (9), 2)] [some (.ref a0), some (.ref a1)] [.int 9, .int 1, .ref a0, .ref a1] (by decide +kernel) rfl ?_
          refine i_cv (ci := 8) (t := 107) (na := 3) (ml := 4) (idx := 52) (pc' := 121) (st' := [.ref a1]) (en := [some (.ref a0), some (.int 1), some (.int 9), none]) (av := [.int 1, .int 9]) (vo := fun v => some (.int v.1)) (mo := fun v => v.2) (s2 := fun v => .int v.1 :: [.ref a1]) (by decide +kernel) (by decide +kernel) h0 ⟨rfl, rfl, rfl, rfl, rfl, rfl⟩ (fun _ => rfl) (t_107 hN (h0 := h0)) (fun r13 => ?_)
          refine i_pf (x := r13.1) (idx := 96) (ci := 3) (k := 10) (p := 11198) (pc' := 124) (by decide +kernel) h1 (fun m14 => ?_)
          refine i_go (t := 189) (off := 65) (by decide +kernel) ?_
          exact i_rv (by decide +kernel) rfl
        · refine i_bl (pc' := 128) [(.aload_n 0, 1)] [some (.ref a0), some (.ref a1)] [.ref a0] (by decide +kernel) rfl ?_
          refine i_lt (idx := 98) (p := 13048) (w := 8) (tx := "white") (pc' := 130) (by decide +kernel) ?_
          refine i_cv (ci := 8) (t := 109) (na := 2) (ml := 3) (idx := 74) (pc' := 133) (st' := []) (en := [some (.ref a0), some (.ref 8), none]) (av := [.ref 8]) (vo := fun v => some (.int (bi v))) (mo := fun _ => m) (s2 := fun v => .int (bi v) :: []) (by decide +kernel) (by decide +kernel) h0 ⟨rfl, rfl, rfl, rfl, rfl, rfl⟩ (fun _ => rfl) (t_109 hN (h0 := h0) (h1 := (o_lo hN (by decide +kernel)))) (fun v5 => ?_)
          refine i_bz (off := 12) (t := 145) (pc' := 136) (by decide +kernel) ?_ ?_
          · refine i_bl (pc' := 139) [(.aload_n 0, 1), (.aload_n 1, 1), (.iconst 0, 1)] [some (.ref a0), some (.ref a1)] [.int 0, .ref a1, .ref a0] (by decide +kernel) rfl ?_
            refine i_cv (ci := 8) (t := 100) (na := 3) (ml := 7) (idx := 100) (pc' := 142) (st' := []) (en := [some (.ref a0), some (.ref a1), some (.int 0), none, none, none, none]) (av := [.ref a1, .int 0]) (vo := fun _ => none) (mo := fun m => m) (s2 := fun _ => []) (by decide +kernel) (by decide +kernel) h0 ⟨rfl, rfl, rfl, rfl, rfl, rfl⟩ (fun _ => rfl) (t_100 hN (h0 := h0) (h1 := h1)) (fun m11 => ?_)
            refine i_go (t := 189) (off := 47) (by decide +kernel) ?_
            exact i_rv (by decide +kernel) rfl
          · refine i_bl (pc' := 146) [(.aload_n 0, 1)] [some (.ref a0), some (.ref a1)] [.ref a0] (by decide +kernel) rfl ?_
            refine i_lt (idx := 104) (p := 13073) (w := 15) (tx := "black") (pc' := 148) (by decide +kernel) ?_
            refine i_cv (ci := 8) (t := 109) (na := 2) (ml := 3) (idx := 74) (pc' := 151) (st' := []) (en := [some (.ref a0), some (.ref 15), none]) (av := [.ref 15]) (vo := fun v => some (.int (bi v))) (mo := fun _ => m) (s2 := fun v => .int (bi v) :: []) (by decide +kernel) (by decide +kernel) h0 ⟨rfl, rfl, rfl, rfl, rfl, rfl⟩ (fun _ => rfl) (t_109 hN (h0 := h0) (h1 := (o_lo hN (by decide +kernel)))) (fun v6 => ?_)
            refine i_bz (off := 12) (t := 163) (pc' := 154) (by decide +kernel) ?_ ?_
            · refine i_bl (pc' := 157) [(.aload_n 0, 1), (.aload_n 1, 1), (.iconst 1, 1)] [some (.ref a0), some (.ref a1)] [.int 1, .ref a1, .ref a0] (by decide +kernel) rfl ?_
              refine i_cv (ci := 8) (t := 100) (na := 3) (ml := 7) (idx := 100) (pc' := 160) (st' := []) (en := [some (.ref a0), some (.ref a1), some (.int 1), none, none, none, none]) (av := [.ref a1, .int 1]) (vo := fun _ => none) (mo := fun m => m) (s2 := fun _ => []) (by decide +kernel) (by decide +kernel) h0 ⟨rfl, rfl, rfl, rfl, rfl, rfl⟩ (fun _ => rfl) (t_100 hN (h0 := h0) (h1 := h1)) (fun m10 => ?_)
              refine i_go (t := 189) (off := 29) (by decide +kernel) ?_
              exact i_rv (by decide +kernel) rfl
            · refine i_bl (pc' := 164) [(.aload_n 0, 1)] [some (.ref a0), some (.ref a1)] [.ref a0] (by decide +kernel) rfl ?_
              refine i_lt (idx := 106) (p := 13074) (w := 16) (tx := "fog") (pc' := 166) (by decide +kernel) ?_
              refine i_cv (ci := 8) (t := 109) (na := 2) (ml := 3) (idx := 74) (pc' := 169) (st' := []) (en := [some (.ref a0), some (.ref 16), none]) (av := [.ref 16]) (vo := fun v => some (.int (bi v))) (mo := fun _ => m) (s2 := fun v => .int (bi v) :: []) (by decide +kernel) (by decide +kernel) h0 ⟨rfl, rfl, rfl, rfl, rfl, rfl⟩ (fun _ => rfl) (t_109 hN (h0 := h0) (h1 := (o_lo hN (by decide +kernel)))) (fun v7 => ?_)
              refine i_bz (off := 11) (t := 180) (pc' := 172) (by decide +kernel) ?_ ?_
              · refine i_bl (pc' := 174) [(.aload_n 0, 1), (.aload_n 1, 1)] [some (.ref a0), some (.ref a1)] [.ref a1, .ref a0] (by decide +kernel) rfl ?_
                refine i_cv (ci := 8) (t := 101) (na := 2) (ml := 5) (idx := 108) (pc' := 177) (st' := []) (en := [some (.ref a0), some (.ref a1), none, none, none]) (av := [.ref a1]) (vo := fun _ => none) (mo := fun m => m) (s2 := fun _ => []) (by decide +kernel) (by decide +kernel) h0 ⟨rfl, rfl, rfl, rfl, rfl, rfl⟩ (fun _ => rfl) (t_101 hN (h0 := h0) (h1 := h1)) (fun m9 => ?_)
                refine i_go (t := 189) (off := 12) (by decide +kernel) ?_
                exact i_rv (by decide +kernel) rfl
              · refine i_bl (pc' := 183) [(.aload_n 0, 1), (.iconst 1, 1), (.aload_n 0, 1)] [some (.ref a0), some (.ref a1)] [.ref a0, .int 1, .ref a0] (by decide +kernel) rfl ?_
                refine i_gf (idx := 37) (ci := 8) (k := 8) (t := 0) (p := 11054) (pc' := 186) (by decide +kernel) h0 ?_
                refine i_cv (ci := 8) (t := 110) (na := 3) (ml := 3) (idx := 69) (pc' := 189) (st' := []) (en := [some (.ref a0), some (.int 1), some (.int (m a0 8))]) (av := [.int 1, .int (m a0 8)]) (vo := fun _ => none) (mo := fun m => m) (s2 := fun _ => []) (by decide +kernel) (by decide +kernel) h0 ⟨rfl, rfl, rfl, rfl, rfl, rfl⟩ (fun _ => rfl) (t_110 hN (h0 := h0)) (fun m8 => ?_)
                exact i_rv (by decide +kernel) rfl

/-! 98 LanternChess$SetupText.read(LLanternChess$Game;)V -/
noncomputable def E_98_64 (L nx b z : Nat) (a0 : Nat) (a1 : Nat) (d : Option Value × Option Value) (s : (Int32 × Mm)) : ev_Q := ev_dn b z 98 64 [some (.ref a0), some (.ref a1), d.1, d.2, some (.int s.1)] [] (nx, mem L nx s.2)
noncomputable def d_98_101 (a0 : Nat) (m : Mm) : Option Mm := if ((m a0 5) &&& (48 : Int32)) = 48 then (some m) else ((d_110 a0 5 (m a0 1) m).bind fun m12 => some m12)
theorem t_98_101 {L nx : Nat} (hN : okn nx) {b z : Nat} {m : Mm} {a0 : Nat} (h0 : ok nx a0 8)  {o1 : Option Value} {o2 : Option Value} {o3 : Option Value} {o4 : Option Value} : Im (d_98_101 a0 m) (wV L nx) (ev_dn b z 98 101 [some (.ref a0), o1, o2, o3, o4] [] (nx, mem L nx m)) := by
  unfold d_98_101
  refine i_bl (pc' := 106) [(.bipush (48), 2), (.istore 4, 2), (.aload_n 0, 1)] [some (.ref a0), o1, o2, (ev_kl o3), some (.int 48)] [.ref a0] (by decide +kernel) rfl ?_
  refine i_gf (idx := 28) (ci := 8) (k := 5) (t := 0) (p := 11051) (pc' := 109) (by decide +kernel) h0 ?_
  refine i_bl (pc' := 114) [(.iload 4, 2), (.iand, 1), (.iload 4, 2)] [some (.ref a0), o1, o2, (ev_kl o3), some (.int 48)] [.int 48, .int ((m a0 5) &&& (48 : Int32))] (by decide +kernel) rfl ?_
  refine i_ic (c := .eq) (off := 12) (t := 126) (pc' := 117) (p := ((m a0 5) &&& (48 : Int32)) = 48) (by decide +kernel) rfl ?_ ?_
  · exact i_rv (by decide +kernel) rfl
  · refine i_bl (pc' := 120) [(.aload_n 0, 1), (.iconst 5, 1), (.aload_n 0, 1)] [some (.ref a0), o1, o2, (ev_kl o3), some (.int 48)] [.ref a0, .int 5, .ref a0] (by decide +kernel) rfl ?_
    refine i_gf (idx := 15) (ci := 8) (k := 1) (t := 0) (p := 11043) (pc' := 123) (by decide +kernel) h0 ?_
    refine i_cv (ci := 8) (t := 110) (na := 3) (ml := 3) (idx := 69) (pc' := 126) (st' := []) (en := [some (.ref a0), some (.int 5), some (.int (m a0 1))]) (av := [.int 5, .int (m a0 1)]) (vo := fun _ => none) (mo := fun m => m) (s2 := fun _ => []) (by decide +kernel) (by decide +kernel) h0 ⟨rfl, rfl, rfl, rfl, rfl, rfl⟩ (fun _ => rfl) (t_110 hN (h0 := h0)) (fun m12 => ?_)
    exact i_rv (by decide +kernel) rfl

noncomputable def s_98_64 (a0 : Nat) (a1 : Nat) (x4 : Int32) (m : Mm) : Option ((Int32 × Mm) ⊕ Mm) := if 600 ≤ x4 then ((d_98_101 a0 m).map Sum.inr) else (if ¬ (m a0 2) = 0 then ((d_98_101 a0 m).map Sum.inr) else (if (m a0 7) = 0 then ((d_98_101 a0 m).map Sum.inr) else ((d_99 a0 a1 m).bind fun m13 => (d_106 a0 m13).bind fun m14 => wb (x4 + 1) fun y15 => some (.inl (y15, m14)))))
noncomputable def d_98_64 (a0 : Nat) (a1 : Nat) (x4 : Int32) (m : Mm) : Option Mm := it (fun s => s_98_64 a0 a1 s.1 s.2) (x4, m)
theorem e_98_64 (a0 : Nat) (a1 : Nat) (x4 : Int32) (m : Mm) : d_98_64 a0 a1 x4 m = oi (s_98_64 a0 a1 x4 m) (fun s => d_98_64 a0 a1 s.1 s.2) := it_eq _
theorem u_98_64 {L nx : Nat} (hN : okn nx) {b z : Nat} {m : Mm} {a0 : Nat} (h0 : ok nx a0 8) {a1 : Nat} (h1 : ok nx a1 3) {x4 : Int32} {o2 : Option Value} {o3 : Option Value} : Im (s_98_64 a0 a1 x4 m) (kL (wV L nx) (E_98_64 L nx b z a0 a1)) (ev_dn b z 98 64 [some (.ref a0), some (.ref a1), o2, o3, some (.int x4)] [] (nx, mem L nx m)) := by
  unfold s_98_64
  refine i_bl (pc' := 69) [(.iload 4, 2), (.sipush (600), 3)] [some (.ref a0), some (.ref a1), o2, o3, some (.int x4)] [.int 600, .int x4] (by decide +kernel) rfl ?_
  refine i_ic (c := .ge) (off := 32) (t := 101) (pc' := 72) (p := 600 ≤ x4) (by decide +kernel) rfl ?_ ?_
  · exact i_mr (t_98_101 hN (h0 := h0))
  · refine i_bl (pc' := 73) [(.aload_n 0, 1)] [some (.ref a0), some (.ref a1), o2, o3, some (.int x4)] [.ref a0] (by decide +kernel) rfl ?_
    refine i_gf (idx := 19) (ci := 8) (k := 2) (t := 0) (p := 11045) (pc' := 76) (by decide +kernel) h0 ?_
    refine i_if (c := .ne) (off := 25) (t := 101) (pc' := 79) (p := ¬ (m a0 2) = 0) (by decide +kernel) rfl ?_ ?_
    · exact i_mr (t_98_101 hN (h0 := h0))
    · refine i_bl (pc' := 80) [(.aload_n 0, 1)] [some (.ref a0), some (.ref a1), o2, o3, some (.int x4)] [.ref a0] (by decide +kernel) rfl ?_
      refine i_gf (idx := 34) (ci := 8) (k := 7) (t := 0) (p := 11053) (pc' := 83) (by decide +kernel) h0 ?_
      refine i_if (c := .eq) (off := 18) (t := 101) (pc' := 86) (p := (m a0 7) = 0) (by decide +kernel) rfl ?_ ?_
      · exact i_mr (t_98_101 hN (h0 := h0))
      · refine i_bl (pc' := 88) [(.aload_n 0, 1), (.aload_n 1, 1)] [some (.ref a0), some (.ref a1), o2, o3, some (.int x4)] [.ref a1, .ref a0] (by decide +kernel) rfl ?_
        refine i_cv (ci := 8) (t := 99) (na := 2) (ml := 2) (idx := 65) (pc' := 91) (st' := []) (en := [some (.ref a0), some (.ref a1)]) (av := [.ref a1]) (vo := fun _ => none) (mo := fun m => m) (s2 := fun _ => []) (by decide +kernel) (by decide +kernel) h0 ⟨rfl, rfl, rfl, rfl, rfl, rfl⟩ (fun _ => rfl) (t_99 hN (h0 := h0) (h1 := h1)) (fun m13 => ?_)
        refine i_bl (pc' := 92) [(.aload_n 0, 1)] [some (.ref a0), some (.ref a1), o2, o3, some (.int x4)] [.ref a0] (by decide +kernel) rfl ?_
        refine i_cv (ci := 8) (t := 106) (na := 1) (ml := 1) (idx := 56) (pc' := 95) (st' := []) (en := [some (.ref a0)]) (av := []) (vo := fun _ => none) (mo := fun m => m) (s2 := fun _ => []) (by decide +kernel) (by decide +kernel) h0 ⟨rfl, rfl, rfl, rfl, rfl, rfl⟩ (fun _ => rfl) (t_106 hN (h0 := h0)) (fun m14 => ?_)
        refine i_bl (pc' := 98) [(.iinc 4 (1), 3)] [some (.ref a0), some (.ref a1), o2, (ev_kl o3), some (.int (x4 + 1))] [] (by decide +kernel) rfl ?_
        refine i_wb (fun y15 => ev_dn b z 98 98 [some (.ref a0), some (.ref a1), o2, (ev_kl o3), some (.int y15)] [] (nx, mem L nx m14)) (fun y15 => ?_)
        refine i_go (t := 64) (off := -34) (by decide +kernel) ?_
        exact i_co (o2, (ev_kl o3)) rfl

theorem t_98_64 {L nx : Nat} (hN : okn nx) {b z : Nat} {m : Mm} {a0 : Nat} (h0 : ok nx a0 8) {a1 : Nat} (h1 : ok nx a1 3) {x4 : Int32} {o2 : Option Value} {o3 : Option Value} : Im (d_98_64 a0 a1 x4 m) (wV L nx) (ev_dn b z 98 64 [some (.ref a0), some (.ref a1), o2, o3, some (.int x4)] [] (nx, mem L nx m)) := by
  exact i_it (f := fun s => s_98_64 a0 a1 s.1 s.2) (E := E_98_64 L nx b z a0 a1) (K := (wV L nx)) (fun d s => u_98_64 hN (h0 := h0) (h1 := h1)) (o2, o3) (x4, m)
noncomputable def d_98 (a0 : Nat) (a1 : Nat) (m : Mm) : Option Mm := wb (wr m a0 2 0) fun m1 => wb (wr m1 a0 3 (-1)) fun m2 => wb (wr m2 a0 4 0) fun m3 => wb (wr m3 a0 5 0) fun m4 => wb (wr m4 a0 6 0) fun m5 => (d_111 a0 m5).bind fun m6 => (d_105 a0 3 m6).bind fun m7 => (d_107 a0 4 8 m7).bind fun r8 => (d_107 a0 4 8 r8.2).bind fun r9 => (d_106 a0 r9.2).bind fun m10 => (d_48 a1 r8.1 r9.1 m10).bind fun m11 => d_98_64 a0 a1 0 m11
theorem t_98 {L nx : Nat} (hN : okn nx) {b z : Nat} {m : Mm} {a0 : Nat} (h0 : ok nx a0 8) {a1 : Nat} (h1 : ok nx a1 3)   : Im (d_98 a0 a1 m) (wV L nx) (ev_dn b z 98 0 [some (.ref a0), some (.ref a1), none, none, none] [] (nx, mem L nx m)) := by
  unfold d_98
  refine i_bl (pc' := 2) [(.aload_n 0, 1), (.iconst 0, 1)] [some (.ref a0), some (.ref a1), none, none, none] [.int 0, .ref a0] (by decide +kernel) rfl ?_
  refine i_pf (x := 0) (idx := 19) (ci := 8) (k := 2) (p := 11045) (pc' := 5) (by decide +kernel) h0 (fun m1 => ?_)
  refine i_bl (pc' := 7) [(.aload_n 0, 1), (.iconst (-1), 1)] [some (.ref a0), some (.ref a1), none, none, none] [.int (-1), .ref a0] (by decide +kernel) rfl ?_
  refine i_pf (x := (-1)) (idx := 22) (ci := 8) (k := 3) (p := 11047) (pc' := 10) (by decide +kernel) h0 (fun m2 => ?_)
  refine i_bl (pc' := 12) [(.aload_n 0, 1), (.iconst 0, 1)] [some (.ref a0), some (.ref a1), none, none, none] [.int 0, .ref a0] (by decide +kernel) rfl ?_
  refine i_pf (x := 0) (idx := 25) (ci := 8) (k := 4) (p := 11049) (pc' := 15) (by decide +kernel) h0 (fun m3 => ?_)
  refine i_bl (pc' := 17) [(.aload_n 0, 1), (.iconst 0, 1)] [some (.ref a0), some (.ref a1), none, none, none] [.int 0, .ref a0] (by decide +kernel) rfl ?_
  refine i_pf (x := 0) (idx := 28) (ci := 8) (k := 5) (p := 11051) (pc' := 20) (by decide +kernel) h0 (fun m4 => ?_)
  refine i_bl (pc' := 22) [(.aload_n 0, 1), (.iconst 0, 1)] [some (.ref a0), some (.ref a1), none, none, none] [.int 0, .ref a0] (by decide +kernel) rfl ?_
  refine i_pf (x := 0) (idx := 31) (ci := 8) (k := 6) (p := 11052) (pc' := 25) (by decide +kernel) h0 (fun m5 => ?_)
  refine i_bl (pc' := 26) [(.aload_n 0, 1)] [some (.ref a0), some (.ref a1), none, none, none] [.ref a0] (by decide +kernel) rfl ?_
  refine i_cv (ci := 8) (t := 111) (na := 1) (ml := 1) (idx := 43) (pc' := 29) (st' := []) (en := [some (.ref a0)]) (av := []) (vo := fun _ => none) (mo := fun m => m) (s2 := fun _ => []) (by decide +kernel) (by decide +kernel) h0 ⟨rfl, rfl, rfl, rfl, rfl, rfl⟩ (fun _ => rfl) (t_111 hN (h0 := h0)) (fun m6 => ?_)
  refine i_bl (pc' := 30) [(.aload_n 0, 1)] [some (.ref a0), some (.ref a1), none, none, none] [.ref a0] (by decide +kernel) rfl ?_
  refine i_lt (idx := 46) (p := 12198) (w := 3) (tx := "game") (pc' := 32) (by decide +kernel) ?_
  refine i_cv (ci := 8) (t := 105) (na := 2) (ml := 2) (idx := 48) (pc' := 35) (st' := []) (en := [some (.ref a0), some (.ref 3)]) (av := [.ref 3]) (vo := fun _ => none) (mo := fun m => m) (s2 := fun _ => []) (by decide +kernel) (by decide +kernel) h0 ⟨rfl, rfl, rfl, rfl, rfl, rfl⟩ (fun _ => rfl) (t_105 hN (h0 := h0) (h1 := (o_lo hN (by decide +kernel)))) (fun m7 => ?_)
  refine i_bl (pc' := 39) [(.aload_n 0, 1), (.iconst 4, 1), (.bipush (8), 2)] [some (.ref a0), some (.ref a1), none, none, none] [.int 8, .int 4, .ref a0] (by decide +kernel) rfl ?_
  refine i_cv (ci := 8) (t := 107) (na := 3) (ml := 4) (idx := 52) (pc' := 42) (st' := []) (en := [some (.ref a0), some (.int 4), some (.int 8), none]) (av := [.int 4, .int 8]) (vo := fun v => some (.int v.1)) (mo := fun v => v.2) (s2 := fun v => .int v.1 :: []) (by decide +kernel) (by decide +kernel) h0 ⟨rfl, rfl, rfl, rfl, rfl, rfl⟩ (fun _ => rfl) (t_107 hN (h0 := h0)) (fun r8 => ?_)
  refine i_bl (pc' := 47) [(.istore_n 2, 1), (.aload_n 0, 1), (.iconst 4, 1), (.bipush (8), 2)] [some (.ref a0), some (.ref a1), some (.int r8.1), none, none] [.int 8, .int 4, .ref a0] (by decide +kernel) rfl ?_
  refine i_cv (ci := 8) (t := 107) (na := 3) (ml := 4) (idx := 52) (pc' := 50) (st' := []) (en := [some (.ref a0), some (.int 4), some (.int 8), none]) (av := [.int 4, .int 8]) (vo := fun v => some (.int v.1)) (mo := fun v => v.2) (s2 := fun v => .int v.1 :: []) (by decide +kernel) (by decide +kernel) h0 ⟨rfl, rfl, rfl, rfl, rfl, rfl⟩ (fun _ => rfl) (t_107 hN (h0 := h0)) (fun r9 => ?_)
  refine i_bl (pc' := 52) [(.istore_n 3, 1), (.aload_n 0, 1)] [some (.ref a0), some (.ref a1), some (.int r8.1), some (.int r9.1), none] [.ref a0] (by decide +kernel) rfl ?_
  refine i_cv (ci := 8) (t := 106) (na := 1) (ml := 1) (idx := 56) (pc' := 55) (st' := []) (en := [some (.ref a0)]) (av := []) (vo := fun _ => none) (mo := fun m => m) (s2 := fun _ => []) (by decide +kernel) (by decide +kernel) h0 ⟨rfl, rfl, rfl, rfl, rfl, rfl⟩ (fun _ => rfl) (t_106 hN (h0 := h0)) (fun m10 => ?_)
  refine i_bl (pc' := 58) [(.aload_n 1, 1), (.iload_n 2, 1), (.iload_n 3, 1)] [some (.ref a0), some (.ref a1), some (.int r8.1), some (.int r9.1), none] [.int r9.1, .int r8.1, .ref a1] (by decide +kernel) rfl ?_
  refine i_cv (ci := 3) (t := 48) (na := 3) (ml := 3) (idx := 59) (pc' := 61) (st' := []) (en := [some (.ref a1), some (.int r8.1), some (.int r9.1)]) (av := [.int r8.1, .int r9.1]) (vo := fun _ => none) (mo := fun m => m) (s2 := fun _ => []) (by decide +kernel) (by decide +kernel) h1 ⟨rfl, rfl, rfl, rfl, rfl, rfl⟩ (fun _ => rfl) (t_48 hN (h0 := h1)) (fun m11 => ?_)
  refine i_bl (pc' := 64) [(.iconst 0, 1), (.istore 4, 2)] [some (.ref a0), some (.ref a1), some (.int r8.1), some (.int r9.1), some (.int 0)] [] (by decide +kernel) rfl ?_
  exact t_98_64 hN (h0 := h0) (h1 := h1)

/-! 117 LanternChess$Walk.enter(II)V -/
noncomputable def d_117 (a0 : Nat) (x1 : Int32) (x2 : Int32) (m : Mm) : Option Mm := if x1 < 0 then (some m) else (if 64 ≤ x1 then (some m) else (if ev_in x1 (sh_n (sh_r a0 1)) = true then (if (m (sh_r a0 1) (ix x1)) = (-1) then (if ev_in x1 (sh_n (sh_r a0 1)) = true then (wb (wr m (sh_r a0 1) (ix x1) x2) fun m1 => (d_17 (sh_r a0 0) x1 m1).bind fun v2 => if ¬ v2 = (-1) then (some m1) else (if 64 ≤ (m1 a0 3) then (some m1) else (if ev_in (m1 a0 3) (sh_n (sh_r a0 2)) = true then (wb (wr m1 (sh_r a0 2) (ix (m1 a0 3)) x1) fun m3 => wb (wr m3 a0 3 ((m3 a0 3) + 1)) fun m4 => some m4) else none))) else none) else (some m)) else none))
theorem t_117 {L nx : Nat} (hN : okn nx) {b z : Nat} {m : Mm} {a0 : Nat} (h0 : ok nx a0 9) {x1 : Int32} {x2 : Int32}  : Im (d_117 a0 x1 x2 m) (wV L nx) (ev_dn b z 117 0 [some (.ref a0), some (.int x1), some (.int x2)] [] (nx, mem L nx m)) := by
  unfold d_117
  refine i_bl (pc' := 1) [(.iload_n 1, 1)] [some (.ref a0), some (.int x1), some (.int x2)] [.int x1] (by decide +kernel) rfl ?_
  refine i_if (c := .lt) (off := 19) (t := 20) (pc' := 4) (p := x1 < 0) (by decide +kernel) rfl ?_ ?_
  · exact i_rv (by decide +kernel) rfl
  · refine i_bl (pc' := 7) [(.iload_n 1, 1), (.bipush (64), 2)] [some (.ref a0), some (.int x1), some (.int x2)] [.int 64, .int x1] (by decide +kernel) rfl ?_
    refine i_ic (c := .ge) (off := 13) (t := 20) (pc' := 10) (p := 64 ≤ x1) (by decide +kernel) rfl ?_ ?_
    · exact i_rv (by decide +kernel) rfl
    · refine i_bl (pc' := 11) [(.aload_n 0, 1)] [some (.ref a0), some (.int x1), some (.int x2)] [.ref a0] (by decide +kernel) rfl ?_
      refine i_gr (idx := 18) (ci := 9) (k := 1) (t := 2) (p := 12084) (pc' := 14) (by decide +kernel) h0 ?_
      refine i_bl (pc' := 15) [(.iload_n 1, 1)] [some (.ref a0), some (.int x1), some (.int x2)] [.int x1, .ref (sh_r a0 1)] (by decide +kernel) rfl ?_
      refine i_al (pc' := 16) (by decide +kernel) (o_9_1 hN h0) ?_
      refine i_bl (pc' := 17) [(.iconst (-1), 1)] [some (.ref a0), some (.int x1), some (.int x2)] [.int (-1), .int (m (sh_r a0 1) (ix x1))] (by decide +kernel) rfl ?_
      refine i_ic (c := .eq) (off := 4) (t := 21) (pc' := 20) (p := (m (sh_r a0 1) (ix x1)) = (-1)) (by decide +kernel) rfl ?_ ?_
      · refine i_bl (pc' := 22) [(.aload_n 0, 1)] [some (.ref a0), some (.int x1), some (.int x2)] [.ref a0] (by decide +kernel) rfl ?_
        refine i_gr (idx := 18) (ci := 9) (k := 1) (t := 2) (p := 12084) (pc' := 25) (by decide +kernel) h0 ?_
        refine i_bl (pc' := 27) [(.iload_n 1, 1), (.iload_n 2, 1)] [some (.ref a0), some (.int x1), some (.int x2)] [.int x2, .int x1, .ref (sh_r a0 1)] (by decide +kernel) rfl ?_
        refine i_as (y := x2) (pc' := 28) (by decide +kernel) (o_9_1 hN h0) (fun m1 => ?_)
        refine i_bl (pc' := 29) [(.aload_n 0, 1)] [some (.ref a0), some (.int x1), some (.int x2)] [.ref a0] (by decide +kernel) rfl ?_
        refine i_gr (idx := 12) (ci := 9) (k := 0) (t := 2) (p := 12083) (pc' := 32) (by decide +kernel) h0 ?_
        refine i_bl (pc' := 33) [(.iload_n 1, 1)] [some (.ref a0), some (.int x1), some (.int x2)] [.int x1, .ref (sh_r a0 0)] (by decide +kernel) rfl ?_
        refine i_cv (ci := 1) (t := 17) (na := 2) (ml := 2) (idx := 29) (pc' := 36) (st' := []) (en := [some (.ref (sh_r a0 0)), some (.int x1)]) (av := [.int x1]) (vo := fun v => some (.int v)) (mo := fun _ => m1) (s2 := fun v => .int v :: []) (by decide +kernel) (by decide +kernel) (o_9_0 hN h0) ⟨rfl, rfl, rfl, rfl, rfl, rfl⟩ (fun _ => rfl) (t_17 hN (h0 := (o_9_0 hN h0))) (fun v2 => ?_)
        refine i_bl (pc' := 37) [(.iconst (-1), 1)] [some (.ref a0), some (.int x1), some (.int x2)] [.int (-1), .int v2] (by decide +kernel) rfl ?_
        refine i_ic (c := .ne) (off := 32) (t := 69) (pc' := 40) (p := ¬ v2 = (-1)) (by decide +kernel) rfl ?_ ?_
        · exact i_rv (by decide +kernel) rfl
        · refine i_bl (pc' := 41) [(.aload_n 0, 1)] [some (.ref a0), some (.int x1), some (.int x2)] [.ref a0] (by decide +kernel) rfl ?_
          refine i_gf (idx := 25) (ci := 9) (k := 3) (t := 0) (p := 12086) (pc' := 44) (by decide +kernel) h0 ?_
          refine i_bl (pc' := 46) [(.bipush (64), 2)] [some (.ref a0), some (.int x1), some (.int x2)] [.int 64, .int (m1 a0 3)] (by decide +kernel) rfl ?_
          refine i_ic (c := .ge) (off := 23) (t := 69) (pc' := 49) (p := 64 ≤ (m1 a0 3)) (by decide +kernel) rfl ?_ ?_
          · exact i_rv (by decide +kernel) rfl
          · refine i_bl (pc' := 50) [(.aload_n 0, 1)] [some (.ref a0), some (.int x1), some (.int x2)] [.ref a0] (by decide +kernel) rfl ?_
            refine i_gr (idx := 22) (ci := 9) (k := 2) (t := 2) (p := 12085) (pc' := 53) (by decide +kernel) h0 ?_
            refine i_bl (pc' := 54) [(.aload_n 0, 1)] [some (.ref a0), some (.int x1), some (.int x2)] [.ref a0, .ref (sh_r a0 2)] (by decide +kernel) rfl ?_
            refine i_gf (idx := 25) (ci := 9) (k := 3) (t := 0) (p := 12086) (pc' := 57) (by decide +kernel) h0 ?_
            refine i_bl (pc' := 58) [(.iload_n 1, 1)] [some (.ref a0), some (.int x1), some (.int x2)] [.int x1, .int (m1 a0 3), .ref (sh_r a0 2)] (by decide +kernel) rfl ?_
            refine i_as (y := x1) (pc' := 59) (by decide +kernel) (o_9_2 hN h0) (fun m3 => ?_)
            refine i_bl (pc' := 61) [(.aload_n 0, 1), (.dup, 1)] [some (.ref a0), some (.int x1), some (.int x2)] [.ref a0, .ref a0] (by decide +kernel) rfl ?_
            refine i_gf (idx := 25) (ci := 9) (k := 3) (t := 0) (p := 12086) (pc' := 64) (by decide +kernel) h0 ?_
            refine i_bl (pc' := 66) [(.iconst 1, 1), (.iadd, 1)] [some (.ref a0), some (.int x1), some (.int x2)] [.int ((m3 a0 3) + 1), .ref a0] (by decide +kernel) rfl ?_
            refine i_pf (x := ((m3 a0 3) + 1)) (idx := 25) (ci := 9) (k := 3) (p := 12086) (pc' := 69) (by decide +kernel) h0 (fun m4 => ?_)
            exact i_rv (by decide +kernel) rfl
      · exact i_rv (by decide +kernel) rfl

/-! 118 LanternChess$Walk.goOnFrom(III)V -/
noncomputable def E_118_27 (L nx b z : Nat) (a0 : Nat) (x1 : Int32) (x2 : Int32) (x3 : Int32) (x4 : Bool) (d : Option Value × Option Value × Option Value) (s : (Int32 × Mm)) : ev_Q := ev_dn b z 118 27 [some (.ref a0), some (.int x1), some (.int x2), some (.int x3), some (.int (bi x4)), some (.int s.1), d.1, d.2.1, d.2.2] [] (nx, mem L nx s.2)
noncomputable def d_118_133 (a0 : Nat) (x1 : Int32) (x2 : Int32) (x3 : Int32) (x4 : Bool) (x5 : Int32) (s0 : Nat) (s1 : Int32) (s2 : Int32) (s3 : Int32) (s4 : Bool) (m : Mm) : Option ((Int32 × Mm) ⊕ Mm) := (d_22 s0 s1 s2 s3 s4 m).bind fun v8 => if v8 = true then (if ev_in x2 (sh_n (sh_r a0 1)) = true then ((d_117 a0 x5 ((m (sh_r a0 1) (ix x2)) + 1) m).bind fun m10 => wb (x5 + 1) fun y11 => some (.inl (y11, m10))) else none) else (wb (x5 + 1) fun y9 => some (.inl (y9, m)))
theorem t_118_133 {L nx : Nat} (hN : okn nx) {b z : Nat} {m : Mm} {a0 : Nat} (h0 : ok nx a0 9) {s0 : Nat} (hs0 : ok nx s0 1) {x1 : Int32} {x2 : Int32} {x3 : Int32} {x4 : Bool} {x5 : Int32} {s1 : Int32} {s2 : Int32} {s3 : Int32} {s4 : Bool} {o6 : Option Value} {o7 : Option Value} {o8 : Option Value} : Im (d_118_133 a0 x1 x2 x3 x4 x5 s0 s1 s2 s3 s4 m) (kL (wV L nx) (E_118_27 L nx b z a0 x1 x2 x3 x4)) (ev_dn b z 118 133 [some (.ref a0), some (.int x1), some (.int x2), some (.int x3), some (.int (bi x4)), some (.int x5), o6, o7, o8] [.int (bi s4), .int s3, .int s2, .int s1, .ref s0] (nx, mem L nx m)) := by
  unfold d_118_133
  refine i_cv (ci := 1) (t := 22) (na := 5) (ml := 13) (idx := 67) (pc' := 136) (st' := []) (en := [some (.ref s0), some (.int s1), some (.int s2), some (.int s3), some (.int (bi s4)), none, none, none, none, none, none, none, none]) (av := [.int s1, .int s2, .int s3, .int (bi s4)]) (vo := fun v => some (.int (bi v))) (mo := fun _ => m) (s2 := fun v => .int (bi v) :: []) (by decide +kernel) (by decide +kernel) hs0 ⟨rfl, rfl, rfl, rfl, rfl, rfl⟩ (fun _ => rfl) (t_22 hN (h0 := hs0)) (fun v8 => ?_)
  refine i_bz (off := 17) (t := 153) (pc' := 139) (by decide +kernel) ?_ ?_
  · refine i_bl (pc' := 143) [(.aload_n 0, 1), (.iload 5, 2), (.aload_n 0, 1)] [some (.ref a0), some (.int x1), some (.int x2), some (.int x3), some (.int (bi x4)), some (.int x5), o6, o7, o8] [.ref a0, .int x5, .ref a0] (by decide +kernel) rfl ?_
    refine i_gr (idx := 18) (ci := 9) (k := 1) (t := 2) (p := 12084) (pc' := 146) (by decide +kernel) h0 ?_
    refine i_bl (pc' := 147) [(.iload_n 2, 1)] [some (.ref a0), some (.int x1), some (.int x2), some (.int x3), some (.int (bi x4)), some (.int x5), o6, o7, o8] [.int x2, .ref (sh_r a0 1), .int x5, .ref a0] (by decide +kernel) rfl ?_
    refine i_al (pc' := 148) (by decide +kernel) (o_9_1 hN h0) ?_
    refine i_bl (pc' := 150) [(.iconst 1, 1), (.iadd, 1)] [some (.ref a0), some (.int x1), some (.int x2), some (.int x3), some (.int (bi x4)), some (.int x5), o6, o7, o8] [.int ((m (sh_r a0 1) (ix x2)) + 1), .int x5, .ref a0] (by decide +kernel) rfl ?_
    refine i_cv (ci := 9) (t := 117) (na := 3) (ml := 3) (idx := 47) (pc' := 153) (st' := []) (en := [some (.ref a0), some (.int x5), some (.int ((m (sh_r a0 1) (ix x2)) + 1))]) (av := [.int x5, .int ((m (sh_r a0 1) (ix x2)) + 1)]) (vo := fun _ => none) (mo := fun m => m) (s2 := fun _ => []) (by decide +kernel) (by decide +kernel) h0 ⟨rfl, rfl, rfl, rfl, rfl, rfl⟩ (fun _ => rfl) (t_117 hN (h0 := h0)) (fun m10 => ?_)
    refine i_bl (pc' := 156) [(.iinc 5 (1), 3)] [some (.ref a0), some (.int x1), some (.int x2), some (.int x3), some (.int (bi x4)), some (.int (x5 + 1)), o6, o7, o8] [] (by decide +kernel) rfl ?_
    refine i_wb (fun y11 => ev_dn b z 118 156 [some (.ref a0), some (.int x1), some (.int x2), some (.int x3), some (.int (bi x4)), some (.int y11), o6, o7, o8] [] (nx, mem L nx m10)) (fun y11 => ?_)
    refine i_go (t := 27) (off := -129) (by decide +kernel) ?_
    exact i_co (o6, o7, o8) rfl
  · refine i_bl (pc' := 156) [(.iinc 5 (1), 3)] [some (.ref a0), some (.int x1), some (.int x2), some (.int x3), some (.int (bi x4)), some (.int (x5 + 1)), o6, o7, o8] [] (by decide +kernel) rfl ?_
    refine i_wb (fun y9 => ev_dn b z 118 156 [some (.ref a0), some (.int x1), some (.int x2), some (.int x3), some (.int (bi x4)), some (.int y9), o6, o7, o8] [] (nx, mem L nx m)) (fun y9 => ?_)
    refine i_go (t := 27) (off := -129) (by decide +kernel) ?_
    exact i_co (o6, o7, o8) rfl

noncomputable def d_118_72 (a0 : Nat) (x1 : Int32) (x2 : Int32) (x3 : Int32) (x4 : Bool) (x5 : Int32) (x6 : Int32) (s0 : Bool) (m : Mm) : Option ((Int32 × Mm) ⊕ Mm) := (d_13 x5).bind fun v2 => (d_14 x5).bind fun v3 => (d_15 (sh_r a0 0) v2 v3 m).bind fun v4 => if s0 = true then (if v4 = true then (if ev_in x5 (sh_n (sh_r a0 1)) = true then (if ¬ (m (sh_r a0 1) (ix x5)) = (-1) then (wb (x5 + 1) fun y7 => some (.inl (y7, m))) else (if x6 = (-1) then (d_118_133 a0 x1 x2 x3 x4 x5 (sh_r a0 0) x1 x2 x5 false m) else (d_118_133 a0 x1 x2 x3 x4 x5 (sh_r a0 0) x1 x2 x5 true m))) else none) else (wb (x5 + 1) fun y6 => some (.inl (y6, m)))) else (wb (x5 + 1) fun y5 => some (.inl (y5, m)))
theorem t_118_72 {L nx : Nat} (hN : okn nx) {b z : Nat} {m : Mm} {a0 : Nat} (h0 : ok nx a0 9) {x1 : Int32} {x2 : Int32} {x3 : Int32} {x4 : Bool} {x5 : Int32} {x6 : Int32} {s0 : Bool} {o7 : Option Value} {o8 : Option Value} : Im (d_118_72 a0 x1 x2 x3 x4 x5 x6 s0 m) (kL (wV L nx) (E_118_27 L nx b z a0 x1 x2 x3 x4)) (ev_dn b z 118 72 [some (.ref a0), some (.int x1), some (.int x2), some (.int x3), some (.int (bi x4)), some (.int x5), some (.int x6), o7, o8] [.int (bi s0)] (nx, mem L nx m)) := by
  unfold d_118_72
  refine i_bl (pc' := 75) [(.istore 7, 2), (.aload_n 0, 1)] [some (.ref a0), some (.int x1), some (.int x2), some (.int x3), some (.int (bi x4)), some (.int x5), some (.int x6), some (.int (bi s0)), o8] [.ref a0] (by decide +kernel) rfl ?_
  refine i_gr (idx := 12) (ci := 9) (k := 0) (t := 2) (p := 12083) (pc' := 78) (by decide +kernel) h0 ?_
  refine i_bl (pc' := 80) [(.iload 5, 2)] [some (.ref a0), some (.int x1), some (.int x2), some (.int x3), some (.int (bi x4)), some (.int x5), some (.int x6), some (.int (bi s0)), o8] [.int x5, .ref (sh_r a0 0)] (by decide +kernel) rfl ?_
  refine i_cs (t := 13) (na := 1) (ml := 1) (idx := 58) (pc' := 83) (st' := [.ref (sh_r a0 0)]) (en := [some (.int x5)]) (av := [.int x5]) (vo := fun v => some (.int v)) (mo := fun _ => m) (s2 := fun v => .int v :: [.ref (sh_r a0 0)]) (by decide +kernel) ⟨rfl, rfl, rfl, rfl, rfl, rfl⟩ (fun _ => rfl) (t_13 hN ) (fun v2 => ?_)
  refine i_bl (pc' := 85) [(.iload 5, 2)] [some (.ref a0), some (.int x1), some (.int x2), some (.int x3), some (.int (bi x4)), some (.int x5), some (.int x6), some (.int (bi s0)), o8] [.int x5, .int v2, .ref (sh_r a0 0)] (by decide +kernel) rfl ?_
  refine i_cs (t := 14) (na := 1) (ml := 1) (idx := 61) (pc' := 88) (st' := [.int v2, .ref (sh_r a0 0)]) (en := [some (.int x5)]) (av := [.int x5]) (vo := fun v => some (.int v)) (mo := fun _ => m) (s2 := fun v => .int v :: [.int v2, .ref (sh_r a0 0)]) (by decide +kernel) ⟨rfl, rfl, rfl, rfl, rfl, rfl⟩ (fun _ => rfl) (t_14 hN ) (fun v3 => ?_)
  refine i_cv (ci := 1) (t := 15) (na := 3) (ml := 3) (idx := 64) (pc' := 91) (st' := []) (en := [some (.ref (sh_r a0 0)), some (.int v2), some (.int v3)]) (av := [.int v2, .int v3]) (vo := fun v => some (.int (bi v))) (mo := fun _ => m) (s2 := fun v => .int (bi v) :: []) (by decide +kernel) (by decide +kernel) (o_9_0 hN h0) ⟨rfl, rfl, rfl, rfl, rfl, rfl⟩ (fun _ => rfl) (t_15 hN (h0 := (o_9_0 hN h0))) (fun v4 => ?_)
  refine i_bl (pc' := 95) [(.istore 8, 2), (.iload 7, 2)] [some (.ref a0), some (.int x1), some (.int x2), some (.int x3), some (.int (bi x4)), some (.int x5), some (.int x6), some (.int (bi s0)), some (.int (bi v4))] [.int (bi s0)] (by decide +kernel) rfl ?_
  refine i_bz (off := 58) (t := 153) (pc' := 98) (by decide +kernel) ?_ ?_
  · refine i_bl (pc' := 100) [(.iload 8, 2)] [some (.ref a0), some (.int x1), some (.int x2), some (.int x3), some (.int (bi x4)), some (.int x5), some (.int x6), some (.int (bi s0)), some (.int (bi v4))] [.int (bi v4)] (by decide +kernel) rfl ?_
    refine i_bz (off := 53) (t := 153) (pc' := 103) (by decide +kernel) ?_ ?_
    · refine i_bl (pc' := 104) [(.aload_n 0, 1)] [some (.ref a0), some (.int x1), some (.int x2), some (.int x3), some (.int (bi x4)), some (.int x5), some (.int x6), some (.int (bi s0)), some (.int (bi v4))] [.ref a0] (by decide +kernel) rfl ?_
      refine i_gr (idx := 18) (ci := 9) (k := 1) (t := 2) (p := 12084) (pc' := 107) (by decide +kernel) h0 ?_
      refine i_bl (pc' := 109) [(.iload 5, 2)] [some (.ref a0), some (.int x1), some (.int x2), some (.int x3), some (.int (bi x4)), some (.int x5), some (.int x6), some (.int (bi s0)), some (.int (bi v4))] [.int x5, .ref (sh_r a0 1)] (by decide +kernel) rfl ?_
      refine i_al (pc' := 110) (by decide +kernel) (o_9_1 hN h0) ?_
      refine i_bl (pc' := 111) [(.iconst (-1), 1)] [some (.ref a0), some (.int x1), some (.int x2), some (.int x3), some (.int (bi x4)), some (.int x5), some (.int x6), some (.int (bi s0)), some (.int (bi v4))] [.int (-1), .int (m (sh_r a0 1) (ix x5))] (by decide +kernel) rfl ?_
      refine i_ic (c := .ne) (off := 42) (t := 153) (pc' := 114) (p := ¬ (m (sh_r a0 1) (ix x5)) = (-1)) (by decide +kernel) rfl ?_ ?_
      · refine i_bl (pc' := 156) [(.iinc 5 (1), 3)] [some (.ref a0), some (.int x1), some (.int x2), some (.int x3), some (.int (bi x4)), some (.int (x5 + 1)), some (.int x6), some (.int (bi s0)), some (.int (bi v4))] [] (by decide +kernel) rfl ?_
        refine i_wb (fun y7 => ev_dn b z 118 156 [some (.ref a0), some (.int x1), some (.int x2), some (.int x3), some (.int (bi x4)), some (.int y7), some (.int x6), some (.int (bi s0)), some (.int (bi v4))] [] (nx, mem L nx m)) (fun y7 => ?_)
        refine i_go (t := 27) (off := -129) (by decide +kernel) ?_
        exact i_co (some (.int x6), some (.int (bi s0)), some (.int (bi v4))) rfl
      · refine i_bl (pc' := 115) [(.aload_n 0, 1)] [some (.ref a0), some (.int x1), some (.int x2), some (.int x3), some (.int (bi x4)), some (.int x5), some (.int x6), some (.int (bi s0)), some (.int (bi v4))] [.ref a0] (by decide +kernel) rfl ?_
        refine i_gr (idx := 12) (ci := 9) (k := 0) (t := 2) (p := 12083) (pc' := 118) (by decide +kernel) h0 ?_
        refine i_bl (pc' := 125) [(.iload_n 1, 1), (.iload_n 2, 1), (.iload 5, 2), (.iload 6, 2), (.iconst (-1), 1)] [some (.ref a0), some (.int x1), some (.int x2), some (.int x3), some (.int (bi x4)), some (.int x5), some (.int x6), some (.int (bi s0)), some (.int (bi v4))] [.int (-1), .int x6, .int x5, .int x2, .int x1, .ref (sh_r a0 0)] (by decide +kernel) rfl ?_
        refine i_ic (c := .eq) (off := 7) (t := 132) (pc' := 128) (p := x6 = (-1)) (by decide +kernel) rfl ?_ ?_
        · refine i_bl (pc' := 133) [(.iconst 0, 1)] [some (.ref a0), some (.int x1), some (.int x2), some (.int x3), some (.int (bi x4)), some (.int x5), some (.int x6), some (.int (bi s0)), some (.int (bi v4))] [.int 0, .int x5, .int x2, .int x1, .ref (sh_r a0 0)] (by decide +kernel) rfl ?_
          exact t_118_133 hN (h0 := h0) (hs0 := (o_9_0 hN h0))
        · refine i_bl (pc' := 129) [(.iconst 1, 1)] [some (.ref a0), some (.int x1), some (.int x2), some (.int x3), some (.int (bi x4)), some (.int x5), some (.int x6), some (.int (bi s0)), some (.int (bi v4))] [.int 1, .int x5, .int x2, .int x1, .ref (sh_r a0 0)] (by decide +kernel) rfl ?_
          refine i_go (t := 133) (off := 4) (by decide +kernel) ?_
          exact t_118_133 hN (h0 := h0) (hs0 := (o_9_0 hN h0))
    · refine i_bl (pc' := 156) [(.iinc 5 (1), 3)] [some (.ref a0), some (.int x1), some (.int x2), some (.int x3), some (.int (bi x4)), some (.int (x5 + 1)), some (.int x6), some (.int (bi s0)), some (.int (bi v4))] [] (by decide +kernel) rfl ?_
      refine i_wb (fun y6 => ev_dn b z 118 156 [some (.ref a0), some (.int x1), some (.int x2), some (.int x3), some (.int (bi x4)), some (.int y6), some (.int x6), some (.int (bi s0)), some (.int (bi v4))] [] (nx, mem L nx m)) (fun y6 => ?_)
      refine i_go (t := 27) (off := -129) (by decide +kernel) ?_
      exact i_co (some (.int x6), some (.int (bi s0)), some (.int (bi v4))) rfl
  · refine i_bl (pc' := 156) [(.iinc 5 (1), 3)] [some (.ref a0), some (.int x1), some (.int x2), some (.int x3), some (.int (bi x4)), some (.int (x5 + 1)), some (.int x6), some (.int (bi s0)), some (.int (bi v4))] [] (by decide +kernel) rfl ?_
    refine i_wb (fun y5 => ev_dn b z 118 156 [some (.ref a0), some (.int x1), some (.int x2), some (.int x3), some (.int (bi x4)), some (.int y5), some (.int x6), some (.int (bi s0)), some (.int (bi v4))] [] (nx, mem L nx m)) (fun y5 => ?_)
    refine i_go (t := 27) (off := -129) (by decide +kernel) ?_
    exact i_co (some (.int x6), some (.int (bi s0)), some (.int (bi v4))) rfl

noncomputable def s_118_27 (a0 : Nat) (x1 : Int32) (x2 : Int32) (x3 : Int32) (x4 : Bool) (x5 : Int32) (m : Mm) : Option ((Int32 × Mm) ⊕ Mm) := if 64 ≤ x5 then (some (.inr m)) else ((d_17 (sh_r a0 0) x5 m).bind fun v1 => if v1 = (-1) then (d_118_72 a0 x1 x2 x3 x4 x5 v1 true m) else (if ¬ x5 = x3 then (d_118_72 a0 x1 x2 x3 x4 x5 v1 false m) else ((d_19 v1 (bi x4)).bind fun v12 => if v12 = true then (d_118_72 a0 x1 x2 x3 x4 x5 v1 false m) else (d_118_72 a0 x1 x2 x3 x4 x5 v1 true m))))
noncomputable def d_118_27 (a0 : Nat) (x1 : Int32) (x2 : Int32) (x3 : Int32) (x4 : Bool) (x5 : Int32) (m : Mm) : Option Mm := it (fun s => s_118_27 a0 x1 x2 x3 x4 s.1 s.2) (x5, m)
theorem e_118_27 (a0 : Nat) (x1 : Int32) (x2 : Int32) (x3 : Int32) (x4 : Bool) (x5 : Int32) (m : Mm) : d_118_27 a0 x1 x2 x3 x4 x5 m = oi (s_118_27 a0 x1 x2 x3 x4 x5 m) (fun s => d_118_27 a0 x1 x2 x3 x4 s.1 s.2) := it_eq _
theorem u_118_27 {L nx : Nat} (hN : okn nx) {b z : Nat} {m : Mm} {a0 : Nat} (h0 : ok nx a0 9) {x1 : Int32} {x2 : Int32} {x3 : Int32} {x4 : Bool} {x5 : Int32} {o6 : Option Value} {o7 : Option Value} {o8 : Option Value} : Im (s_118_27 a0 x1 x2 x3 x4 x5 m) (kL (wV L nx) (E_118_27 L nx b z a0 x1 x2 x3 x4)) (ev_dn b z 118 27 [some (.ref a0), some (.int x1), some (.int x2), some (.int x3), some (.int (bi x4)), some (.int x5), o6, o7, o8] [] (nx, mem L nx m)) := by
  unfold s_118_27
  refine i_bl (pc' := 31) [(.iload 5, 2), (.bipush (64), 2)] [some (.ref a0), some (.int x1), some (.int x2), some (.int x3), some (.int (bi x4)), some (.int x5), o6, o7, o8] [.int 64, .int x5] (by decide +kernel) rfl ?_
  refine i_ic (c := .ge) (off := 128) (t := 159) (pc' := 34) (p := 64 ≤ x5) (by decide +kernel) rfl ?_ ?_
  · exact i_ir (i_rv (by decide +kernel) rfl)
  · refine i_bl (pc' := 35) [(.aload_n 0, 1)] [some (.ref a0), some (.int x1), some (.int x2), some (.int x3), some (.int (bi x4)), some (.int x5), o6, o7, o8] [.ref a0] (by decide +kernel) rfl ?_
    refine i_gr (idx := 12) (ci := 9) (k := 0) (t := 2) (p := 12083) (pc' := 38) (by decide +kernel) h0 ?_
    refine i_bl (pc' := 40) [(.iload 5, 2)] [some (.ref a0), some (.int x1), some (.int x2), some (.int x3), some (.int (bi x4)), some (.int x5), o6, o7, o8] [.int x5, .ref (sh_r a0 0)] (by decide +kernel) rfl ?_
    refine i_cv (ci := 1) (t := 17) (na := 2) (ml := 2) (idx := 29) (pc' := 43) (st' := []) (en := [some (.ref (sh_r a0 0)), some (.int x5)]) (av := [.int x5]) (vo := fun v => some (.int v)) (mo := fun _ => m) (s2 := fun v => .int v :: []) (by decide +kernel) (by decide +kernel) (o_9_0 hN h0) ⟨rfl, rfl, rfl, rfl, rfl, rfl⟩ (fun _ => rfl) (t_17 hN (h0 := (o_9_0 hN h0))) (fun v1 => ?_)
    refine i_bl (pc' := 48) [(.istore 6, 2), (.iload 6, 2), (.iconst (-1), 1)] [some (.ref a0), some (.int x1), some (.int x2), some (.int x3), some (.int (bi x4)), some (.int x5), some (.int v1), o7, o8] [.int (-1), .int v1] (by decide +kernel) rfl ?_
    refine i_ic (c := .eq) (off := 19) (t := 67) (pc' := 51) (p := v1 = (-1)) (by decide +kernel) rfl ?_ ?_
    · refine i_bl (pc' := 68) [(.iconst 1, 1)] [some (.ref a0), some (.int x1), some (.int x2), some (.int x3), some (.int (bi x4)), some (.int x5), some (.int v1), o7, o8] [.int 1] (by decide +kernel) rfl ?_
      refine i_go (t := 72) (off := 4) (by decide +kernel) ?_
      exact t_118_72 hN (h0 := h0)
    · refine i_bl (pc' := 54) [(.iload 5, 2), (.iload_n 3, 1)] [some (.ref a0), some (.int x1), some (.int x2), some (.int x3), some (.int (bi x4)), some (.int x5), some (.int v1), o7, o8] [.int x3, .int x5] (by decide +kernel) rfl ?_
      refine i_ic (c := .ne) (off := 17) (t := 71) (pc' := 57) (p := ¬ x5 = x3) (by decide +kernel) rfl ?_ ?_
      · refine i_bl (pc' := 72) [(.iconst 0, 1)] [some (.ref a0), some (.int x1), some (.int x2), some (.int x3), some (.int (bi x4)), some (.int x5), some (.int v1), o7, o8] [.int 0] (by decide +kernel) rfl ?_
        exact t_118_72 hN (h0 := h0)
      · refine i_bl (pc' := 61) [(.iload 6, 2), (.iload 4, 2)] [some (.ref a0), some (.int x1), some (.int x2), some (.int x3), some (.int (bi x4)), some (.int x5), some (.int v1), o7, o8] [.int (bi x4), .int v1] (by decide +kernel) rfl ?_
        refine i_cs (t := 19) (na := 2) (ml := 2) (idx := 54) (pc' := 64) (st' := []) (en := [some (.int v1), some (.int (bi x4))]) (av := [.int v1, .int (bi x4)]) (vo := fun v => some (.int (bi v))) (mo := fun _ => m) (s2 := fun v => .int (bi v) :: []) (by decide +kernel) ⟨rfl, rfl, rfl, rfl, rfl, rfl⟩ (fun _ => rfl) (t_19 hN ) (fun v12 => ?_)
        refine i_bn (off := 7) (t := 71) (pc' := 67) (by decide +kernel) ?_ ?_
        · refine i_bl (pc' := 72) [(.iconst 0, 1)] [some (.ref a0), some (.int x1), some (.int x2), some (.int x3), some (.int (bi x4)), some (.int x5), some (.int v1), o7, o8] [.int 0] (by decide +kernel) rfl ?_
          exact t_118_72 hN (h0 := h0)
        · refine i_bl (pc' := 68) [(.iconst 1, 1)] [some (.ref a0), some (.int x1), some (.int x2), some (.int x3), some (.int (bi x4)), some (.int x5), some (.int v1), o7, o8] [.int 1] (by decide +kernel) rfl ?_
          refine i_go (t := 72) (off := 4) (by decide +kernel) ?_
          exact t_118_72 hN (h0 := h0)

theorem t_118_27 {L nx : Nat} (hN : okn nx) {b z : Nat} {m : Mm} {a0 : Nat} (h0 : ok nx a0 9) {x1 : Int32} {x2 : Int32} {x3 : Int32} {x4 : Bool} {x5 : Int32} {o6 : Option Value} {o7 : Option Value} {o8 : Option Value} : Im (d_118_27 a0 x1 x2 x3 x4 x5 m) (wV L nx) (ev_dn b z 118 27 [some (.ref a0), some (.int x1), some (.int x2), some (.int x3), some (.int (bi x4)), some (.int x5), o6, o7, o8] [] (nx, mem L nx m)) := by
  exact i_it (f := fun s => s_118_27 a0 x1 x2 x3 x4 s.1 s.2) (E := E_118_27 L nx b z a0 x1 x2 x3 x4) (K := (wV L nx)) (fun d s => u_118_27 hN (h0 := h0)) (o6, o7, o8) (x5, m)
noncomputable def d_118 (a0 : Nat) (x1 : Int32) (x2 : Int32) (x3 : Int32) (m : Mm) : Option Mm := if x2 < 0 then (some m) else (if x2 < 64 then (if 6 ≤ x1 then (d_118_27 a0 x1 x2 x3 true 0 m) else (d_118_27 a0 x1 x2 x3 false 0 m)) else (some m))
theorem t_118 {L nx : Nat} (hN : okn nx) {b z : Nat} {m : Mm} {a0 : Nat} (h0 : ok nx a0 9) {x1 : Int32} {x2 : Int32} {x3 : Int32}  : Im (d_118 a0 x1 x2 x3 m) (wV L nx) (ev_dn b z 118 0 [some (.ref a0), some (.int x1), some (.int x2), some (.int x3), none, none, none, none, none] [] (nx, mem L nx m)) := by
  unfold d_118
  refine i_bl (pc' := 1) [(.iload_n 2, 1)] [some (.ref a0), some (.int x1), some (.int x2), some (.int x3), none, none, none, none, none] [.int x2] (by decide +kernel) rfl ?_
  refine i_if (c := .lt) (off := 9) (t := 10) (pc' := 4) (p := x2 < 0) (by decide +kernel) rfl ?_ ?_
  · exact i_rv (by decide +kernel) rfl
  · refine i_bl (pc' := 7) [(.iload_n 2, 1), (.bipush (64), 2)] [some (.ref a0), some (.int x1), some (.int x2), some (.int x3), none, none, none, none, none] [.int 64, .int x2] (by decide +kernel) rfl ?_
    refine i_ic (c := .lt) (off := 4) (t := 11) (pc' := 10) (p := x2 < 64) (by decide +kernel) rfl ?_ ?_
    · refine i_bl (pc' := 14) [(.iload_n 1, 1), (.bipush (6), 2)] [some (.ref a0), some (.int x1), some (.int x2), some (.int x3), none, none, none, none, none] [.int 6, .int x1] (by decide +kernel) rfl ?_
      refine i_ic (c := .ge) (off := 7) (t := 21) (pc' := 17) (p := 6 ≤ x1) (by decide +kernel) rfl ?_ ?_
      · refine i_bl (pc' := 27) [(.iconst 1, 1), (.istore 4, 2), (.iconst 0, 1), (.istore 5, 2)] [some (.ref a0), some (.int x1), some (.int x2), some (.int x3), some (.int 1), some (.int 0), none, none, none] [] (by decide +kernel) rfl ?_
        exact t_118_27 hN (h0 := h0)
      · refine i_bl (pc' := 18) [(.iconst 0, 1)] [some (.ref a0), some (.int x1), some (.int x2), some (.int x3), none, none, none, none, none] [.int 0] (by decide +kernel) rfl ?_
        refine i_go (t := 22) (off := 4) (by decide +kernel) ?_
        refine i_bl (pc' := 27) [(.istore 4, 2), (.iconst 0, 1), (.istore 5, 2)] [some (.ref a0), some (.int x1), some (.int x2), some (.int x3), some (.int 0), some (.int 0), none, none, none] [] (by decide +kernel) rfl ?_
        exact t_118_27 hN (h0 := h0)
    · exact i_rv (by decide +kernel) rfl

/-! 116 LanternChess$Walk.fewest(LLanternChess$Field;II)I -/
noncomputable def E_116_54 (L nx b z : Nat) (a0 : Nat) (x3 : Int32) (x4 : Int32) (d : Option Value × Option Value) (s : (Int32 × Mm)) : ev_Q := ev_dn b z 116 54 [some (.ref a0), d.1, d.2, some (.int x3), some (.int x4), some (.int s.1)] [] (nx, mem L nx s.2)
noncomputable def d_116_90 (a0 : Nat) (x3 : Int32) (m : Mm) : Option (Int32 × Mm) := if x3 < 0 then (some ((-1), m)) else (if 64 ≤ x3 then (some ((-1), m)) else (if ev_in x3 (sh_n (sh_r a0 1)) = true then (some (m (sh_r a0 1) (ix x3), m)) else none))
theorem t_116_90 {L nx : Nat} (hN : okn nx) {b z : Nat} {m : Mm} {a0 : Nat} (h0 : ok nx a0 9) {x3 : Int32} {o1 : Option Value} {o2 : Option Value} {o4 : Option Value} {o5 : Option Value} : Im (d_116_90 a0 x3 m) (wI L nx) (ev_dn b z 116 90 [some (.ref a0), o1, o2, some (.int x3), o4, o5] [] (nx, mem L nx m)) := by
  unfold d_116_90
  refine i_bl (pc' := 91) [(.iload_n 3, 1)] [some (.ref a0), o1, o2, some (.int x3), o4, o5] [.int x3] (by decide +kernel) rfl ?_
  refine i_if (c := .lt) (off := 18) (t := 109) (pc' := 94) (p := x3 < 0) (by decide +kernel) rfl ?_ ?_
  · refine i_bl (pc' := 110) [(.iconst (-1), 1)] [some (.ref a0), o1, o2, some (.int x3), o4, o5] [.int (-1)] (by decide +kernel) rfl ?_
    exact i_ri (by decide +kernel) rfl
  · refine i_bl (pc' := 97) [(.iload_n 3, 1), (.bipush (64), 2)] [some (.ref a0), o1, o2, some (.int x3), o4, o5] [.int 64, .int x3] (by decide +kernel) rfl ?_
    refine i_ic (c := .ge) (off := 12) (t := 109) (pc' := 100) (p := 64 ≤ x3) (by decide +kernel) rfl ?_ ?_
    · refine i_bl (pc' := 110) [(.iconst (-1), 1)] [some (.ref a0), o1, o2, some (.int x3), o4, o5] [.int (-1)] (by decide +kernel) rfl ?_
      exact i_ri (by decide +kernel) rfl
    · refine i_bl (pc' := 101) [(.aload_n 0, 1)] [some (.ref a0), o1, o2, some (.int x3), o4, o5] [.ref a0] (by decide +kernel) rfl ?_
      refine i_gr (idx := 18) (ci := 9) (k := 1) (t := 2) (p := 12084) (pc' := 104) (by decide +kernel) h0 ?_
      refine i_bl (pc' := 105) [(.iload_n 3, 1)] [some (.ref a0), o1, o2, some (.int x3), o4, o5] [.int x3, .ref (sh_r a0 1)] (by decide +kernel) rfl ?_
      refine i_al (pc' := 106) (by decide +kernel) (o_9_1 hN h0) ?_
      refine i_go (t := 110) (off := 4) (by decide +kernel) ?_
      exact i_ri (by decide +kernel) rfl

noncomputable def s_116_54 (a0 : Nat) (x3 : Int32) (x4 : Int32) (x5 : Int32) (m : Mm) : Option ((Int32 × Mm) ⊕ (Int32 × Mm)) := if (m a0 3) ≤ x5 then ((d_116_90 a0 x3 m).map Sum.inr) else (if 64 ≤ x5 then ((d_116_90 a0 x3 m).map Sum.inr) else (if ev_in x5 (sh_n (sh_r a0 2)) = true then ((d_118 a0 x4 (m (sh_r a0 2) (ix x5)) x3 m).bind fun m7 => wb (x5 + 1) fun y8 => some (.inl (y8, m7))) else none))
noncomputable def d_116_54 (a0 : Nat) (x3 : Int32) (x4 : Int32) (x5 : Int32) (m : Mm) : Option (Int32 × Mm) := it (fun s => s_116_54 a0 x3 x4 s.1 s.2) (x5, m)
theorem e_116_54 (a0 : Nat) (x3 : Int32) (x4 : Int32) (x5 : Int32) (m : Mm) : d_116_54 a0 x3 x4 x5 m = oi (s_116_54 a0 x3 x4 x5 m) (fun s => d_116_54 a0 x3 x4 s.1 s.2) := it_eq _
theorem u_116_54 {L nx : Nat} (hN : okn nx) {b z : Nat} {m : Mm} {a0 : Nat} (h0 : ok nx a0 9) {x3 : Int32} {x4 : Int32} {x5 : Int32} {o1 : Option Value} {o2 : Option Value} : Im (s_116_54 a0 x3 x4 x5 m) (kL (wI L nx) (E_116_54 L nx b z a0 x3 x4)) (ev_dn b z 116 54 [some (.ref a0), o1, o2, some (.int x3), some (.int x4), some (.int x5)] [] (nx, mem L nx m)) := by
  unfold s_116_54
  refine i_bl (pc' := 57) [(.iload 5, 2), (.aload_n 0, 1)] [some (.ref a0), o1, o2, some (.int x3), some (.int x4), some (.int x5)] [.ref a0, .int x5] (by decide +kernel) rfl ?_
  refine i_gf (idx := 25) (ci := 9) (k := 3) (t := 0) (p := 12086) (pc' := 60) (by decide +kernel) h0 ?_
  refine i_ic (c := .ge) (off := 30) (t := 90) (pc' := 63) (p := (m a0 3) ≤ x5) (by decide +kernel) rfl ?_ ?_
  · exact i_mr (t_116_90 hN (h0 := h0))
  · refine i_bl (pc' := 67) [(.iload 5, 2), (.bipush (64), 2)] [some (.ref a0), o1, o2, some (.int x3), some (.int x4), some (.int x5)] [.int 64, .int x5] (by decide +kernel) rfl ?_
    refine i_ic (c := .ge) (off := 23) (t := 90) (pc' := 70) (p := 64 ≤ x5) (by decide +kernel) rfl ?_ ?_
    · exact i_mr (t_116_90 hN (h0 := h0))
    · refine i_bl (pc' := 74) [(.aload_n 0, 1), (.iload 4, 2), (.aload_n 0, 1)] [some (.ref a0), o1, o2, some (.int x3), some (.int x4), some (.int x5)] [.ref a0, .int x4, .ref a0] (by decide +kernel) rfl ?_
      refine i_gr (idx := 22) (ci := 9) (k := 2) (t := 2) (p := 12085) (pc' := 77) (by decide +kernel) h0 ?_
      refine i_bl (pc' := 79) [(.iload 5, 2)] [some (.ref a0), o1, o2, some (.int x3), some (.int x4), some (.int x5)] [.int x5, .ref (sh_r a0 2), .int x4, .ref a0] (by decide +kernel) rfl ?_
      refine i_al (pc' := 80) (by decide +kernel) (o_9_2 hN h0) ?_
      refine i_bl (pc' := 81) [(.iload_n 3, 1)] [some (.ref a0), o1, o2, some (.int x3), some (.int x4), some (.int x5)] [.int x3, .int (m (sh_r a0 2) (ix x5)), .int x4, .ref a0] (by decide +kernel) rfl ?_
      refine i_cv (ci := 9) (t := 118) (na := 4) (ml := 9) (idx := 50) (pc' := 84) (st' := []) (en := [some (.ref a0), some (.int x4), some (.int (m (sh_r a0 2) (ix x5))), some (.int x3), none, none, none, none, none]) (av := [.int x4, .int (m (sh_r a0 2) (ix x5)), .int x3]) (vo := fun _ => none) (mo := fun m => m) (s2 := fun _ => []) (by decide +kernel) (by decide +kernel) h0 ⟨rfl, rfl, rfl, rfl, rfl, rfl⟩ (fun _ => rfl) (t_118 hN (h0 := h0)) (fun m7 => ?_)
      refine i_bl (pc' := 87) [(.iinc 5 (1), 3)] [some (.ref a0), o1, o2, some (.int x3), some (.int x4), some (.int (x5 + 1))] [] (by decide +kernel) rfl ?_
      refine i_wb (fun y8 => ev_dn b z 116 87 [some (.ref a0), o1, o2, some (.int x3), some (.int x4), some (.int y8)] [] (nx, mem L nx m7)) (fun y8 => ?_)
      refine i_go (t := 54) (off := -33) (by decide +kernel) ?_
      exact i_co (o1, o2) rfl

theorem t_116_54 {L nx : Nat} (hN : okn nx) {b z : Nat} {m : Mm} {a0 : Nat} (h0 : ok nx a0 9) {x3 : Int32} {x4 : Int32} {x5 : Int32} {o1 : Option Value} {o2 : Option Value} : Im (d_116_54 a0 x3 x4 x5 m) (wI L nx) (ev_dn b z 116 54 [some (.ref a0), o1, o2, some (.int x3), some (.int x4), some (.int x5)] [] (nx, mem L nx m)) := by
  exact i_it (f := fun s => s_116_54 a0 x3 x4 s.1 s.2) (E := E_116_54 L nx b z a0 x3 x4) (K := (wI L nx)) (fun d s => u_116_54 hN (h0 := h0)) (o1, o2) (x5, m)
noncomputable def d_116 (a0 : Nat) (a1 : Nat) (x2 : Int32) (x3 : Int32) (m : Mm) : Option (Int32 × Mm) := (d_17 a1 x2 m).bind fun v1 => if ¬ v1 = (-1) then ((d_11 (sh_r a0 0) a1 m).bind fun m2 => (d_18 (sh_r a0 0) x2 (-1) m2).bind fun m3 => (d_349 (sh_r a0 1) (-1) m3).bind fun m4 => wb (wr m4 a0 3 0) fun m5 => (d_117 a0 x2 0 m5).bind fun m6 => d_116_54 a0 x3 v1 0 m6) else (some ((-1), m))
theorem t_116 {L nx : Nat} (hN : okn nx) {b z : Nat} {m : Mm} {a0 : Nat} (h0 : ok nx a0 9) {a1 : Nat} (h1 : ok nx a1 1) {x2 : Int32} {x3 : Int32}  : Im (d_116 a0 a1 x2 x3 m) (wI L nx) (ev_dn b z 116 0 [some (.ref a0), some (.ref a1), some (.int x2), some (.int x3), none, none] [] (nx, mem L nx m)) := by
  unfold d_116
  refine i_bl (pc' := 2) [(.aload_n 1, 1), (.iload_n 2, 1)] [some (.ref a0), some (.ref a1), some (.int x2), some (.int x3), none, none] [.int x2, .ref a1] (by decide +kernel) rfl ?_
  refine i_cv (ci := 1) (t := 17) (na := 2) (ml := 2) (idx := 29) (pc' := 5) (st' := []) (en := [some (.ref a1), some (.int x2)]) (av := [.int x2]) (vo := fun v => some (.int v)) (mo := fun _ => m) (s2 := fun v => .int v :: []) (by decide +kernel) (by decide +kernel) h1 ⟨rfl, rfl, rfl, rfl, rfl, rfl⟩ (fun _ => rfl) (t_17 hN (h0 := h1)) (fun v1 => ?_)
  refine i_bl (pc' := 10) [(.istore 4, 2), (.iload 4, 2), (.iconst (-1), 1)] [some (.ref a0), some (.ref a1), some (.int x2), some (.int x3), some (.int v1), none] [.int (-1), .int v1] (by decide +kernel) rfl ?_
  refine i_ic (c := .ne) (off := 5) (t := 15) (pc' := 13) (p := ¬ v1 = (-1)) (by decide +kernel) rfl ?_ ?_
  · refine i_bl (pc' := 16) [(.aload_n 0, 1)] [some (.ref a0), some (.ref a1), some (.int x2), some (.int x3), some (.int v1), none] [.ref a0] (by decide +kernel) rfl ?_
    refine i_gr (idx := 12) (ci := 9) (k := 0) (t := 2) (p := 12083) (pc' := 19) (by decide +kernel) h0 ?_
    refine i_bl (pc' := 20) [(.aload_n 1, 1)] [some (.ref a0), some (.ref a1), some (.int x2), some (.int x3), some (.int v1), none] [.ref a1, .ref (sh_r a0 0)] (by decide +kernel) rfl ?_
    refine i_cv (ci := 1) (t := 11) (na := 2) (ml := 2) (idx := 33) (pc' := 23) (st' := []) (en := [some (.ref (sh_r a0 0)), some (.ref a1)]) (av := [.ref a1]) (vo := fun _ => none) (mo := fun m => m) (s2 := fun _ => []) (by decide +kernel) (by decide +kernel) (o_9_0 hN h0) ⟨rfl, rfl, rfl, rfl, rfl, rfl⟩ (fun _ => rfl) (t_11 hN (h0 := (o_9_0 hN h0)) (h1 := h1)) (fun m2 => ?_)
    refine i_bl (pc' := 24) [(.aload_n 0, 1)] [some (.ref a0), some (.ref a1), some (.int x2), some (.int x3), some (.int v1), none] [.ref a0] (by decide +kernel) rfl ?_
    refine i_gr (idx := 12) (ci := 9) (k := 0) (t := 2) (p := 12083) (pc' := 27) (by decide +kernel) h0 ?_
    refine i_bl (pc' := 29) [(.iload_n 2, 1), (.iconst (-1), 1)] [some (.ref a0), some (.ref a1), some (.int x2), some (.int x3), some (.int v1), none] [.int (-1), .int x2, .ref (sh_r a0 0)] (by decide +kernel) rfl ?_
    refine i_cv (ci := 1) (t := 18) (na := 3) (ml := 3) (idx := 37) (pc' := 32) (st' := []) (en := [some (.ref (sh_r a0 0)), some (.int x2), some (.int (-1))]) (av := [.int x2, .int (-1)]) (vo := fun _ => none) (mo := fun m => m) (s2 := fun _ => []) (by decide +kernel) (by decide +kernel) (o_9_0 hN h0) ⟨rfl, rfl, rfl, rfl, rfl, rfl⟩ (fun _ => rfl) (t_18 hN (h0 := (o_9_0 hN h0))) (fun m3 => ?_)
    refine i_bl (pc' := 33) [(.aload_n 0, 1)] [some (.ref a0), some (.ref a1), some (.int x2), some (.int x3), some (.int v1), none] [.ref a0] (by decide +kernel) rfl ?_
    refine i_gr (idx := 18) (ci := 9) (k := 1) (t := 2) (p := 12084) (pc' := 36) (by decide +kernel) h0 ?_
    refine i_bl (pc' := 37) [(.iconst (-1), 1)] [some (.ref a0), some (.ref a1), some (.int x2), some (.int x3), some (.int v1), none] [.int (-1), .ref (sh_r a0 1)] (by decide +kernel) rfl ?_
    refine i_cs (t := 349) (na := 2) (ml := 4) (idx := 41) (pc' := 40) (st' := []) (en := [some (.ref (sh_r a0 1)), some (.int (-1)), none, none]) (av := [.ref (sh_r a0 1), .int (-1)]) (vo := fun _ => none) (mo := fun m => m) (s2 := fun _ => []) (by decide +kernel) ⟨rfl, rfl, rfl, rfl, rfl, rfl⟩ (fun _ => rfl) (t_349 hN (h0 := (o_9_1 hN h0))) (fun m4 => ?_)
    refine i_bl (pc' := 42) [(.aload_n 0, 1), (.iconst 0, 1)] [some (.ref a0), some (.ref a1), some (.int x2), some (.int x3), some (.int v1), none] [.int 0, .ref a0] (by decide +kernel) rfl ?_
    refine i_pf (x := 0) (idx := 25) (ci := 9) (k := 3) (p := 12086) (pc' := 45) (by decide +kernel) h0 (fun m5 => ?_)
    refine i_bl (pc' := 48) [(.aload_n 0, 1), (.iload_n 2, 1), (.iconst 0, 1)] [some (.ref a0), some (.ref a1), some (.int x2), some (.int x3), some (.int v1), none] [.int 0, .int x2, .ref a0] (by decide +kernel) rfl ?_
    refine i_cv (ci := 9) (t := 117) (na := 3) (ml := 3) (idx := 47) (pc' := 51) (st' := []) (en := [some (.ref a0), some (.int x2), some (.int 0)]) (av := [.int x2, .int 0]) (vo := fun _ => none) (mo := fun m => m) (s2 := fun _ => []) (by decide +kernel) (by decide +kernel) h0 ⟨rfl, rfl, rfl, rfl, rfl, rfl⟩ (fun _ => rfl) (t_117 hN (h0 := h0)) (fun m6 => ?_)
    refine i_bl (pc' := 54) [(.iconst 0, 1), (.istore 5, 2)] [some (.ref a0), some (.ref a1), some (.int x2), some (.int x3), some (.int v1), some (.int 0)] [] (by decide +kernel) rfl ?_
    exact t_116_54 hN (h0 := h0)
  · refine i_bl (pc' := 14) [(.iconst (-1), 1)] [some (.ref a0), some (.ref a1), some (.int x2), some (.int x3), some (.int v1), none] [.int (-1)] (by decide +kernel) rfl ?_
    exact i_ri (by decide +kernel) rfl

/-! 120 LanternChess.appendInput(IIIII)I -/
noncomputable def d_120 (a0 : Nat) (x1 : Int32) (x2 : Int32) (x3 : Int32) (x4 : Int32) (x5 : Int32) (m : Mm) : Option (Int32 × Mm) := (d_96 (sh_r a0 0) m).bind fun v1 => if v1 = true then ((d_97 (sh_r a0 0) x1 m).bind fun m2 => (d_97 (sh_r a0 0) x2 m2).bind fun m3 => (d_97 (sh_r a0 0) x3 m3).bind fun m4 => (d_97 (sh_r a0 0) x4 m4).bind fun m5 => (d_97 (sh_r a0 0) x5 m5).bind fun m6 => some (m6 (sh_r a0 0) 1, m6)) else (some ((-1), m))
theorem t_120 {L nx : Nat} (hN : okn nx) {b z : Nat} {m : Mm} {a0 : Nat} (h0 : ok nx a0 10) {x1 : Int32} {x2 : Int32} {x3 : Int32} {x4 : Int32} {x5 : Int32}  : Im (d_120 a0 x1 x2 x3 x4 x5 m) (wI L nx) (ev_dn b z 120 0 [some (.ref a0), some (.int x1), some (.int x2), some (.int x3), some (.int x4), some (.int x5)] [] (nx, mem L nx m)) := by
  unfold d_120
  refine i_bl (pc' := 1) [(.aload_n 0, 1)] [some (.ref a0), some (.int x1), some (.int x2), some (.int x3), some (.int x4), some (.int x5)] [.ref a0] (by decide +kernel) rfl ?_
  refine i_gr (idx := 10) (ci := 10) (k := 0) (t := 2) (p := 12126) (pc' := 4) (by decide +kernel) h0 ?_
  refine i_cv (ci := 8) (t := 96) (na := 1) (ml := 1) (idx := 82) (pc' := 7) (st' := []) (en := [some (.ref (sh_r a0 0))]) (av := []) (vo := fun v => some (.int (bi v))) (mo := fun _ => m) (s2 := fun v => .int (bi v) :: []) (by decide +kernel) (by decide +kernel) (o_10_0 hN h0) ⟨rfl, rfl, rfl, rfl, rfl, rfl⟩ (fun _ => rfl) (t_96 hN (h0 := (o_10_0 hN h0))) (fun v1 => ?_)
  refine i_bn (off := 5) (t := 12) (pc' := 10) (by decide +kernel) ?_ ?_
  · refine i_bl (pc' := 13) [(.aload_n 0, 1)] [some (.ref a0), some (.int x1), some (.int x2), some (.int x3), some (.int x4), some (.int x5)] [.ref a0] (by decide +kernel) rfl ?_
    refine i_gr (idx := 10) (ci := 10) (k := 0) (t := 2) (p := 12126) (pc' := 16) (by decide +kernel) h0 ?_
    refine i_bl (pc' := 17) [(.iload_n 1, 1)] [some (.ref a0), some (.int x1), some (.int x2), some (.int x3), some (.int x4), some (.int x5)] [.int x1, .ref (sh_r a0 0)] (by decide +kernel) rfl ?_
    refine i_cv (ci := 8) (t := 97) (na := 2) (ml := 3) (idx := 86) (pc' := 20) (st' := []) (en := [some (.ref (sh_r a0 0)), some (.int x1), none]) (av := [.int x1]) (vo := fun _ => none) (mo := fun m => m) (s2 := fun _ => []) (by decide +kernel) (by decide +kernel) (o_10_0 hN h0) ⟨rfl, rfl, rfl, rfl, rfl, rfl⟩ (fun _ => rfl) (t_97 hN (h0 := (o_10_0 hN h0))) (fun m2 => ?_)
    refine i_bl (pc' := 21) [(.aload_n 0, 1)] [some (.ref a0), some (.int x1), some (.int x2), some (.int x3), some (.int x4), some (.int x5)] [.ref a0] (by decide +kernel) rfl ?_
    refine i_gr (idx := 10) (ci := 10) (k := 0) (t := 2) (p := 12126) (pc' := 24) (by decide +kernel) h0 ?_
    refine i_bl (pc' := 25) [(.iload_n 2, 1)] [some (.ref a0), some (.int x1), some (.int x2), some (.int x3), some (.int x4), some (.int x5)] [.int x2, .ref (sh_r a0 0)] (by decide +kernel) rfl ?_
    refine i_cv (ci := 8) (t := 97) (na := 2) (ml := 3) (idx := 86) (pc' := 28) (st' := []) (en := [some (.ref (sh_r a0 0)), some (.int x2), none]) (av := [.int x2]) (vo := fun _ => none) (mo := fun m => m) (s2 := fun _ => []) (by decide +kernel) (by decide +kernel) (o_10_0 hN h0) ⟨rfl, rfl, rfl, rfl, rfl, rfl⟩ (fun _ => rfl) (t_97 hN (h0 := (o_10_0 hN h0))) (fun m3 => ?_)
    refine i_bl (pc' := 29) [(.aload_n 0, 1)] [some (.ref a0), some (.int x1), some (.int x2), some (.int x3), some (.int x4), some (.int x5)] [.ref a0] (by decide +kernel) rfl ?_
    refine i_gr (idx := 10) (ci := 10) (k := 0) (t := 2) (p := 12126) (pc' := 32) (by decide +kernel) h0 ?_
    refine i_bl (pc' := 33) [(.iload_n 3, 1)] [some (.ref a0), some (.int x1), some (.int x2), some (.int x3), some (.int x4), some (.int x5)] [.int x3, .ref (sh_r a0 0)] (by decide +kernel) rfl ?_
    refine i_cv (ci := 8) (t := 97) (na := 2) (ml := 3) (idx := 86) (pc' := 36) (st' := []) (en := [some (.ref (sh_r a0 0)), some (.int x3), none]) (av := [.int x3]) (vo := fun _ => none) (mo := fun m => m) (s2 := fun _ => []) (by decide +kernel) (by decide +kernel) (o_10_0 hN h0) ⟨rfl, rfl, rfl, rfl, rfl, rfl⟩ (fun _ => rfl) (t_97 hN (h0 := (o_10_0 hN h0))) (fun m4 => ?_)
    refine i_bl (pc' := 37) [(.aload_n 0, 1)] [some (.ref a0), some (.int x1), some (.int x2), some (.int x3), some (.int x4), some (.int x5)] [.ref a0] (by decide +kernel) rfl ?_
    refine i_gr (idx := 10) (ci := 10) (k := 0) (t := 2) (p := 12126) (pc' := 40) (by decide +kernel) h0 ?_
    refine i_bl (pc' := 42) [(.iload 4, 2)] [some (.ref a0), some (.int x1), some (.int x2), some (.int x3), some (.int x4), some (.int x5)] [.int x4, .ref (sh_r a0 0)] (by decide +kernel) rfl ?_
    refine i_cv (ci := 8) (t := 97) (na := 2) (ml := 3) (idx := 86) (pc' := 45) (st' := []) (en := [some (.ref (sh_r a0 0)), some (.int x4), none]) (av := [.int x4]) (vo := fun _ => none) (mo := fun m => m) (s2 := fun _ => []) (by decide +kernel) (by decide +kernel) (o_10_0 hN h0) ⟨rfl, rfl, rfl, rfl, rfl, rfl⟩ (fun _ => rfl) (t_97 hN (h0 := (o_10_0 hN h0))) (fun m5 => ?_)
    refine i_bl (pc' := 46) [(.aload_n 0, 1)] [some (.ref a0), some (.int x1), some (.int x2), some (.int x3), some (.int x4), some (.int x5)] [.ref a0] (by decide +kernel) rfl ?_
    refine i_gr (idx := 10) (ci := 10) (k := 0) (t := 2) (p := 12126) (pc' := 49) (by decide +kernel) h0 ?_
    refine i_bl (pc' := 51) [(.iload 5, 2)] [some (.ref a0), some (.int x1), some (.int x2), some (.int x3), some (.int x4), some (.int x5)] [.int x5, .ref (sh_r a0 0)] (by decide +kernel) rfl ?_
    refine i_cv (ci := 8) (t := 97) (na := 2) (ml := 3) (idx := 86) (pc' := 54) (st' := []) (en := [some (.ref (sh_r a0 0)), some (.int x5), none]) (av := [.int x5]) (vo := fun _ => none) (mo := fun m => m) (s2 := fun _ => []) (by decide +kernel) (by decide +kernel) (o_10_0 hN h0) ⟨rfl, rfl, rfl, rfl, rfl, rfl⟩ (fun _ => rfl) (t_97 hN (h0 := (o_10_0 hN h0))) (fun m6 => ?_)
    refine i_bl (pc' := 55) [(.aload_n 0, 1)] [some (.ref a0), some (.int x1), some (.int x2), some (.int x3), some (.int x4), some (.int x5)] [.ref a0] (by decide +kernel) rfl ?_
    refine i_gr (idx := 10) (ci := 10) (k := 0) (t := 2) (p := 12126) (pc' := 58) (by decide +kernel) h0 ?_
    refine i_gf (idx := 90) (ci := 8) (k := 1) (t := 0) (p := 11044) (pc' := 61) (by decide +kernel) (o_10_0 hN h0) ?_
    exact i_ri (by decide +kernel) rfl
  · refine i_bl (pc' := 11) [(.iconst (-1), 1)] [some (.ref a0), some (.int x1), some (.int x2), some (.int x3), some (.int x4), some (.int x5)] [.int (-1)] (by decide +kernel) rfl ?_
    exact i_ri (by decide +kernel) rfl

/-! 121 LanternChess.truncateInput(I)Z -/
noncomputable def d_121 (a0 : Nat) (x1 : Int32) (m : Mm) : Option (Bool × Mm) := if x1 < 0 then (some (false, m)) else (if x1 ≤ (m (sh_r a0 0) 1) then (wb (wr m (sh_r a0 0) 1 x1) fun m1 => some (true, m1)) else (some (false, m)))
theorem t_121 {L nx : Nat} (hN : okn nx) {b z : Nat} {m : Mm} {a0 : Nat} (h0 : ok nx a0 10) {x1 : Int32}  : Im (d_121 a0 x1 m) (wZ L nx) (ev_dn b z 121 0 [some (.ref a0), some (.int x1)] [] (nx, mem L nx m)) := by
  unfold d_121
  refine i_bl (pc' := 1) [(.iload_n 1, 1)] [some (.ref a0), some (.int x1)] [.int x1] (by decide +kernel) rfl ?_
  refine i_if (c := .lt) (off := 14) (t := 15) (pc' := 4) (p := x1 < 0) (by decide +kernel) rfl ?_ ?_
  · refine i_bl (pc' := 16) [(.iconst 0, 1)] [some (.ref a0), some (.int x1)] [.int 0] (by decide +kernel) rfl ?_
    exact i_rz (B := false) (by decide +kernel) rfl
  · refine i_bl (pc' := 6) [(.iload_n 1, 1), (.aload_n 0, 1)] [some (.ref a0), some (.int x1)] [.ref a0, .int x1] (by decide +kernel) rfl ?_
    refine i_gr (idx := 10) (ci := 10) (k := 0) (t := 2) (p := 12126) (pc' := 9) (by decide +kernel) h0 ?_
    refine i_gf (idx := 90) (ci := 8) (k := 1) (t := 0) (p := 11044) (pc' := 12) (by decide +kernel) (o_10_0 hN h0) ?_
    refine i_ic (c := .le) (off := 5) (t := 17) (pc' := 15) (p := x1 ≤ (m (sh_r a0 0) 1)) (by decide +kernel) rfl ?_ ?_
    · refine i_bl (pc' := 18) [(.aload_n 0, 1)] [some (.ref a0), some (.int x1)] [.ref a0] (by decide +kernel) rfl ?_
      refine i_gr (idx := 10) (ci := 10) (k := 0) (t := 2) (p := 12126) (pc' := 21) (by decide +kernel) h0 ?_
      refine i_bl (pc' := 22) [(.iload_n 1, 1)] [some (.ref a0), some (.int x1)] [.int x1, .ref (sh_r a0 0)] (by decide +kernel) rfl ?_
      refine i_pf (x := x1) (idx := 90) (ci := 8) (k := 1) (p := 11044) (pc' := 25) (by decide +kernel) (o_10_0 hN h0) (fun m1 => ?_)
      refine i_bl (pc' := 26) [(.iconst 1, 1)] [some (.ref a0), some (.int x1)] [.int 1] (by decide +kernel) rfl ?_
      exact i_rz (B := true) (by decide +kernel) rfl
    · refine i_bl (pc' := 16) [(.iconst 0, 1)] [some (.ref a0), some (.int x1)] [.int 0] (by decide +kernel) rfl ?_
      exact i_rz (B := false) (by decide +kernel) rfl

/-! 122 LanternChess.loadGame()I -/
noncomputable def d_122 (a0 : Nat) (m : Mm) : Option (Int32 × Mm) := (d_98 (sh_r a0 0) (sh_r a0 2) m).bind fun m1 => wb (wr m1 (sh_r a0 0) 1 0) fun m2 => if (m2 (sh_r a0 0) 2) = 0 then ((d_49 (sh_r a0 1) (sh_r a0 2) m2).bind fun m3 => (d_64 (sh_r a0 5) m3).bind fun m4 => wb (wr m4 a0 4 (bi false)) fun m5 => some (m5 (sh_r a0 0) 4, m5)) else (some ((-1), m2))
theorem t_122 {L nx : Nat} (hN : okn nx) {b z : Nat} {m : Mm} {a0 : Nat} (h0 : ok nx a0 10)   : Im (d_122 a0 m) (wI L nx) (ev_dn b z 122 0 [some (.ref a0)] [] (nx, mem L nx m)) := by
  unfold d_122
  refine i_bl (pc' := 1) [(.aload_n 0, 1)] [some (.ref a0)] [.ref a0] (by decide +kernel) rfl ?_
  refine i_gr (idx := 10) (ci := 10) (k := 0) (t := 2) (p := 12126) (pc' := 4) (by decide +kernel) h0 ?_
  refine i_bl (pc' := 5) [(.aload_n 0, 1)] [some (.ref a0)] [.ref a0, .ref (sh_r a0 0)] (by decide +kernel) rfl ?_
  refine i_gr (idx := 23) (ci := 10) (k := 2) (t := 2) (p := 12128) (pc' := 8) (by decide +kernel) h0 ?_
  refine i_cv (ci := 8) (t := 98) (na := 2) (ml := 5) (idx := 93) (pc' := 11) (st' := []) (en := [some (.ref (sh_r a0 0)), some (.ref (sh_r a0 2)), none, none, none]) (av := [.ref (sh_r a0 2)]) (vo := fun _ => none) (mo := fun m => m) (s2 := fun _ => []) (by decide +kernel) (by decide +kernel) (o_10_0 hN h0) ⟨rfl, rfl, rfl, rfl, rfl, rfl⟩ (fun _ => rfl) (t_98 hN (h0 := (o_10_0 hN h0)) (h1 := (o_10_2 hN h0))) (fun m1 => ?_)
  refine i_bl (pc' := 12) [(.aload_n 0, 1)] [some (.ref a0)] [.ref a0] (by decide +kernel) rfl ?_
  refine i_gr (idx := 10) (ci := 10) (k := 0) (t := 2) (p := 12126) (pc' := 15) (by decide +kernel) h0 ?_
  refine i_bl (pc' := 16) [(.iconst 0, 1)] [some (.ref a0)] [.int 0, .ref (sh_r a0 0)] (by decide +kernel) rfl ?_
  refine i_pf (x := 0) (idx := 90) (ci := 8) (k := 1) (p := 11044) (pc' := 19) (by decide +kernel) (o_10_0 hN h0) (fun m2 => ?_)
  refine i_bl (pc' := 20) [(.aload_n 0, 1)] [some (.ref a0)] [.ref a0] (by decide +kernel) rfl ?_
  refine i_gr (idx := 10) (ci := 10) (k := 0) (t := 2) (p := 12126) (pc' := 23) (by decide +kernel) h0 ?_
  refine i_gf (idx := 97) (ci := 8) (k := 2) (t := 0) (p := 11046) (pc' := 26) (by decide +kernel) (o_10_0 hN h0) ?_
  refine i_if (c := .eq) (off := 5) (t := 31) (pc' := 29) (p := (m2 (sh_r a0 0) 2) = 0) (by decide +kernel) rfl ?_ ?_
  · refine i_bl (pc' := 32) [(.aload_n 0, 1)] [some (.ref a0)] [.ref a0] (by decide +kernel) rfl ?_
    refine i_gr (idx := 19) (ci := 10) (k := 1) (t := 2) (p := 12127) (pc' := 35) (by decide +kernel) h0 ?_
    refine i_bl (pc' := 36) [(.aload_n 0, 1)] [some (.ref a0)] [.ref a0, .ref (sh_r a0 1)] (by decide +kernel) rfl ?_
    refine i_gr (idx := 23) (ci := 10) (k := 2) (t := 2) (p := 12128) (pc' := 39) (by decide +kernel) h0 ?_
    refine i_cv (ci := 3) (t := 49) (na := 2) (ml := 2) (idx := 100) (pc' := 42) (st' := []) (en := [some (.ref (sh_r a0 1)), some (.ref (sh_r a0 2))]) (av := [.ref (sh_r a0 2)]) (vo := fun _ => none) (mo := fun m => m) (s2 := fun _ => []) (by decide +kernel) (by decide +kernel) (o_10_1 hN h0) ⟨rfl, rfl, rfl, rfl, rfl, rfl⟩ (fun _ => rfl) (t_49 hN (h0 := (o_10_1 hN h0)) (h1 := (o_10_2 hN h0))) (fun m3 => ?_)
    refine i_bl (pc' := 43) [(.aload_n 0, 1)] [some (.ref a0)] [.ref a0] (by decide +kernel) rfl ?_
    refine i_gr (idx := 36) (ci := 10) (k := 5) (t := 2) (p := 12131) (pc' := 46) (by decide +kernel) h0 ?_
    refine i_cv (ci := 4) (t := 64) (na := 1) (ml := 1) (idx := 103) (pc' := 49) (st' := []) (en := [some (.ref (sh_r a0 5))]) (av := []) (vo := fun _ => none) (mo := fun m => m) (s2 := fun _ => []) (by decide +kernel) (by decide +kernel) (o_10_5 hN h0) ⟨rfl, rfl, rfl, rfl, rfl, rfl⟩ (fun _ => rfl) (t_64 hN (h0 := (o_10_5 hN h0))) (fun m4 => ?_)
    refine i_bl (pc' := 51) [(.aload_n 0, 1), (.iconst 0, 1)] [some (.ref a0)] [.int 0, .ref a0] (by decide +kernel) rfl ?_
    refine i_pz (B := false) (idx := 29) (ci := 10) (k := 4) (p := 12130) (pc' := 54) (by decide +kernel) h0 (fun m5 => ?_)
    refine i_bl (pc' := 55) [(.aload_n 0, 1)] [some (.ref a0)] [.ref a0] (by decide +kernel) rfl ?_
    refine i_gr (idx := 10) (ci := 10) (k := 0) (t := 2) (p := 12126) (pc' := 58) (by decide +kernel) h0 ?_
    refine i_gf (idx := 106) (ci := 8) (k := 4) (t := 0) (p := 11050) (pc' := 61) (by decide +kernel) (o_10_0 hN h0) ?_
    exact i_ri (by decide +kernel) rfl
  · refine i_bl (pc' := 30) [(.iconst (-1), 1)] [some (.ref a0)] [.int (-1)] (by decide +kernel) rfl ?_
    exact i_ri (by decide +kernel) rfl

/-! 123 LanternChess.errorCode()I -/
noncomputable def d_123 (a0 : Nat) (m : Mm) : Option Int32 := some (m (sh_r a0 0) 2)
theorem t_123 {L nx : Nat} (hN : okn nx) {b z : Nat} {m : Mm} {a0 : Nat} (h0 : ok nx a0 10)   : Im (d_123 a0 m) (kI L nx m) (ev_dn b z 123 0 [some (.ref a0)] [] (nx, mem L nx m)) := by
  unfold d_123
  refine i_bl (pc' := 1) [(.aload_n 0, 1)] [some (.ref a0)] [.ref a0] (by decide +kernel) rfl ?_
  refine i_gr (idx := 10) (ci := 10) (k := 0) (t := 2) (p := 12126) (pc' := 4) (by decide +kernel) h0 ?_
  refine i_gf (idx := 97) (ci := 8) (k := 2) (t := 0) (p := 11046) (pc' := 7) (by decide +kernel) (o_10_0 hN h0) ?_
  exact i_ri (by decide +kernel) rfl

/-! 124 LanternChess.errorOffset()I -/
noncomputable def d_124 (a0 : Nat) (m : Mm) : Option Int32 := some (m (sh_r a0 0) 3)
theorem t_124 {L nx : Nat} (hN : okn nx) {b z : Nat} {m : Mm} {a0 : Nat} (h0 : ok nx a0 10)   : Im (d_124 a0 m) (kI L nx m) (ev_dn b z 124 0 [some (.ref a0)] [] (nx, mem L nx m)) := by
  unfold d_124
  refine i_bl (pc' := 1) [(.aload_n 0, 1)] [some (.ref a0)] [.ref a0] (by decide +kernel) rfl ?_
  refine i_gr (idx := 10) (ci := 10) (k := 0) (t := 2) (p := 12126) (pc' := 4) (by decide +kernel) h0 ?_
  refine i_gf (idx := 109) (ci := 8) (k := 3) (t := 0) (p := 11048) (pc' := 7) (by decide +kernel) (o_10_0 hN h0) ?_
  exact i_ri (by decide +kernel) rfl

/-! 125 LanternChess.count(I)I -/
noncomputable def d_125 (a0 : Nat) (x1 : Int32) (m : Mm) : Option ((Int32 ⊕ Nat) × Mm) := (if x1 = 0 then (some (.inl (m (sh_r (sh_r (sh_r a0 1) 0) 0) 1), m)) else if x1 = 1 then (some (.inl (m (sh_r (sh_r (sh_r a0 1) 0) 0) 2), m)) else if x1 = 2 then (some (.inl (m (sh_r a0 1) 5), m)) else if x1 = 3 then (some (.inl (m (sh_r a0 1) 6), m)) else if x1 = 4 then (some (.inl (m (sh_r a0 1) 7), m)) else if x1 = 5 then (some (.inl (m (sh_r a0 1) 8), m)) else if x1 = 6 then (some (.inl (m (sh_r a0 1) 9), m)) else if x1 = 7 then (some (.inl (m (sh_r a0 1) 10), m)) else if x1 = 8 then (some (.inl (m (sh_r (sh_r a0 1) 2) 3), m)) else if x1 = 9 then (some (.inl (m (sh_r (sh_r a0 1) 0) 2), m)) else if x1 = 10 then (some (.inl (m (sh_r (sh_r a0 1) 1) 2), m)) else if x1 = 11 then (some (.inl (m (sh_r (sh_r a0 1) 4) 2), m)) else if x1 = 12 then (some (.inl (m (sh_r (sh_r a0 1) 3) 2), m)) else if x1 = 13 then (some (.inl (m (sh_r (sh_r a0 1) 3) 1), m)) else if x1 = 14 then (some (.inl (m (sh_r (sh_r a0 1) 4) 1), m)) else if x1 = 15 then (some (.inl (m (sh_r a0 5) 2), m)) else (some (.inr 0, m)))
theorem t_125 {L nx : Nat} (hN : okn nx) {b z : Nat} (hb : 1 ≤ b) (hz : 6 ≤ z) {m : Mm} {a0 : Nat} (h0 : ok nx a0 10) {x1 : Int32}  : Im (d_125 a0 x1 m) (eI L nx) (ev_dn b z 125 0 [some (.ref a0), some (.int x1)] [] (nx, mem L nx m)) := by
  unfold d_125
  refine i_bl (pc' := 1) [(.iload_n 1, 1)] [some (.ref a0), some (.int x1)] [.int x1] (by decide +kernel) rfl ?_
  refine i_sw (n := 79) (dd := (240)) (lo0 := (0)) (hi0 := (15)) (offs := #[(79), (93), (107), (115), (123), (131), (139), (147), (155), (166), (177), (188), (199), (210), (221), (232)]) (d := 241) (ts := [80, 94, 108, 116, 124, 132, 140, 148, 156, 167, 178, 189, 200, 211, 222, 233]) (cs := [(0, 80), (1, 94), (2, 108), (3, 116), (4, 124), (5, 132), (6, 140), (7, 148), (8, 156), (9, 167), (10, 178), (11, 189), (12, 200), (13, 211), (14, 222), (15, 233)]) (by decide +kernel) ?_
  refine i_sc (c := 0) (by decide +kernel) ?_ ?_
  · refine i_bl (pc' := 81) [(.aload_n 0, 1)] [some (.ref a0), some (.int x1)] [.ref a0] (by decide +kernel) rfl ?_
    refine i_gr (idx := 19) (ci := 10) (k := 1) (t := 2) (p := 12127) (pc' := 84) (by decide +kernel) h0 ?_
    refine i_gr (idx := 112) (ci := 3) (k := 0) (t := 2) (p := 11175) (pc' := 87) (by decide +kernel) (o_10_1 hN h0) ?_
    refine i_gr (idx := 116) (ci := 0) (k := 0) (t := 2) (p := 11114) (pc' := 90) (by decide +kernel) (o_3_0 hN (o_10_1 hN h0)) ?_
    refine i_gf (idx := 122) (ci := 1) (k := 1) (t := 0) (p := 11099) (pc' := 93) (by decide +kernel) (o_0_0 hN (o_3_0 hN (o_10_1 hN h0))) ?_
    exact i_ri (by decide +kernel) rfl
  refine i_sc (c := 1) (by decide +kernel) ?_ ?_
  · refine i_bl (pc' := 95) [(.aload_n 0, 1)] [some (.ref a0), some (.int x1)] [.ref a0] (by decide +kernel) rfl ?_
    refine i_gr (idx := 19) (ci := 10) (k := 1) (t := 2) (p := 12127) (pc' := 98) (by decide +kernel) h0 ?_
    refine i_gr (idx := 112) (ci := 3) (k := 0) (t := 2) (p := 11175) (pc' := 101) (by decide +kernel) (o_10_1 hN h0) ?_
    refine i_gr (idx := 116) (ci := 0) (k := 0) (t := 2) (p := 11114) (pc' := 104) (by decide +kernel) (o_3_0 hN (o_10_1 hN h0)) ?_
    refine i_gf (idx := 125) (ci := 1) (k := 2) (t := 0) (p := 11102) (pc' := 107) (by decide +kernel) (o_0_0 hN (o_3_0 hN (o_10_1 hN h0))) ?_
    exact i_ri (by decide +kernel) rfl
  refine i_sc (c := 2) (by decide +kernel) ?_ ?_
  · refine i_bl (pc' := 109) [(.aload_n 0, 1)] [some (.ref a0), some (.int x1)] [.ref a0] (by decide +kernel) rfl ?_
    refine i_gr (idx := 19) (ci := 10) (k := 1) (t := 2) (p := 12127) (pc' := 112) (by decide +kernel) h0 ?_
    refine i_gf (idx := 128) (ci := 3) (k := 5) (t := 0) (p := 11186) (pc' := 115) (by decide +kernel) (o_10_1 hN h0) ?_
    exact i_ri (by decide +kernel) rfl
  refine i_sc (c := 3) (by decide +kernel) ?_ ?_
  · refine i_bl (pc' := 117) [(.aload_n 0, 1)] [some (.ref a0), some (.int x1)] [.ref a0] (by decide +kernel) rfl ?_
    refine i_gr (idx := 19) (ci := 10) (k := 1) (t := 2) (p := 12127) (pc' := 120) (by decide +kernel) h0 ?_
    refine i_gf (idx := 131) (ci := 3) (k := 6) (t := 0) (p := 11188) (pc' := 123) (by decide +kernel) (o_10_1 hN h0) ?_
    exact i_ri (by decide +kernel) rfl
  refine i_sc (c := 4) (by decide +kernel) ?_ ?_
  · refine i_bl (pc' := 125) [(.aload_n 0, 1)] [some (.ref a0), some (.int x1)] [.ref a0] (by decide +kernel) rfl ?_
    refine i_gr (idx := 19) (ci := 10) (k := 1) (t := 2) (p := 12127) (pc' := 128) (by decide +kernel) h0 ?_
    refine i_gf (idx := 134) (ci := 3) (k := 7) (t := 0) (p := 11190) (pc' := 131) (by decide +kernel) (o_10_1 hN h0) ?_
    exact i_ri (by decide +kernel) rfl
  refine i_sc (c := 5) (by decide +kernel) ?_ ?_
  · refine i_bl (pc' := 133) [(.aload_n 0, 1)] [some (.ref a0), some (.int x1)] [.ref a0] (by decide +kernel) rfl ?_
    refine i_gr (idx := 19) (ci := 10) (k := 1) (t := 2) (p := 12127) (pc' := 136) (by decide +kernel) h0 ?_
    refine i_gf (idx := 137) (ci := 3) (k := 8) (t := 0) (p := 11193) (pc' := 139) (by decide +kernel) (o_10_1 hN h0) ?_
    exact i_ri (by decide +kernel) rfl
  refine i_sc (c := 6) (by decide +kernel) ?_ ?_
  · refine i_bl (pc' := 141) [(.aload_n 0, 1)] [some (.ref a0), some (.int x1)] [.ref a0] (by decide +kernel) rfl ?_
    refine i_gr (idx := 19) (ci := 10) (k := 1) (t := 2) (p := 12127) (pc' := 144) (by decide +kernel) h0 ?_
    refine i_gf (idx := 140) (ci := 3) (k := 9) (t := 0) (p := 11196) (pc' := 147) (by decide +kernel) (o_10_1 hN h0) ?_
    exact i_ri (by decide +kernel) rfl
  refine i_sc (c := 7) (by decide +kernel) ?_ ?_
  · refine i_bl (pc' := 149) [(.aload_n 0, 1)] [some (.ref a0), some (.int x1)] [.ref a0] (by decide +kernel) rfl ?_
    refine i_gr (idx := 19) (ci := 10) (k := 1) (t := 2) (p := 12127) (pc' := 152) (by decide +kernel) h0 ?_
    refine i_gf (idx := 143) (ci := 3) (k := 10) (t := 0) (p := 11199) (pc' := 155) (by decide +kernel) (o_10_1 hN h0) ?_
    exact i_ri (by decide +kernel) rfl
  refine i_sc (c := 8) (by decide +kernel) ?_ ?_
  · refine i_bl (pc' := 157) [(.aload_n 0, 1)] [some (.ref a0), some (.int x1)] [.ref a0] (by decide +kernel) rfl ?_
    refine i_gr (idx := 19) (ci := 10) (k := 1) (t := 2) (p := 12127) (pc' := 160) (by decide +kernel) h0 ?_
    refine i_gr (idx := 146) (ci := 3) (k := 2) (t := 2) (p := 11180) (pc' := 163) (by decide +kernel) (o_10_1 hN h0) ?_
    refine i_gf (idx := 150) (ci := 2) (k := 3) (t := 0) (p := 11145) (pc' := 166) (by decide +kernel) (o_3_2 hN (o_10_1 hN h0)) ?_
    exact i_ri (by decide +kernel) rfl
  refine i_sc (c := 9) (by decide +kernel) ?_ ?_
  · refine i_bl (pc' := 168) [(.aload_n 0, 1)] [some (.ref a0), some (.int x1)] [.ref a0] (by decide +kernel) rfl ?_
    refine i_gr (idx := 19) (ci := 10) (k := 1) (t := 2) (p := 12127) (pc' := 171) (by decide +kernel) h0 ?_
    refine i_gr (idx := 112) (ci := 3) (k := 0) (t := 2) (p := 11175) (pc' := 174) (by decide +kernel) (o_10_1 hN h0) ?_
    refine i_gf (idx := 155) (ci := 0) (k := 2) (t := 0) (p := 11117) (pc' := 177) (by decide +kernel) (o_3_0 hN (o_10_1 hN h0)) ?_
    exact i_ri (by decide +kernel) rfl
  refine i_sc (c := 10) (by decide +kernel) ?_ ?_
  · refine i_bl (pc' := 179) [(.aload_n 0, 1)] [some (.ref a0), some (.int x1)] [.ref a0] (by decide +kernel) rfl ?_
    refine i_gr (idx := 19) (ci := 10) (k := 1) (t := 2) (p := 12127) (pc' := 182) (by decide +kernel) h0 ?_
    refine i_gr (idx := 158) (ci := 3) (k := 1) (t := 2) (p := 11177) (pc' := 185) (by decide +kernel) (o_10_1 hN h0) ?_
    refine i_gf (idx := 155) (ci := 0) (k := 2) (t := 0) (p := 11117) (pc' := 188) (by decide +kernel) (o_3_1 hN (o_10_1 hN h0)) ?_
    exact i_ri (by decide +kernel) rfl
  refine i_sc (c := 11) (by decide +kernel) ?_ ?_
  · refine i_bl (pc' := 190) [(.aload_n 0, 1)] [some (.ref a0), some (.int x1)] [.ref a0] (by decide +kernel) rfl ?_
    refine i_gr (idx := 19) (ci := 10) (k := 1) (t := 2) (p := 12127) (pc' := 193) (by decide +kernel) h0 ?_
    refine i_gr (idx := 161) (ci := 3) (k := 4) (t := 2) (p := 11184) (pc' := 196) (by decide +kernel) (o_10_1 hN h0) ?_
    refine i_gf (idx := 165) (ci := 5) (k := 2) (t := 0) (p := 11165) (pc' := 199) (by decide +kernel) (o_3_4 hN (o_10_1 hN h0)) ?_
    exact i_ri (by decide +kernel) rfl
  refine i_sc (c := 12) (by decide +kernel) ?_ ?_
  · refine i_bl (pc' := 201) [(.aload_n 0, 1)] [some (.ref a0), some (.int x1)] [.ref a0] (by decide +kernel) rfl ?_
    refine i_gr (idx := 19) (ci := 10) (k := 1) (t := 2) (p := 12127) (pc' := 204) (by decide +kernel) h0 ?_
    refine i_gr (idx := 170) (ci := 3) (k := 3) (t := 2) (p := 11182) (pc' := 207) (by decide +kernel) (o_10_1 hN h0) ?_
    refine i_gf (idx := 165) (ci := 5) (k := 2) (t := 0) (p := 11165) (pc' := 210) (by decide +kernel) (o_3_3 hN (o_10_1 hN h0)) ?_
    exact i_ri (by decide +kernel) rfl
  refine i_sc (c := 13) (by decide +kernel) ?_ ?_
  · refine i_bl (pc' := 212) [(.aload_n 0, 1)] [some (.ref a0), some (.int x1)] [.ref a0] (by decide +kernel) rfl ?_
    refine i_gr (idx := 19) (ci := 10) (k := 1) (t := 2) (p := 12127) (pc' := 215) (by decide +kernel) h0 ?_
    refine i_gr (idx := 170) (ci := 3) (k := 3) (t := 2) (p := 11182) (pc' := 218) (by decide +kernel) (o_10_1 hN h0) ?_
    refine i_gf (idx := 173) (ci := 5) (k := 1) (t := 0) (p := 11163) (pc' := 221) (by decide +kernel) (o_3_3 hN (o_10_1 hN h0)) ?_
    exact i_ri (by decide +kernel) rfl
  refine i_sc (c := 14) (by decide +kernel) ?_ ?_
  · refine i_bl (pc' := 223) [(.aload_n 0, 1)] [some (.ref a0), some (.int x1)] [.ref a0] (by decide +kernel) rfl ?_
    refine i_gr (idx := 19) (ci := 10) (k := 1) (t := 2) (p := 12127) (pc' := 226) (by decide +kernel) h0 ?_
    refine i_gr (idx := 161) (ci := 3) (k := 4) (t := 2) (p := 11184) (pc' := 229) (by decide +kernel) (o_10_1 hN h0) ?_
    refine i_gf (idx := 173) (ci := 5) (k := 1) (t := 0) (p := 11163) (pc' := 232) (by decide +kernel) (o_3_4 hN (o_10_1 hN h0)) ?_
    exact i_ri (by decide +kernel) rfl
  refine i_sc (c := 15) (by decide +kernel) ?_ ?_
  · refine i_bl (pc' := 234) [(.aload_n 0, 1)] [some (.ref a0), some (.int x1)] [.ref a0] (by decide +kernel) rfl ?_
    refine i_gr (idx := 36) (ci := 10) (k := 5) (t := 2) (p := 12131) (pc' := 237) (by decide +kernel) h0 ?_
    refine i_gf (idx := 176) (ci := 4) (k := 2) (t := 0) (p := 12001) (pc' := 240) (by decide +kernel) (o_10_5 hN h0) ?_
    exact i_ri (by decide +kernel) rfl
  refine i_s0 ?_
  exact i_th (i := .new 177) (k := 3) (by decide +kernel) ⟨by omega, by omega⟩ rfl

/-! 175 LanternChess.needSide(I)V -/
noncomputable def d_175 (x0 : Int32) (m : Mm) : Option ((Unit ⊕ Nat) × Mm) := if x0 = 0 then (some (.inl (), m)) else (if x0 = 1 then (some (.inl (), m)) else (some (.inr 1, m)))
theorem t_175 {L nx : Nat} (hN : okn nx) {b z : Nat} (hb : 1 ≤ b) (hz : 6 ≤ z) {m : Mm}  {x0 : Int32}  : Im (d_175 x0 m) (eV L nx) (ev_dn b z 175 0 [some (.int x0)] [] (nx, mem L nx m)) := by
  unfold d_175
  refine i_bl (pc' := 1) [(.iload_n 0, 1)] [some (.int x0)] [.int x0] (by decide +kernel) rfl ?_
  refine i_if (c := .eq) (off := 19) (t := 20) (pc' := 4) (p := x0 = 0) (by decide +kernel) rfl ?_ ?_
  · exact i_rv (by decide +kernel) rfl
  · refine i_bl (pc' := 6) [(.iload_n 0, 1), (.iconst 1, 1)] [some (.int x0)] [.int 1, .int x0] (by decide +kernel) rfl ?_
    refine i_ic (c := .eq) (off := 14) (t := 20) (pc' := 9) (p := x0 = 1) (by decide +kernel) rfl ?_ ?_
    · exact i_rv (by decide +kernel) rfl
    · exact i_th (i := .new 402) (k := 3) (by decide +kernel) ⟨by omega, by omega⟩ rfl

/-! 126 LanternChess.clock(I)I -/
noncomputable def d_126 (a0 : Nat) (x1 : Int32) (m : Mm) : Option ((Int32 ⊕ Nat) × Mm) := bE (d_175 x1 m) (fun _ m1 => (d_52 (sh_r a0 1) x1 m1).bind fun v3 => some (.inl v3, m1)) (fun e4 m1 => some (.inr e4, m1))
theorem t_126 {L nx : Nat} (hN : okn nx) {b z : Nat} (hb : 1 ≤ b) (hz : 6 ≤ z) {m : Mm} {a0 : Nat} (h0 : ok nx a0 10) {x1 : Int32}  : Im (d_126 a0 x1 m) (eI L nx) (ev_dn b z 126 0 [some (.ref a0), some (.int x1)] [] (nx, mem L nx m)) := by
  unfold d_126
  refine i_bl (pc' := 1) [(.iload_n 1, 1)] [some (.ref a0), some (.int x1)] [.int x1] (by decide +kernel) rfl ?_
  refine i_es (t := 175) (na := 1) (ml := 1) (idx := 184) (pc' := 4) (st' := []) (en := [some (.int x1)]) (av := [.int x1]) (k1 := 1) (k2 := 6) (vo := fun _ => none) (s2 := fun _ => []) (by decide +kernel) ⟨rfl, rfl, rfl, rfl, rfl, rfl⟩ ⟨by omega, by omega⟩ (fun _ => rfl) (t_175 hN (b := 1) (z := 6) (by decide) (by decide) ) (fun _ m1 => ?_) (fun e4 m1 => ?_)
  · refine i_bl (pc' := 5) [(.aload_n 0, 1)] [some (.ref a0), some (.int x1)] [.ref a0] (by decide +kernel) rfl ?_
    refine i_gr (idx := 19) (ci := 10) (k := 1) (t := 2) (p := 12127) (pc' := 8) (by decide +kernel) h0 ?_
    refine i_bl (pc' := 9) [(.iload_n 1, 1)] [some (.ref a0), some (.int x1)] [.int x1, .ref (sh_r a0 1)] (by decide +kernel) rfl ?_
    refine i_cv (ci := 3) (t := 52) (na := 2) (ml := 2) (idx := 187) (pc' := 12) (st' := []) (en := [some (.ref (sh_r a0 1)), some (.int x1)]) (av := [.int x1]) (vo := fun v => some (.int v)) (mo := fun _ => m1) (s2 := fun v => .int v :: []) (by decide +kernel) (by decide +kernel) (o_10_1 hN h0) ⟨rfl, rfl, rfl, rfl, rfl, rfl⟩ (fun _ => rfl) (t_52 hN (h0 := (o_10_1 hN h0))) (fun v3 => ?_)
    exact i_ri (by decide +kernel) rfl
  · exact i_h0 (by decide +kernel) rfl

/-! 178 LanternChess.needCell(II)V -/
noncomputable def d_178 (a0 : Nat) (x1 : Int32) (x2 : Int32) (m : Mm) : Option ((Unit ⊕ Nat) × Mm) := (d_15 (sh_r (sh_r (sh_r a0 1) 0) 0) x1 x2 m).bind fun v1 => if v1 = true then (some (.inl (), m)) else (some (.inr 0, m))
theorem t_178 {L nx : Nat} (hN : okn nx) {b z : Nat} (hb : 1 ≤ b) (hz : 6 ≤ z) {m : Mm} {a0 : Nat} (h0 : ok nx a0 10) {x1 : Int32} {x2 : Int32}  : Im (d_178 a0 x1 x2 m) (eV L nx) (ev_dn b z 178 0 [some (.ref a0), some (.int x1), some (.int x2)] [] (nx, mem L nx m)) := by
  unfold d_178
  refine i_bl (pc' := 1) [(.aload_n 0, 1)] [some (.ref a0), some (.int x1), some (.int x2)] [.ref a0] (by decide +kernel) rfl ?_
  refine i_gr (idx := 19) (ci := 10) (k := 1) (t := 2) (p := 12127) (pc' := 4) (by decide +kernel) h0 ?_
  refine i_gr (idx := 112) (ci := 3) (k := 0) (t := 2) (p := 11175) (pc' := 7) (by decide +kernel) (o_10_1 hN h0) ?_
  refine i_gr (idx := 116) (ci := 0) (k := 0) (t := 2) (p := 11114) (pc' := 10) (by decide +kernel) (o_3_0 hN (o_10_1 hN h0)) ?_
  refine i_bl (pc' := 12) [(.iload_n 1, 1), (.iload_n 2, 1)] [some (.ref a0), some (.int x1), some (.int x2)] [.int x2, .int x1, .ref (sh_r (sh_r (sh_r a0 1) 0) 0)] (by decide +kernel) rfl ?_
  refine i_cv (ci := 1) (t := 15) (na := 3) (ml := 3) (idx := 411) (pc' := 15) (st' := []) (en := [some (.ref (sh_r (sh_r (sh_r a0 1) 0) 0)), some (.int x1), some (.int x2)]) (av := [.int x1, .int x2]) (vo := fun v => some (.int (bi v))) (mo := fun _ => m) (s2 := fun v => .int (bi v) :: []) (by decide +kernel) (by decide +kernel) (o_0_0 hN (o_3_0 hN (o_10_1 hN h0))) ⟨rfl, rfl, rfl, rfl, rfl, rfl⟩ (fun _ => rfl) (t_15 hN (h0 := (o_0_0 hN (o_3_0 hN (o_10_1 hN h0))))) (fun v1 => ?_)
  refine i_bn (off := 14) (t := 29) (pc' := 18) (by decide +kernel) ?_ ?_
  · exact i_rv (by decide +kernel) rfl
  · exact i_th (i := .new 177) (k := 3) (by decide +kernel) ⟨by omega, by omega⟩ rfl

/-! 127 LanternChess.piece(III)I -/
noncomputable def d_127 (a0 : Nat) (x1 : Int32) (x2 : Int32) (x3 : Int32) (m : Mm) : Option ((Int32 ⊕ Nat) × Mm) := bE (d_175 x1 m) (fun _ m1 => bE (d_178 a0 x2 x3 m1) (fun _ m3 => (d_51 (sh_r a0 1) x1).bind fun v5 => (d_12 x2 x3).bind fun v7 => (d_17 (sh_r v5 0) v7 m3).bind fun v8 => some (.inl v8, m3)) (fun e9 m3 => some (.inr e9, m3))) (fun e10 m1 => some (.inr e10, m1))
theorem t_127 {L nx : Nat} (hN : okn nx) {b z : Nat} (hb : 2 ≤ b) (hz : 12 ≤ z) {m : Mm} {a0 : Nat} (h0 : ok nx a0 10) {x1 : Int32} {x2 : Int32} {x3 : Int32}  : Im (d_127 a0 x1 x2 x3 m) (eI L nx) (ev_dn b z 127 0 [some (.ref a0), some (.int x1), some (.int x2), some (.int x3)] [] (nx, mem L nx m)) := by
  unfold d_127
  refine i_bl (pc' := 1) [(.iload_n 1, 1)] [some (.ref a0), some (.int x1), some (.int x2), some (.int x3)] [.int x1] (by decide +kernel) rfl ?_
  refine i_es (t := 175) (na := 1) (ml := 1) (idx := 184) (pc' := 4) (st' := []) (en := [some (.int x1)]) (av := [.int x1]) (k1 := 1) (k2 := 6) (vo := fun _ => none) (s2 := fun _ => []) (by decide +kernel) ⟨rfl, rfl, rfl, rfl, rfl, rfl⟩ ⟨by omega, by omega⟩ (fun _ => rfl) (t_175 hN (b := 1) (z := 6) (by decide) (by decide) ) (fun _ m1 => ?_) (fun e10 m1 => ?_)
  · refine i_bl (pc' := 7) [(.aload_n 0, 1), (.iload_n 2, 1), (.iload_n 3, 1)] [some (.ref a0), some (.int x1), some (.int x2), some (.int x3)] [.int x3, .int x2, .ref a0] (by decide +kernel) rfl ?_
    refine i_ev (ci := 10) (t := 178) (na := 3) (ml := 3) (idx := 191) (pc' := 10) (st' := []) (en := [some (.ref a0), some (.int x2), some (.int x3)]) (av := [.int x2, .int x3]) (k1 := 1) (k2 := 6) (vo := fun _ => none) (s2 := fun _ => []) (by decide +kernel) (by decide +kernel) h0 ⟨rfl, rfl, rfl, rfl, rfl, rfl⟩ ⟨by omega, by omega⟩ (fun _ => rfl) (t_178 hN (b := 1) (z := 6) (by decide) (by decide) (h0 := h0)) (fun _ m3 => ?_) (fun e9 m3 => ?_)
    · refine i_bl (pc' := 11) [(.aload_n 0, 1)] [some (.ref a0), some (.int x1), some (.int x2), some (.int x3)] [.ref a0] (by decide +kernel) rfl ?_
      refine i_gr (idx := 19) (ci := 10) (k := 1) (t := 2) (p := 12127) (pc' := 14) (by decide +kernel) h0 ?_
      refine i_bl (pc' := 15) [(.iload_n 1, 1)] [some (.ref a0), some (.int x1), some (.int x2), some (.int x3)] [.int x1, .ref (sh_r a0 1)] (by decide +kernel) rfl ?_
      refine i_cA (cr := 0) (ci := 3) (t := 51) (na := 2) (ml := 2) (idx := 194) (pc' := 18) (st' := []) (en := [some (.ref (sh_r a0 1)), some (.int x1)]) (av := [.int x1]) (s2 := fun v => .ref v :: []) (by decide +kernel) (by decide +kernel) (o_10_1 hN h0) ⟨rfl, rfl, rfl, rfl, rfl, rfl⟩ (fun _ => rfl) (t_51 hN (h0 := (o_10_1 hN h0))) (fun v5 hr6 => ?_)
      refine i_gr (idx := 116) (ci := 0) (k := 0) (t := 2) (p := 11114) (pc' := 21) (by decide +kernel) hr6 ?_
      refine i_bl (pc' := 23) [(.iload_n 2, 1), (.iload_n 3, 1)] [some (.ref a0), some (.int x1), some (.int x2), some (.int x3)] [.int x3, .int x2, .ref (sh_r v5 0)] (by decide +kernel) rfl ?_
      refine i_cs (t := 12) (na := 2) (ml := 2) (idx := 73) (pc' := 26) (st' := [.ref (sh_r v5 0)]) (en := [some (.int x2), some (.int x3)]) (av := [.int x2, .int x3]) (vo := fun v => some (.int v)) (mo := fun _ => m3) (s2 := fun v => .int v :: [.ref (sh_r v5 0)]) (by decide +kernel) ⟨rfl, rfl, rfl, rfl, rfl, rfl⟩ (fun _ => rfl) (t_12 hN ) (fun v7 => ?_)
      refine i_cv (ci := 1) (t := 17) (na := 2) (ml := 2) (idx := 198) (pc' := 29) (st' := []) (en := [some (.ref (sh_r v5 0)), some (.int v7)]) (av := [.int v7]) (vo := fun v => some (.int v)) (mo := fun _ => m3) (s2 := fun v => .int v :: []) (by decide +kernel) (by decide +kernel) (o_0_0 hN hr6) ⟨rfl, rfl, rfl, rfl, rfl, rfl⟩ (fun _ => rfl) (t_17 hN (h0 := (o_0_0 hN hr6))) (fun v8 => ?_)
      exact i_ri (by decide +kernel) rfl
    · exact i_h0 (by decide +kernel) rfl
  · exact i_h0 (by decide +kernel) rfl

/-! 179 LanternChess.needCells(IIII)V -/
noncomputable def d_179 (a0 : Nat) (x1 : Int32) (x2 : Int32) (x3 : Int32) (x4 : Int32) (m : Mm) : Option ((Unit ⊕ Nat) × Mm) := bE (d_178 a0 x1 x2 m) (fun _ m1 => bE (d_178 a0 x3 x4 m1) (fun _ m3 => some (.inl (), m3)) (fun e5 m3 => some (.inr e5, m3))) (fun e6 m1 => some (.inr e6, m1))
theorem t_179 {L nx : Nat} (hN : okn nx) {b z : Nat} (hb : 2 ≤ b) (hz : 12 ≤ z) {m : Mm} {a0 : Nat} (h0 : ok nx a0 10) {x1 : Int32} {x2 : Int32} {x3 : Int32} {x4 : Int32}  : Im (d_179 a0 x1 x2 x3 x4 m) (eV L nx) (ev_dn b z 179 0 [some (.ref a0), some (.int x1), some (.int x2), some (.int x3), some (.int x4)] [] (nx, mem L nx m)) := by
  unfold d_179
  refine i_bl (pc' := 3) [(.aload_n 0, 1), (.iload_n 1, 1), (.iload_n 2, 1)] [some (.ref a0), some (.int x1), some (.int x2), some (.int x3), some (.int x4)] [.int x2, .int x1, .ref a0] (by decide +kernel) rfl ?_
  refine i_ev (ci := 10) (t := 178) (na := 3) (ml := 3) (idx := 191) (pc' := 6) (st' := []) (en := [some (.ref a0), some (.int x1), some (.int x2)]) (av := [.int x1, .int x2]) (k1 := 1) (k2 := 6) (vo := fun _ => none) (s2 := fun _ => []) (by decide +kernel) (by decide +kernel) h0 ⟨rfl, rfl, rfl, rfl, rfl, rfl⟩ ⟨by omega, by omega⟩ (fun _ => rfl) (t_178 hN (b := 1) (z := 6) (by decide) (by decide) (h0 := h0)) (fun _ m1 => ?_) (fun e6 m1 => ?_)
  · refine i_bl (pc' := 10) [(.aload_n 0, 1), (.iload_n 3, 1), (.iload 4, 2)] [some (.ref a0), some (.int x1), some (.int x2), some (.int x3), some (.int x4)] [.int x4, .int x3, .ref a0] (by decide +kernel) rfl ?_
    refine i_ev (ci := 10) (t := 178) (na := 3) (ml := 3) (idx := 191) (pc' := 13) (st' := []) (en := [some (.ref a0), some (.int x3), some (.int x4)]) (av := [.int x3, .int x4]) (k1 := 1) (k2 := 6) (vo := fun _ => none) (s2 := fun _ => []) (by decide +kernel) (by decide +kernel) h0 ⟨rfl, rfl, rfl, rfl, rfl, rfl⟩ ⟨by omega, by omega⟩ (fun _ => rfl) (t_178 hN (b := 1) (z := 6) (by decide) (by decide) (h0 := h0)) (fun _ m3 => ?_) (fun e5 m3 => ?_)
    · exact i_rv (by decide +kernel) rfl
    · exact i_h0 (by decide +kernel) rfl
  · exact i_h0 (by decide +kernel) rfl

/-! 128 LanternChess.isMove(IIIIII)Z -/
noncomputable def d_128 (a0 : Nat) (x1 : Int32) (x2 : Int32) (x3 : Int32) (x4 : Int32) (x5 : Int32) (x6 : Int32) (m : Mm) : Option ((Bool ⊕ Nat) × Mm) := bE (d_175 x1 m) (fun _ m1 => bE (d_175 x2 m1) (fun _ m3 => bE (d_179 a0 x3 x4 x5 x6 m3) (fun _ m5 => (d_51 (sh_r a0 1) x1).bind fun v7 => (d_12 x3 x4).bind fun v9 => (d_12 x5 x6).bind fun v10 => (d_21 (sh_r v7 0) x2 v9 v10 m5).bind fun v11 => some (.inl v11, m5)) (fun e12 m5 => some (.inr e12, m5))) (fun e13 m3 => some (.inr e13, m3))) (fun e14 m1 => some (.inr e14, m1))
theorem t_128 {L nx : Nat} (hN : okn nx) {b z : Nat} (hb : 4 ≤ b) (hz : 24 ≤ z) {m : Mm} {a0 : Nat} (h0 : ok nx a0 10) {x1 : Int32} {x2 : Int32} {x3 : Int32} {x4 : Int32} {x5 : Int32} {x6 : Int32}  : Im (d_128 a0 x1 x2 x3 x4 x5 x6 m) (eZ L nx) (ev_dn b z 128 0 [some (.ref a0), some (.int x1), some (.int x2), some (.int x3), some (.int x4), some (.int x5), some (.int x6)] [] (nx, mem L nx m)) := by
  unfold d_128
  refine i_bl (pc' := 1) [(.iload_n 1, 1)] [some (.ref a0), some (.int x1), some (.int x2), some (.int x3), some (.int x4), some (.int x5), some (.int x6)] [.int x1] (by decide +kernel) rfl ?_
  refine i_es (t := 175) (na := 1) (ml := 1) (idx := 184) (pc' := 4) (st' := []) (en := [some (.int x1)]) (av := [.int x1]) (k1 := 1) (k2 := 6) (vo := fun _ => none) (s2 := fun _ => []) (by decide +kernel) ⟨rfl, rfl, rfl, rfl, rfl, rfl⟩ ⟨by omega, by omega⟩ (fun _ => rfl) (t_175 hN (b := 1) (z := 6) (by decide) (by decide) ) (fun _ m1 => ?_) (fun e14 m1 => ?_)
  · refine i_bl (pc' := 5) [(.iload_n 2, 1)] [some (.ref a0), some (.int x1), some (.int x2), some (.int x3), some (.int x4), some (.int x5), some (.int x6)] [.int x2] (by decide +kernel) rfl ?_
    refine i_es (t := 175) (na := 1) (ml := 1) (idx := 184) (pc' := 8) (st' := []) (en := [some (.int x2)]) (av := [.int x2]) (k1 := 1) (k2 := 6) (vo := fun _ => none) (s2 := fun _ => []) (by decide +kernel) ⟨rfl, rfl, rfl, rfl, rfl, rfl⟩ ⟨by omega, by omega⟩ (fun _ => rfl) (t_175 hN (b := 1) (z := 6) (by decide) (by decide) ) (fun _ m3 => ?_) (fun e13 m3 => ?_)
    · refine i_bl (pc' := 16) [(.aload_n 0, 1), (.iload_n 3, 1), (.iload 4, 2), (.iload 5, 2), (.iload 6, 2)] [some (.ref a0), some (.int x1), some (.int x2), some (.int x3), some (.int x4), some (.int x5), some (.int x6)] [.int x6, .int x5, .int x4, .int x3, .ref a0] (by decide +kernel) rfl ?_
      refine i_ev (ci := 10) (t := 179) (na := 5) (ml := 5) (idx := 201) (pc' := 19) (st' := []) (en := [some (.ref a0), some (.int x3), some (.int x4), some (.int x5), some (.int x6)]) (av := [.int x3, .int x4, .int x5, .int x6]) (k1 := 2) (k2 := 12) (vo := fun _ => none) (s2 := fun _ => []) (by decide +kernel) (by decide +kernel) h0 ⟨rfl, rfl, rfl, rfl, rfl, rfl⟩ ⟨by omega, by omega⟩ (fun _ => rfl) (t_179 hN (b := 2) (z := 12) (by decide) (by decide) (h0 := h0)) (fun _ m5 => ?_) (fun e12 m5 => ?_)
      · refine i_bl (pc' := 20) [(.aload_n 0, 1)] [some (.ref a0), some (.int x1), some (.int x2), some (.int x3), some (.int x4), some (.int x5), some (.int x6)] [.ref a0] (by decide +kernel) rfl ?_
        refine i_gr (idx := 19) (ci := 10) (k := 1) (t := 2) (p := 12127) (pc' := 23) (by decide +kernel) h0 ?_
        refine i_bl (pc' := 24) [(.iload_n 1, 1)] [some (.ref a0), some (.int x1), some (.int x2), some (.int x3), some (.int x4), some (.int x5), some (.int x6)] [.int x1, .ref (sh_r a0 1)] (by decide +kernel) rfl ?_
        refine i_cA (cr := 0) (ci := 3) (t := 51) (na := 2) (ml := 2) (idx := 194) (pc' := 27) (st' := []) (en := [some (.ref (sh_r a0 1)), some (.int x1)]) (av := [.int x1]) (s2 := fun v => .ref v :: []) (by decide +kernel) (by decide +kernel) (o_10_1 hN h0) ⟨rfl, rfl, rfl, rfl, rfl, rfl⟩ (fun _ => rfl) (t_51 hN (h0 := (o_10_1 hN h0))) (fun v7 hr8 => ?_)
        refine i_gr (idx := 116) (ci := 0) (k := 0) (t := 2) (p := 11114) (pc' := 30) (by decide +kernel) hr8 ?_
        refine i_bl (pc' := 34) [(.iload_n 2, 1), (.iload_n 3, 1), (.iload 4, 2)] [some (.ref a0), some (.int x1), some (.int x2), some (.int x3), some (.int x4), some (.int x5), some (.int x6)] [.int x4, .int x3, .int x2, .ref (sh_r v7 0)] (by decide +kernel) rfl ?_
        refine i_cs (t := 12) (na := 2) (ml := 2) (idx := 73) (pc' := 37) (st' := [.int x2, .ref (sh_r v7 0)]) (en := [some (.int x3), some (.int x4)]) (av := [.int x3, .int x4]) (vo := fun v => some (.int v)) (mo := fun _ => m5) (s2 := fun v => .int v :: [.int x2, .ref (sh_r v7 0)]) (by decide +kernel) ⟨rfl, rfl, rfl, rfl, rfl, rfl⟩ (fun _ => rfl) (t_12 hN ) (fun v9 => ?_)
        refine i_bl (pc' := 41) [(.iload 5, 2), (.iload 6, 2)] [some (.ref a0), some (.int x1), some (.int x2), some (.int x3), some (.int x4), some (.int x5), some (.int x6)] [.int x6, .int x5, .int v9, .int x2, .ref (sh_r v7 0)] (by decide +kernel) rfl ?_
        refine i_cs (t := 12) (na := 2) (ml := 2) (idx := 73) (pc' := 44) (st' := [.int v9, .int x2, .ref (sh_r v7 0)]) (en := [some (.int x5), some (.int x6)]) (av := [.int x5, .int x6]) (vo := fun v => some (.int v)) (mo := fun _ => m5) (s2 := fun v => .int v :: [.int v9, .int x2, .ref (sh_r v7 0)]) (by decide +kernel) ⟨rfl, rfl, rfl, rfl, rfl, rfl⟩ (fun _ => rfl) (t_12 hN ) (fun v10 => ?_)
        refine i_cv (ci := 1) (t := 21) (na := 4) (ml := 6) (idx := 205) (pc' := 47) (st' := []) (en := [some (.ref (sh_r v7 0)), some (.int x2), some (.int v9), some (.int v10), none, none]) (av := [.int x2, .int v9, .int v10]) (vo := fun v => some (.int (bi v))) (mo := fun _ => m5) (s2 := fun v => .int (bi v) :: []) (by decide +kernel) (by decide +kernel) (o_0_0 hN hr8) ⟨rfl, rfl, rfl, rfl, rfl, rfl⟩ (fun _ => rfl) (t_21 hN (h0 := (o_0_0 hN hr8))) (fun v11 => ?_)
        exact i_rz (B := v11) (by decide +kernel) rfl
      · exact i_h0 (by decide +kernel) rfl
    · exact i_h0 (by decide +kernel) rfl
  · exact i_h0 (by decide +kernel) rfl

/-! 129 LanternChess.moves(II)I -/
noncomputable def d_129 (a0 : Nat) (x1 : Int32) (x2 : Int32) (m : Mm) : Option ((Int32 ⊕ Nat) × Mm) := bE (d_175 x1 m) (fun _ m1 => bE (d_175 x2 m1) (fun _ m3 => (d_51 (sh_r a0 1) x1).bind fun v5 => (d_75 (sh_r a0 7) (sh_r v5 0) x2 m3).bind fun m7 => some (.inl (m7 (sh_r a0 7) 4), m7)) (fun e8 m3 => some (.inr e8, m3))) (fun e9 m1 => some (.inr e9, m1))
theorem t_129 {L nx : Nat} (hN : okn nx) {b z : Nat} (hb : 2 ≤ b) (hz : 12 ≤ z) {m : Mm} {a0 : Nat} (h0 : ok nx a0 10) {x1 : Int32} {x2 : Int32}  : Im (d_129 a0 x1 x2 m) (eI L nx) (ev_dn b z 129 0 [some (.ref a0), some (.int x1), some (.int x2)] [] (nx, mem L nx m)) := by
  unfold d_129
  refine i_bl (pc' := 1) [(.iload_n 1, 1)] [some (.ref a0), some (.int x1), some (.int x2)] [.int x1] (by decide +kernel) rfl ?_
  refine i_es (t := 175) (na := 1) (ml := 1) (idx := 184) (pc' := 4) (st' := []) (en := [some (.int x1)]) (av := [.int x1]) (k1 := 1) (k2 := 6) (vo := fun _ => none) (s2 := fun _ => []) (by decide +kernel) ⟨rfl, rfl, rfl, rfl, rfl, rfl⟩ ⟨by omega, by omega⟩ (fun _ => rfl) (t_175 hN (b := 1) (z := 6) (by decide) (by decide) ) (fun _ m1 => ?_) (fun e9 m1 => ?_)
  · refine i_bl (pc' := 5) [(.iload_n 2, 1)] [some (.ref a0), some (.int x1), some (.int x2)] [.int x2] (by decide +kernel) rfl ?_
    refine i_es (t := 175) (na := 1) (ml := 1) (idx := 184) (pc' := 8) (st' := []) (en := [some (.int x2)]) (av := [.int x2]) (k1 := 1) (k2 := 6) (vo := fun _ => none) (s2 := fun _ => []) (by decide +kernel) ⟨rfl, rfl, rfl, rfl, rfl, rfl⟩ ⟨by omega, by omega⟩ (fun _ => rfl) (t_175 hN (b := 1) (z := 6) (by decide) (by decide) ) (fun _ m3 => ?_) (fun e8 m3 => ?_)
    · refine i_bl (pc' := 9) [(.aload_n 0, 1)] [some (.ref a0), some (.int x1), some (.int x2)] [.ref a0] (by decide +kernel) rfl ?_
      refine i_gr (idx := 50) (ci := 10) (k := 7) (t := 2) (p := 12133) (pc' := 12) (by decide +kernel) h0 ?_
      refine i_bl (pc' := 13) [(.aload_n 0, 1)] [some (.ref a0), some (.int x1), some (.int x2)] [.ref a0, .ref (sh_r a0 7)] (by decide +kernel) rfl ?_
      refine i_gr (idx := 19) (ci := 10) (k := 1) (t := 2) (p := 12127) (pc' := 16) (by decide +kernel) h0 ?_
      refine i_bl (pc' := 17) [(.iload_n 1, 1)] [some (.ref a0), some (.int x1), some (.int x2)] [.int x1, .ref (sh_r a0 1), .ref (sh_r a0 7)] (by decide +kernel) rfl ?_
      refine i_cA (cr := 0) (ci := 3) (t := 51) (na := 2) (ml := 2) (idx := 194) (pc' := 20) (st' := [.ref (sh_r a0 7)]) (en := [some (.ref (sh_r a0 1)), some (.int x1)]) (av := [.int x1]) (s2 := fun v => .ref v :: [.ref (sh_r a0 7)]) (by decide +kernel) (by decide +kernel) (o_10_1 hN h0) ⟨rfl, rfl, rfl, rfl, rfl, rfl⟩ (fun _ => rfl) (t_51 hN (h0 := (o_10_1 hN h0))) (fun v5 hr6 => ?_)
      refine i_gr (idx := 116) (ci := 0) (k := 0) (t := 2) (p := 11114) (pc' := 23) (by decide +kernel) hr6 ?_
      refine i_bl (pc' := 24) [(.iload_n 2, 1)] [some (.ref a0), some (.int x1), some (.int x2)] [.int x2, .ref (sh_r v5 0), .ref (sh_r a0 7)] (by decide +kernel) rfl ?_
      refine i_cv (ci := 6) (t := 75) (na := 3) (ml := 4) (idx := 209) (pc' := 27) (st' := []) (en := [some (.ref (sh_r a0 7)), some (.ref (sh_r v5 0)), some (.int x2), none]) (av := [.ref (sh_r v5 0), .int x2]) (vo := fun _ => none) (mo := fun m => m) (s2 := fun _ => []) (by decide +kernel) (by decide +kernel) (o_10_7 hN h0) ⟨rfl, rfl, rfl, rfl, rfl, rfl⟩ (fun _ => rfl) (t_75 hN (h0 := (o_10_7 hN h0)) (h1 := (o_0_0 hN hr6))) (fun m7 => ?_)
      refine i_bl (pc' := 28) [(.aload_n 0, 1)] [some (.ref a0), some (.int x1), some (.int x2)] [.ref a0] (by decide +kernel) rfl ?_
      refine i_gr (idx := 50) (ci := 10) (k := 7) (t := 2) (p := 12133) (pc' := 31) (by decide +kernel) h0 ?_
      refine i_gf (idx := 213) (ci := 6) (k := 4) (t := 0) (p := 12063) (pc' := 34) (by decide +kernel) (o_10_7 hN h0) ?_
      exact i_ri (by decide +kernel) rfl
    · exact i_h0 (by decide +kernel) rfl
  · exact i_h0 (by decide +kernel) rfl

/-! 176 LanternChess.needIndex(II)V -/
noncomputable def d_176_9 (m : Mm) : Option ((Unit ⊕ Nat) × Mm) := some (.inr 1, m)
theorem t_176_9 {L nx : Nat} (hN : okn nx) {b z : Nat} (hb : 1 ≤ b) (hz : 6 ≤ z) {m : Mm}   {o0 : Option Value} {o1 : Option Value} : Im (d_176_9 m) (eV L nx) (ev_dn b z 176 9 [o0, o1] [] (nx, mem L nx m)) := by
  unfold d_176_9
  exact i_th (i := .new 402) (k := 3) (by decide +kernel) ⟨by omega, by omega⟩ rfl

noncomputable def d_176 (x0 : Int32) (x1 : Int32) (m : Mm) : Option ((Unit ⊕ Nat) × Mm) := if x0 < 0 then (d_176_9 m) else (if x0 < x1 then (some (.inl (), m)) else (d_176_9 m))
theorem t_176 {L nx : Nat} (hN : okn nx) {b z : Nat} (hb : 1 ≤ b) (hz : 6 ≤ z) {m : Mm}  {x0 : Int32} {x1 : Int32}  : Im (d_176 x0 x1 m) (eV L nx) (ev_dn b z 176 0 [some (.int x0), some (.int x1)] [] (nx, mem L nx m)) := by
  unfold d_176
  refine i_bl (pc' := 1) [(.iload_n 0, 1)] [some (.int x0), some (.int x1)] [.int x0] (by decide +kernel) rfl ?_
  refine i_if (c := .lt) (off := 8) (t := 9) (pc' := 4) (p := x0 < 0) (by decide +kernel) rfl ?_ ?_
  · exact t_176_9 hN (by omega) (by omega) 
  · refine i_bl (pc' := 6) [(.iload_n 0, 1), (.iload_n 1, 1)] [some (.int x0), some (.int x1)] [.int x1, .int x0] (by decide +kernel) rfl ?_
    refine i_ic (c := .lt) (off := 14) (t := 20) (pc' := 9) (p := x0 < x1) (by decide +kernel) rfl ?_ ?_
    · exact i_rv (by decide +kernel) rfl
    · exact t_176_9 hN (by omega) (by omega) 

/-! 177 LanternChess.needRange(III)V -/
noncomputable def d_177_10 (m : Mm) : Option ((Unit ⊕ Nat) × Mm) := some (.inr 0, m)
theorem t_177_10 {L nx : Nat} (hN : okn nx) {b z : Nat} (hb : 1 ≤ b) (hz : 6 ≤ z) {m : Mm}   {o0 : Option Value} {o1 : Option Value} {o2 : Option Value} : Im (d_177_10 m) (eV L nx) (ev_dn b z 177 10 [o0, o1, o2] [] (nx, mem L nx m)) := by
  unfold d_177_10
  exact i_th (i := .new 177) (k := 3) (by decide +kernel) ⟨by omega, by omega⟩ rfl

noncomputable def d_177 (x0 : Int32) (x1 : Int32) (x2 : Int32) (m : Mm) : Option ((Unit ⊕ Nat) × Mm) := if x0 < x1 then (d_177_10 m) else (if x0 ≤ x2 then (some (.inl (), m)) else (d_177_10 m))
theorem t_177 {L nx : Nat} (hN : okn nx) {b z : Nat} (hb : 1 ≤ b) (hz : 6 ≤ z) {m : Mm}  {x0 : Int32} {x1 : Int32} {x2 : Int32}  : Im (d_177 x0 x1 x2 m) (eV L nx) (ev_dn b z 177 0 [some (.int x0), some (.int x1), some (.int x2)] [] (nx, mem L nx m)) := by
  unfold d_177
  refine i_bl (pc' := 2) [(.iload_n 0, 1), (.iload_n 1, 1)] [some (.int x0), some (.int x1), some (.int x2)] [.int x1, .int x0] (by decide +kernel) rfl ?_
  refine i_ic (c := .lt) (off := 8) (t := 10) (pc' := 5) (p := x0 < x1) (by decide +kernel) rfl ?_ ?_
  · exact t_177_10 hN (by omega) (by omega) 
  · refine i_bl (pc' := 7) [(.iload_n 0, 1), (.iload_n 2, 1)] [some (.int x0), some (.int x1), some (.int x2)] [.int x2, .int x0] (by decide +kernel) rfl ?_
    refine i_ic (c := .le) (off := 14) (t := 21) (pc' := 10) (p := x0 ≤ x2) (by decide +kernel) rfl ?_ ?_
    · exact i_rv (by decide +kernel) rfl
    · exact t_177_10 hN (by omega) (by omega) 

/-! 132 LanternChess.moveInfo(LLanternChess$Field;III)I -/
noncomputable def d_132 (a0 : Nat) (a1 : Nat) (x2 : Int32) (x3 : Int32) (x4 : Int32) (m : Mm) : Option (Int32 × Mm) := (d_77 (sh_r a0 7) x3 m).bind fun v1 => (d_78 (sh_r a0 7) x3 m).bind fun v2 => (if x4 = 0 then ((d_16 a1 v1 m).bind fun v3 => some (v3, m)) else if x4 = 1 then ((d_16 a1 v2 m).bind fun v4 => some (v4, m)) else if x4 = 2 then ((d_27 a1 v1 v2 m).bind fun v5 => some (v5, m)) else ((d_79 (sh_r a0 7) a1 x2 v1 v2 m).bind fun r6 => some (r6.1, r6.2)))
theorem t_132 {L nx : Nat} (hN : okn nx) {b z : Nat} {m : Mm} {a0 : Nat} (h0 : ok nx a0 10) {a1 : Nat} (h1 : ok nx a1 1) {x2 : Int32} {x3 : Int32} {x4 : Int32}  : Im (d_132 a0 a1 x2 x3 x4 m) (wI L nx) (ev_dn b z 132 0 [some (.ref a0), some (.ref a1), some (.int x2), some (.int x3), some (.int x4), none, none] [] (nx, mem L nx m)) := by
  unfold d_132
  refine i_bl (pc' := 1) [(.aload_n 0, 1)] [some (.ref a0), some (.ref a1), some (.int x2), some (.int x3), some (.int x4), none, none] [.ref a0] (by decide +kernel) rfl ?_
  refine i_gr (idx := 50) (ci := 10) (k := 7) (t := 2) (p := 12133) (pc' := 4) (by decide +kernel) h0 ?_
  refine i_bl (pc' := 5) [(.iload_n 3, 1)] [some (.ref a0), some (.ref a1), some (.int x2), some (.int x3), some (.int x4), none, none] [.int x3, .ref (sh_r a0 7)] (by decide +kernel) rfl ?_
  refine i_cv (ci := 6) (t := 77) (na := 2) (ml := 2) (idx := 231) (pc' := 8) (st' := []) (en := [some (.ref (sh_r a0 7)), some (.int x3)]) (av := [.int x3]) (vo := fun v => some (.int v)) (mo := fun _ => m) (s2 := fun v => .int v :: []) (by decide +kernel) (by decide +kernel) (o_10_7 hN h0) ⟨rfl, rfl, rfl, rfl, rfl, rfl⟩ (fun _ => rfl) (t_77 hN (h0 := (o_10_7 hN h0))) (fun v1 => ?_)
  refine i_bl (pc' := 11) [(.istore 5, 2), (.aload_n 0, 1)] [some (.ref a0), some (.ref a1), some (.int x2), some (.int x3), some (.int x4), some (.int v1), none] [.ref a0] (by decide +kernel) rfl ?_
  refine i_gr (idx := 50) (ci := 10) (k := 7) (t := 2) (p := 12133) (pc' := 14) (by decide +kernel) h0 ?_
  refine i_bl (pc' := 15) [(.iload_n 3, 1)] [some (.ref a0), some (.ref a1), some (.int x2), some (.int x3), some (.int x4), some (.int v1), none] [.int x3, .ref (sh_r a0 7)] (by decide +kernel) rfl ?_
  refine i_cv (ci := 6) (t := 78) (na := 2) (ml := 2) (idx := 234) (pc' := 18) (st' := []) (en := [some (.ref (sh_r a0 7)), some (.int x3)]) (av := [.int x3]) (vo := fun v => some (.int v)) (mo := fun _ => m) (s2 := fun v => .int v :: []) (by decide +kernel) (by decide +kernel) (o_10_7 hN h0) ⟨rfl, rfl, rfl, rfl, rfl, rfl⟩ (fun _ => rfl) (t_78 hN (h0 := (o_10_7 hN h0))) (fun v2 => ?_)
  refine i_bl (pc' := 22) [(.istore 6, 2), (.iload 4, 2)] [some (.ref a0), some (.ref a1), some (.int x2), some (.int x3), some (.int x4), some (.int v1), some (.int v2)] [.int x4] (by decide +kernel) rfl ?_
  refine i_sw (n := 26) (dd := (49)) (lo0 := (0)) (hi0 := (2)) (offs := #[(26), (33), (40)]) (d := 71) (ts := [48, 55, 62]) (cs := [(0, 48), (1, 55), (2, 62)]) (by decide +kernel) ?_
  refine i_sc (c := 0) (by decide +kernel) ?_ ?_
  · refine i_bl (pc' := 51) [(.aload_n 1, 1), (.iload 5, 2)] [some (.ref a0), some (.ref a1), some (.int x2), some (.int x3), some (.int x4), some (.int v1), some (.int v2)] [.int v1, .ref a1] (by decide +kernel) rfl ?_
    refine i_cv (ci := 1) (t := 16) (na := 2) (ml := 2) (idx := 237) (pc' := 54) (st' := []) (en := [some (.ref a1), some (.int v1)]) (av := [.int v1]) (vo := fun v => some (.int v)) (mo := fun _ => m) (s2 := fun v => .int v :: []) (by decide +kernel) (by decide +kernel) h1 ⟨rfl, rfl, rfl, rfl, rfl, rfl⟩ (fun _ => rfl) (t_16 hN (h0 := h1)) (fun v3 => ?_)
    exact i_ri (by decide +kernel) rfl
  refine i_sc (c := 1) (by decide +kernel) ?_ ?_
  · refine i_bl (pc' := 58) [(.aload_n 1, 1), (.iload 6, 2)] [some (.ref a0), some (.ref a1), some (.int x2), some (.int x3), some (.int x4), some (.int v1), some (.int v2)] [.int v2, .ref a1] (by decide +kernel) rfl ?_
    refine i_cv (ci := 1) (t := 16) (na := 2) (ml := 2) (idx := 237) (pc' := 61) (st' := []) (en := [some (.ref a1), some (.int v2)]) (av := [.int v2]) (vo := fun v => some (.int v)) (mo := fun _ => m) (s2 := fun v => .int v :: []) (by decide +kernel) (by decide +kernel) h1 ⟨rfl, rfl, rfl, rfl, rfl, rfl⟩ (fun _ => rfl) (t_16 hN (h0 := h1)) (fun v4 => ?_)
    exact i_ri (by decide +kernel) rfl
  refine i_sc (c := 2) (by decide +kernel) ?_ ?_
  · refine i_bl (pc' := 67) [(.aload_n 1, 1), (.iload 5, 2), (.iload 6, 2)] [some (.ref a0), some (.ref a1), some (.int x2), some (.int x3), some (.int x4), some (.int v1), some (.int v2)] [.int v2, .int v1, .ref a1] (by decide +kernel) rfl ?_
    refine i_cv (ci := 1) (t := 27) (na := 3) (ml := 3) (idx := 240) (pc' := 70) (st' := []) (en := [some (.ref a1), some (.int v1), some (.int v2)]) (av := [.int v1, .int v2]) (vo := fun v => some (.int v)) (mo := fun _ => m) (s2 := fun v => .int v :: []) (by decide +kernel) (by decide +kernel) h1 ⟨rfl, rfl, rfl, rfl, rfl, rfl⟩ (fun _ => rfl) (t_27 hN (h0 := h1)) (fun v5 => ?_)
    exact i_ri (by decide +kernel) rfl
  refine i_s0 ?_
  refine i_bl (pc' := 72) [(.aload_n 0, 1)] [some (.ref a0), some (.ref a1), some (.int x2), some (.int x3), some (.int x4), some (.int v1), some (.int v2)] [.ref a0] (by decide +kernel) rfl ?_
  refine i_gr (idx := 50) (ci := 10) (k := 7) (t := 2) (p := 12133) (pc' := 75) (by decide +kernel) h0 ?_
  refine i_bl (pc' := 81) [(.aload_n 1, 1), (.iload_n 2, 1), (.iload 5, 2), (.iload 6, 2)] [some (.ref a0), some (.ref a1), some (.int x2), some (.int x3), some (.int x4), some (.int v1), some (.int v2)] [.int v2, .int v1, .int x2, .ref a1, .ref (sh_r a0 7)] (by decide +kernel) rfl ?_
  refine i_cv (ci := 6) (t := 79) (na := 5) (ml := 6) (idx := 243) (pc' := 84) (st' := []) (en := [some (.ref (sh_r a0 7)), some (.ref a1), some (.int x2), some (.int v1), some (.int v2), none]) (av := [.ref a1, .int x2, .int v1, .int v2]) (vo := fun v => some (.int v.1)) (mo := fun v => v.2) (s2 := fun v => .int v.1 :: []) (by decide +kernel) (by decide +kernel) (o_10_7 hN h0) ⟨rfl, rfl, rfl, rfl, rfl, rfl⟩ (fun _ => rfl) (t_79 hN (h0 := (o_10_7 hN h0)) (h1 := h1)) (fun r6 => ?_)
  exact i_ri (by decide +kernel) rfl

/-! 130 LanternChess.move(IIII)I -/
noncomputable def d_130 (a0 : Nat) (x1 : Int32) (x2 : Int32) (x3 : Int32) (x4 : Int32) (m : Mm) : Option ((Int32 ⊕ Nat) × Mm) := bE (d_175 x1 m) (fun _ m1 => bE (d_175 x2 m1) (fun _ m3 => (d_51 (sh_r a0 1) x1).bind fun v5 => (d_75 (sh_r a0 7) (sh_r v5 0) x2 m3).bind fun m7 => bE (d_176 x3 (m7 (sh_r a0 7) 4) m7) (fun _ m8 => bE (d_177 x4 0 3 m8) (fun _ m10 => (d_132 a0 (sh_r v5 0) x2 x3 x4 m10).bind fun r12 => some (.inl r12.1, r12.2)) (fun e13 m10 => some (.inr e13, m10))) (fun e14 m8 => some (.inr e14, m8))) (fun e15 m3 => some (.inr e15, m3))) (fun e16 m1 => some (.inr e16, m1))
theorem t_130 {L nx : Nat} (hN : okn nx) {b z : Nat} (hb : 4 ≤ b) (hz : 24 ≤ z) {m : Mm} {a0 : Nat} (h0 : ok nx a0 10) {x1 : Int32} {x2 : Int32} {x3 : Int32} {x4 : Int32}  : Im (d_130 a0 x1 x2 x3 x4 m) (eI L nx) (ev_dn b z 130 0 [some (.ref a0), some (.int x1), some (.int x2), some (.int x3), some (.int x4), none] [] (nx, mem L nx m)) := by
  unfold d_130
  refine i_bl (pc' := 1) [(.iload_n 1, 1)] [some (.ref a0), some (.int x1), some (.int x2), some (.int x3), some (.int x4), none] [.int x1] (by decide +kernel) rfl ?_
  refine i_es (t := 175) (na := 1) (ml := 1) (idx := 184) (pc' := 4) (st' := []) (en := [some (.int x1)]) (av := [.int x1]) (k1 := 1) (k2 := 6) (vo := fun _ => none) (s2 := fun _ => []) (by decide +kernel) ⟨rfl, rfl, rfl, rfl, rfl, rfl⟩ ⟨by omega, by omega⟩ (fun _ => rfl) (t_175 hN (b := 1) (z := 6) (by decide) (by decide) ) (fun _ m1 => ?_) (fun e16 m1 => ?_)
  · refine i_bl (pc' := 5) [(.iload_n 2, 1)] [some (.ref a0), some (.int x1), some (.int x2), some (.int x3), some (.int x4), none] [.int x2] (by decide +kernel) rfl ?_
    refine i_es (t := 175) (na := 1) (ml := 1) (idx := 184) (pc' := 8) (st' := []) (en := [some (.int x2)]) (av := [.int x2]) (k1 := 1) (k2 := 6) (vo := fun _ => none) (s2 := fun _ => []) (by decide +kernel) ⟨rfl, rfl, rfl, rfl, rfl, rfl⟩ ⟨by omega, by omega⟩ (fun _ => rfl) (t_175 hN (b := 1) (z := 6) (by decide) (by decide) ) (fun _ m3 => ?_) (fun e15 m3 => ?_)
    · refine i_bl (pc' := 9) [(.aload_n 0, 1)] [some (.ref a0), some (.int x1), some (.int x2), some (.int x3), some (.int x4), none] [.ref a0] (by decide +kernel) rfl ?_
      refine i_gr (idx := 19) (ci := 10) (k := 1) (t := 2) (p := 12127) (pc' := 12) (by decide +kernel) h0 ?_
      refine i_bl (pc' := 13) [(.iload_n 1, 1)] [some (.ref a0), some (.int x1), some (.int x2), some (.int x3), some (.int x4), none] [.int x1, .ref (sh_r a0 1)] (by decide +kernel) rfl ?_
      refine i_cA (cr := 0) (ci := 3) (t := 51) (na := 2) (ml := 2) (idx := 194) (pc' := 16) (st' := []) (en := [some (.ref (sh_r a0 1)), some (.int x1)]) (av := [.int x1]) (s2 := fun v => .ref v :: []) (by decide +kernel) (by decide +kernel) (o_10_1 hN h0) ⟨rfl, rfl, rfl, rfl, rfl, rfl⟩ (fun _ => rfl) (t_51 hN (h0 := (o_10_1 hN h0))) (fun v5 hr6 => ?_)
      refine i_gr (idx := 116) (ci := 0) (k := 0) (t := 2) (p := 11114) (pc' := 19) (by decide +kernel) hr6 ?_
      refine i_bl (pc' := 22) [(.astore 5, 2), (.aload_n 0, 1)] [some (.ref a0), some (.int x1), some (.int x2), some (.int x3), some (.int x4), some (.ref (sh_r v5 0))] [.ref a0] (by decide +kernel) rfl ?_
      refine i_gr (idx := 50) (ci := 10) (k := 7) (t := 2) (p := 12133) (pc' := 25) (by decide +kernel) h0 ?_
      refine i_bl (pc' := 28) [(.aload 5, 2), (.iload_n 2, 1)] [some (.ref a0), some (.int x1), some (.int x2), some (.int x3), some (.int x4), some (.ref (sh_r v5 0))] [.int x2, .ref (sh_r v5 0), .ref (sh_r a0 7)] (by decide +kernel) rfl ?_
      refine i_cv (ci := 6) (t := 75) (na := 3) (ml := 4) (idx := 209) (pc' := 31) (st' := []) (en := [some (.ref (sh_r a0 7)), some (.ref (sh_r v5 0)), some (.int x2), none]) (av := [.ref (sh_r v5 0), .int x2]) (vo := fun _ => none) (mo := fun m => m) (s2 := fun _ => []) (by decide +kernel) (by decide +kernel) (o_10_7 hN h0) ⟨rfl, rfl, rfl, rfl, rfl, rfl⟩ (fun _ => rfl) (t_75 hN (h0 := (o_10_7 hN h0)) (h1 := (o_0_0 hN hr6))) (fun m7 => ?_)
      refine i_bl (pc' := 33) [(.iload_n 3, 1), (.aload_n 0, 1)] [some (.ref a0), some (.int x1), some (.int x2), some (.int x3), some (.int x4), some (.ref (sh_r v5 0))] [.ref a0, .int x3] (by decide +kernel) rfl ?_
      refine i_gr (idx := 50) (ci := 10) (k := 7) (t := 2) (p := 12133) (pc' := 36) (by decide +kernel) h0 ?_
      refine i_gf (idx := 213) (ci := 6) (k := 4) (t := 0) (p := 12063) (pc' := 39) (by decide +kernel) (o_10_7 hN h0) ?_
      refine i_es (t := 176) (na := 2) (ml := 2) (idx := 214) (pc' := 42) (st' := []) (en := [some (.int x3), some (.int (m7 (sh_r a0 7) 4))]) (av := [.int x3, .int (m7 (sh_r a0 7) 4)]) (k1 := 1) (k2 := 6) (vo := fun _ => none) (s2 := fun _ => []) (by decide +kernel) ⟨rfl, rfl, rfl, rfl, rfl, rfl⟩ ⟨by omega, by omega⟩ (fun _ => rfl) (t_176 hN (b := 1) (z := 6) (by decide) (by decide) ) (fun _ m8 => ?_) (fun e14 m8 => ?_)
      · refine i_bl (pc' := 46) [(.iload 4, 2), (.iconst 0, 1), (.iconst 3, 1)] [some (.ref a0), some (.int x1), some (.int x2), some (.int x3), some (.int x4), some (.ref (sh_r v5 0))] [.int 3, .int 0, .int x4] (by decide +kernel) rfl ?_
        refine i_es (t := 177) (na := 3) (ml := 3) (idx := 217) (pc' := 49) (st' := []) (en := [some (.int x4), some (.int 0), some (.int 3)]) (av := [.int x4, .int 0, .int 3]) (k1 := 1) (k2 := 6) (vo := fun _ => none) (s2 := fun _ => []) (by decide +kernel) ⟨rfl, rfl, rfl, rfl, rfl, rfl⟩ ⟨by omega, by omega⟩ (fun _ => rfl) (t_177 hN (b := 1) (z := 6) (by decide) (by decide) ) (fun _ m10 => ?_) (fun e13 m10 => ?_)
        · refine i_bl (pc' := 56) [(.aload_n 0, 1), (.aload 5, 2), (.iload_n 2, 1), (.iload_n 3, 1), (.iload 4, 2)] [some (.ref a0), some (.int x1), some (.int x2), some (.int x3), some (.int x4), some (.ref (sh_r v5 0))] [.int x4, .int x3, .int x2, .ref (sh_r v5 0), .ref a0] (by decide +kernel) rfl ?_
          refine i_cv (ci := 10) (t := 132) (na := 5) (ml := 7) (idx := 221) (pc' := 59) (st' := []) (en := [some (.ref a0), some (.ref (sh_r v5 0)), some (.int x2), some (.int x3), some (.int x4), none, none]) (av := [.ref (sh_r v5 0), .int x2, .int x3, .int x4]) (vo := fun v => some (.int v.1)) (mo := fun v => v.2) (s2 := fun v => .int v.1 :: []) (by decide +kernel) (by decide +kernel) h0 ⟨rfl, rfl, rfl, rfl, rfl, rfl⟩ (fun _ => rfl) (t_132 hN (h0 := h0) (h1 := (o_0_0 hN hr6))) (fun r12 => ?_)
          exact i_ri (by decide +kernel) rfl
        · exact i_h0 (by decide +kernel) rfl
      · exact i_h0 (by decide +kernel) rfl
    · exact i_h0 (by decide +kernel) rfl
  · exact i_h0 (by decide +kernel) rfl

/-! 131 LanternChess.ranked(II)I -/
noncomputable def d_131 (a0 : Nat) (x1 : Int32) (x2 : Int32) (m : Mm) : Option ((Int32 ⊕ Nat) × Mm) := (d_51 (sh_r a0 1) (m (sh_r a0 1) 6)).bind fun v1 => (d_75 (sh_r a0 7) (sh_r v1 0) (m (sh_r a0 1) 6) m).bind fun m3 => bE (d_176 x1 (m3 (sh_r a0 7) 4) m3) (fun _ m4 => bE (d_177 x2 0 3 m4) (fun _ m6 => (d_80 (sh_r a0 7) (sh_r v1 0) (m6 (sh_r a0 1) 6) m6).bind fun m8 => (d_81 (sh_r a0 7) x1 m8).bind fun v9 => (d_132 a0 (sh_r v1 0) (m8 (sh_r a0 1) 6) v9 x2 m8).bind fun r10 => some (.inl r10.1, r10.2)) (fun e11 m6 => some (.inr e11, m6))) (fun e12 m4 => some (.inr e12, m4))
theorem t_131 {L nx : Nat} (hN : okn nx) {b z : Nat} (hb : 2 ≤ b) (hz : 12 ≤ z) {m : Mm} {a0 : Nat} (h0 : ok nx a0 10) {x1 : Int32} {x2 : Int32}  : Im (d_131 a0 x1 x2 m) (eI L nx) (ev_dn b z 131 0 [some (.ref a0), some (.int x1), some (.int x2), none] [] (nx, mem L nx m)) := by
  unfold d_131
  refine i_bl (pc' := 1) [(.aload_n 0, 1)] [some (.ref a0), some (.int x1), some (.int x2), none] [.ref a0] (by decide +kernel) rfl ?_
  refine i_gr (idx := 19) (ci := 10) (k := 1) (t := 2) (p := 12127) (pc' := 4) (by decide +kernel) h0 ?_
  refine i_bl (pc' := 5) [(.aload_n 0, 1)] [some (.ref a0), some (.int x1), some (.int x2), none] [.ref a0, .ref (sh_r a0 1)] (by decide +kernel) rfl ?_
  refine i_gr (idx := 19) (ci := 10) (k := 1) (t := 2) (p := 12127) (pc' := 8) (by decide +kernel) h0 ?_
  refine i_gf (idx := 131) (ci := 3) (k := 6) (t := 0) (p := 11188) (pc' := 11) (by decide +kernel) (o_10_1 hN h0) ?_
  refine i_cA (cr := 0) (ci := 3) (t := 51) (na := 2) (ml := 2) (idx := 194) (pc' := 14) (st' := []) (en := [some (.ref (sh_r a0 1)), some (.int (m (sh_r a0 1) 6))]) (av := [.int (m (sh_r a0 1) 6)]) (s2 := fun v => .ref v :: []) (by decide +kernel) (by decide +kernel) (o_10_1 hN h0) ⟨rfl, rfl, rfl, rfl, rfl, rfl⟩ (fun _ => rfl) (t_51 hN (h0 := (o_10_1 hN h0))) (fun v1 hr2 => ?_)
  refine i_gr (idx := 116) (ci := 0) (k := 0) (t := 2) (p := 11114) (pc' := 17) (by decide +kernel) hr2 ?_
  refine i_bl (pc' := 19) [(.astore_n 3, 1), (.aload_n 0, 1)] [some (.ref a0), some (.int x1), some (.int x2), some (.ref (sh_r v1 0))] [.ref a0] (by decide +kernel) rfl ?_
  refine i_gr (idx := 50) (ci := 10) (k := 7) (t := 2) (p := 12133) (pc' := 22) (by decide +kernel) h0 ?_
  refine i_bl (pc' := 24) [(.aload_n 3, 1), (.aload_n 0, 1)] [some (.ref a0), some (.int x1), some (.int x2), some (.ref (sh_r v1 0))] [.ref a0, .ref (sh_r v1 0), .ref (sh_r a0 7)] (by decide +kernel) rfl ?_
  refine i_gr (idx := 19) (ci := 10) (k := 1) (t := 2) (p := 12127) (pc' := 27) (by decide +kernel) h0 ?_
  refine i_gf (idx := 131) (ci := 3) (k := 6) (t := 0) (p := 11188) (pc' := 30) (by decide +kernel) (o_10_1 hN h0) ?_
  refine i_cv (ci := 6) (t := 75) (na := 3) (ml := 4) (idx := 209) (pc' := 33) (st' := []) (en := [some (.ref (sh_r a0 7)), some (.ref (sh_r v1 0)), some (.int (m (sh_r a0 1) 6)), none]) (av := [.ref (sh_r v1 0), .int (m (sh_r a0 1) 6)]) (vo := fun _ => none) (mo := fun m => m) (s2 := fun _ => []) (by decide +kernel) (by decide +kernel) (o_10_7 hN h0) ⟨rfl, rfl, rfl, rfl, rfl, rfl⟩ (fun _ => rfl) (t_75 hN (h0 := (o_10_7 hN h0)) (h1 := (o_0_0 hN hr2))) (fun m3 => ?_)
  refine i_bl (pc' := 35) [(.iload_n 1, 1), (.aload_n 0, 1)] [some (.ref a0), some (.int x1), some (.int x2), some (.ref (sh_r v1 0))] [.ref a0, .int x1] (by decide +kernel) rfl ?_
  refine i_gr (idx := 50) (ci := 10) (k := 7) (t := 2) (p := 12133) (pc' := 38) (by decide +kernel) h0 ?_
  refine i_gf (idx := 213) (ci := 6) (k := 4) (t := 0) (p := 12063) (pc' := 41) (by decide +kernel) (o_10_7 hN h0) ?_
  refine i_es (t := 176) (na := 2) (ml := 2) (idx := 214) (pc' := 44) (st' := []) (en := [some (.int x1), some (.int (m3 (sh_r a0 7) 4))]) (av := [.int x1, .int (m3 (sh_r a0 7) 4)]) (k1 := 1) (k2 := 6) (vo := fun _ => none) (s2 := fun _ => []) (by decide +kernel) ⟨rfl, rfl, rfl, rfl, rfl, rfl⟩ ⟨by omega, by omega⟩ (fun _ => rfl) (t_176 hN (b := 1) (z := 6) (by decide) (by decide) ) (fun _ m4 => ?_) (fun e12 m4 => ?_)
  · refine i_bl (pc' := 47) [(.iload_n 2, 1), (.iconst 0, 1), (.iconst 3, 1)] [some (.ref a0), some (.int x1), some (.int x2), some (.ref (sh_r v1 0))] [.int 3, .int 0, .int x2] (by decide +kernel) rfl ?_
    refine i_es (t := 177) (na := 3) (ml := 3) (idx := 217) (pc' := 50) (st' := []) (en := [some (.int x2), some (.int 0), some (.int 3)]) (av := [.int x2, .int 0, .int 3]) (k1 := 1) (k2 := 6) (vo := fun _ => none) (s2 := fun _ => []) (by decide +kernel) ⟨rfl, rfl, rfl, rfl, rfl, rfl⟩ ⟨by omega, by omega⟩ (fun _ => rfl) (t_177 hN (b := 1) (z := 6) (by decide) (by decide) ) (fun _ m6 => ?_) (fun e11 m6 => ?_)
    · refine i_bl (pc' := 51) [(.aload_n 0, 1)] [some (.ref a0), some (.int x1), some (.int x2), some (.ref (sh_r v1 0))] [.ref a0] (by decide +kernel) rfl ?_
      refine i_gr (idx := 50) (ci := 10) (k := 7) (t := 2) (p := 12133) (pc' := 54) (by decide +kernel) h0 ?_
      refine i_bl (pc' := 56) [(.aload_n 3, 1), (.aload_n 0, 1)] [some (.ref a0), some (.int x1), some (.int x2), some (.ref (sh_r v1 0))] [.ref a0, .ref (sh_r v1 0), .ref (sh_r a0 7)] (by decide +kernel) rfl ?_
      refine i_gr (idx := 19) (ci := 10) (k := 1) (t := 2) (p := 12127) (pc' := 59) (by decide +kernel) h0 ?_
      refine i_gf (idx := 131) (ci := 3) (k := 6) (t := 0) (p := 11188) (pc' := 62) (by decide +kernel) (o_10_1 hN h0) ?_
      refine i_cv (ci := 6) (t := 80) (na := 3) (ml := 4) (idx := 225) (pc' := 65) (st' := []) (en := [some (.ref (sh_r a0 7)), some (.ref (sh_r v1 0)), some (.int (m6 (sh_r a0 1) 6)), none]) (av := [.ref (sh_r v1 0), .int (m6 (sh_r a0 1) 6)]) (vo := fun _ => none) (mo := fun m => m) (s2 := fun _ => []) (by decide +kernel) (by decide +kernel) (o_10_7 hN h0) ⟨rfl, rfl, rfl, rfl, rfl, rfl⟩ (fun _ => rfl) (t_80 hN (h0 := (o_10_7 hN h0)) (h1 := (o_0_0 hN hr2))) (fun m8 => ?_)
      refine i_bl (pc' := 68) [(.aload_n 0, 1), (.aload_n 3, 1), (.aload_n 0, 1)] [some (.ref a0), some (.int x1), some (.int x2), some (.ref (sh_r v1 0))] [.ref a0, .ref (sh_r v1 0), .ref a0] (by decide +kernel) rfl ?_
      refine i_gr (idx := 19) (ci := 10) (k := 1) (t := 2) (p := 12127) (pc' := 71) (by decide +kernel) h0 ?_
      refine i_gf (idx := 131) (ci := 3) (k := 6) (t := 0) (p := 11188) (pc' := 74) (by decide +kernel) (o_10_1 hN h0) ?_
      refine i_bl (pc' := 75) [(.aload_n 0, 1)] [some (.ref a0), some (.int x1), some (.int x2), some (.ref (sh_r v1 0))] [.ref a0, .int (m8 (sh_r a0 1) 6), .ref (sh_r v1 0), .ref a0] (by decide +kernel) rfl ?_
      refine i_gr (idx := 50) (ci := 10) (k := 7) (t := 2) (p := 12133) (pc' := 78) (by decide +kernel) h0 ?_
      refine i_bl (pc' := 79) [(.iload_n 1, 1)] [some (.ref a0), some (.int x1), some (.int x2), some (.ref (sh_r v1 0))] [.int x1, .ref (sh_r a0 7), .int (m8 (sh_r a0 1) 6), .ref (sh_r v1 0), .ref a0] (by decide +kernel) rfl ?_
      refine i_cv (ci := 6) (t := 81) (na := 2) (ml := 3) (idx := 228) (pc' := 82) (st' := [.int (m8 (sh_r a0 1) 6), .ref (sh_r v1 0), .ref a0]) (en := [some (.ref (sh_r a0 7)), some (.int x1), none]) (av := [.int x1]) (vo := fun v => some (.int v)) (mo := fun _ => m8) (s2 := fun v => .int v :: [.int (m8 (sh_r a0 1) 6), .ref (sh_r v1 0), .ref a0]) (by decide +kernel) (by decide +kernel) (o_10_7 hN h0) ⟨rfl, rfl, rfl, rfl, rfl, rfl⟩ (fun _ => rfl) (t_81 hN (h0 := (o_10_7 hN h0))) (fun v9 => ?_)
      refine i_bl (pc' := 83) [(.iload_n 2, 1)] [some (.ref a0), some (.int x1), some (.int x2), some (.ref (sh_r v1 0))] [.int x2, .int v9, .int (m8 (sh_r a0 1) 6), .ref (sh_r v1 0), .ref a0] (by decide +kernel) rfl ?_
      refine i_cv (ci := 10) (t := 132) (na := 5) (ml := 7) (idx := 221) (pc' := 86) (st' := []) (en := [some (.ref a0), some (.ref (sh_r v1 0)), some (.int (m8 (sh_r a0 1) 6)), some (.int v9), some (.int x2), none, none]) (av := [.ref (sh_r v1 0), .int (m8 (sh_r a0 1) 6), .int v9, .int x2]) (vo := fun v => some (.int v.1)) (mo := fun v => v.2) (s2 := fun v => .int v.1 :: []) (by decide +kernel) (by decide +kernel) h0 ⟨rfl, rfl, rfl, rfl, rfl, rfl⟩ (fun _ => rfl) (t_132 hN (h0 := h0) (h1 := (o_0_0 hN hr2))) (fun r10 => ?_)
      exact i_ri (by decide +kernel) rfl
    · exact i_h0 (by decide +kernel) rfl
  · exact i_h0 (by decide +kernel) rfl

/-! 133 LanternChess.attackers(IIII)I -/
noncomputable def d_133 (a0 : Nat) (x1 : Int32) (x2 : Int32) (x3 : Int32) (x4 : Int32) (m : Mm) : Option ((Int32 ⊕ Nat) × Mm) := bE (d_175 x1 m) (fun _ m1 => bE (d_175 x2 m1) (fun _ m3 => bE (d_178 a0 x3 x4 m3) (fun _ m5 => (d_51 (sh_r a0 1) x1).bind fun v7 => (d_12 x3 x4).bind fun v9 => (d_29 (sh_r v7 0) x2 v9 m5).bind fun v10 => some (.inl v10, m5)) (fun e11 m5 => some (.inr e11, m5))) (fun e12 m3 => some (.inr e12, m3))) (fun e13 m1 => some (.inr e13, m1))
theorem t_133 {L nx : Nat} (hN : okn nx) {b z : Nat} (hb : 3 ≤ b) (hz : 18 ≤ z) {m : Mm} {a0 : Nat} (h0 : ok nx a0 10) {x1 : Int32} {x2 : Int32} {x3 : Int32} {x4 : Int32}  : Im (d_133 a0 x1 x2 x3 x4 m) (eI L nx) (ev_dn b z 133 0 [some (.ref a0), some (.int x1), some (.int x2), some (.int x3), some (.int x4)] [] (nx, mem L nx m)) := by
  unfold d_133
  refine i_bl (pc' := 1) [(.iload_n 1, 1)] [some (.ref a0), some (.int x1), some (.int x2), some (.int x3), some (.int x4)] [.int x1] (by decide +kernel) rfl ?_
  refine i_es (t := 175) (na := 1) (ml := 1) (idx := 184) (pc' := 4) (st' := []) (en := [some (.int x1)]) (av := [.int x1]) (k1 := 1) (k2 := 6) (vo := fun _ => none) (s2 := fun _ => []) (by decide +kernel) ⟨rfl, rfl, rfl, rfl, rfl, rfl⟩ ⟨by omega, by omega⟩ (fun _ => rfl) (t_175 hN (b := 1) (z := 6) (by decide) (by decide) ) (fun _ m1 => ?_) (fun e13 m1 => ?_)
  · refine i_bl (pc' := 5) [(.iload_n 2, 1)] [some (.ref a0), some (.int x1), some (.int x2), some (.int x3), some (.int x4)] [.int x2] (by decide +kernel) rfl ?_
    refine i_es (t := 175) (na := 1) (ml := 1) (idx := 184) (pc' := 8) (st' := []) (en := [some (.int x2)]) (av := [.int x2]) (k1 := 1) (k2 := 6) (vo := fun _ => none) (s2 := fun _ => []) (by decide +kernel) ⟨rfl, rfl, rfl, rfl, rfl, rfl⟩ ⟨by omega, by omega⟩ (fun _ => rfl) (t_175 hN (b := 1) (z := 6) (by decide) (by decide) ) (fun _ m3 => ?_) (fun e12 m3 => ?_)
    · refine i_bl (pc' := 12) [(.aload_n 0, 1), (.iload_n 3, 1), (.iload 4, 2)] [some (.ref a0), some (.int x1), some (.int x2), some (.int x3), some (.int x4)] [.int x4, .int x3, .ref a0] (by decide +kernel) rfl ?_
      refine i_ev (ci := 10) (t := 178) (na := 3) (ml := 3) (idx := 191) (pc' := 15) (st' := []) (en := [some (.ref a0), some (.int x3), some (.int x4)]) (av := [.int x3, .int x4]) (k1 := 1) (k2 := 6) (vo := fun _ => none) (s2 := fun _ => []) (by decide +kernel) (by decide +kernel) h0 ⟨rfl, rfl, rfl, rfl, rfl, rfl⟩ ⟨by omega, by omega⟩ (fun _ => rfl) (t_178 hN (b := 1) (z := 6) (by decide) (by decide) (h0 := h0)) (fun _ m5 => ?_) (fun e11 m5 => ?_)
      · refine i_bl (pc' := 16) [(.aload_n 0, 1)] [some (.ref a0), some (.int x1), some (.int x2), some (.int x3), some (.int x4)] [.ref a0] (by decide +kernel) rfl ?_
        refine i_gr (idx := 19) (ci := 10) (k := 1) (t := 2) (p := 12127) (pc' := 19) (by decide +kernel) h0 ?_
        refine i_bl (pc' := 20) [(.iload_n 1, 1)] [some (.ref a0), some (.int x1), some (.int x2), some (.int x3), some (.int x4)] [.int x1, .ref (sh_r a0 1)] (by decide +kernel) rfl ?_
        refine i_cA (cr := 0) (ci := 3) (t := 51) (na := 2) (ml := 2) (idx := 194) (pc' := 23) (st' := []) (en := [some (.ref (sh_r a0 1)), some (.int x1)]) (av := [.int x1]) (s2 := fun v => .ref v :: []) (by decide +kernel) (by decide +kernel) (o_10_1 hN h0) ⟨rfl, rfl, rfl, rfl, rfl, rfl⟩ (fun _ => rfl) (t_51 hN (h0 := (o_10_1 hN h0))) (fun v7 hr8 => ?_)
        refine i_gr (idx := 116) (ci := 0) (k := 0) (t := 2) (p := 11114) (pc' := 26) (by decide +kernel) hr8 ?_
        refine i_bl (pc' := 30) [(.iload_n 2, 1), (.iload_n 3, 1), (.iload 4, 2)] [some (.ref a0), some (.int x1), some (.int x2), some (.int x3), some (.int x4)] [.int x4, .int x3, .int x2, .ref (sh_r v7 0)] (by decide +kernel) rfl ?_
        refine i_cs (t := 12) (na := 2) (ml := 2) (idx := 73) (pc' := 33) (st' := [.int x2, .ref (sh_r v7 0)]) (en := [some (.int x3), some (.int x4)]) (av := [.int x3, .int x4]) (vo := fun v => some (.int v)) (mo := fun _ => m5) (s2 := fun v => .int v :: [.int x2, .ref (sh_r v7 0)]) (by decide +kernel) ⟨rfl, rfl, rfl, rfl, rfl, rfl⟩ (fun _ => rfl) (t_12 hN ) (fun v9 => ?_)
        refine i_cv (ci := 1) (t := 29) (na := 3) (ml := 5) (idx := 246) (pc' := 36) (st' := []) (en := [some (.ref (sh_r v7 0)), some (.int x2), some (.int v9), none, none]) (av := [.int x2, .int v9]) (vo := fun v => some (.int v)) (mo := fun _ => m5) (s2 := fun v => .int v :: []) (by decide +kernel) (by decide +kernel) (o_0_0 hN hr8) ⟨rfl, rfl, rfl, rfl, rfl, rfl⟩ (fun _ => rfl) (t_29 hN (h0 := (o_0_0 hN hr8))) (fun v10 => ?_)
        exact i_ri (by decide +kernel) rfl
      · exact i_h0 (by decide +kernel) rfl
    · exact i_h0 (by decide +kernel) rfl
  · exact i_h0 (by decide +kernel) rfl

/-! 134 LanternChess.isInCheck(II)Z -/
noncomputable def d_134 (a0 : Nat) (x1 : Int32) (x2 : Int32) (m : Mm) : Option ((Bool ⊕ Nat) × Mm) := bE (d_175 x1 m) (fun _ m1 => bE (d_175 x2 m1) (fun _ m3 => (d_51 (sh_r a0 1) x1).bind fun v5 => (d_30 (sh_r v5 0) x2 m3).bind fun v7 => some (.inl v7, m3)) (fun e8 m3 => some (.inr e8, m3))) (fun e9 m1 => some (.inr e9, m1))
theorem t_134 {L nx : Nat} (hN : okn nx) {b z : Nat} (hb : 2 ≤ b) (hz : 12 ≤ z) {m : Mm} {a0 : Nat} (h0 : ok nx a0 10) {x1 : Int32} {x2 : Int32}  : Im (d_134 a0 x1 x2 m) (eZ L nx) (ev_dn b z 134 0 [some (.ref a0), some (.int x1), some (.int x2)] [] (nx, mem L nx m)) := by
  unfold d_134
  refine i_bl (pc' := 1) [(.iload_n 1, 1)] [some (.ref a0), some (.int x1), some (.int x2)] [.int x1] (by decide +kernel) rfl ?_
  refine i_es (t := 175) (na := 1) (ml := 1) (idx := 184) (pc' := 4) (st' := []) (en := [some (.int x1)]) (av := [.int x1]) (k1 := 1) (k2 := 6) (vo := fun _ => none) (s2 := fun _ => []) (by decide +kernel) ⟨rfl, rfl, rfl, rfl, rfl, rfl⟩ ⟨by omega, by omega⟩ (fun _ => rfl) (t_175 hN (b := 1) (z := 6) (by decide) (by decide) ) (fun _ m1 => ?_) (fun e9 m1 => ?_)
  · refine i_bl (pc' := 5) [(.iload_n 2, 1)] [some (.ref a0), some (.int x1), some (.int x2)] [.int x2] (by decide +kernel) rfl ?_
    refine i_es (t := 175) (na := 1) (ml := 1) (idx := 184) (pc' := 8) (st' := []) (en := [some (.int x2)]) (av := [.int x2]) (k1 := 1) (k2 := 6) (vo := fun _ => none) (s2 := fun _ => []) (by decide +kernel) ⟨rfl, rfl, rfl, rfl, rfl, rfl⟩ ⟨by omega, by omega⟩ (fun _ => rfl) (t_175 hN (b := 1) (z := 6) (by decide) (by decide) ) (fun _ m3 => ?_) (fun e8 m3 => ?_)
    · refine i_bl (pc' := 9) [(.aload_n 0, 1)] [some (.ref a0), some (.int x1), some (.int x2)] [.ref a0] (by decide +kernel) rfl ?_
      refine i_gr (idx := 19) (ci := 10) (k := 1) (t := 2) (p := 12127) (pc' := 12) (by decide +kernel) h0 ?_
      refine i_bl (pc' := 13) [(.iload_n 1, 1)] [some (.ref a0), some (.int x1), some (.int x2)] [.int x1, .ref (sh_r a0 1)] (by decide +kernel) rfl ?_
      refine i_cA (cr := 0) (ci := 3) (t := 51) (na := 2) (ml := 2) (idx := 194) (pc' := 16) (st' := []) (en := [some (.ref (sh_r a0 1)), some (.int x1)]) (av := [.int x1]) (s2 := fun v => .ref v :: []) (by decide +kernel) (by decide +kernel) (o_10_1 hN h0) ⟨rfl, rfl, rfl, rfl, rfl, rfl⟩ (fun _ => rfl) (t_51 hN (h0 := (o_10_1 hN h0))) (fun v5 hr6 => ?_)
      refine i_gr (idx := 116) (ci := 0) (k := 0) (t := 2) (p := 11114) (pc' := 19) (by decide +kernel) hr6 ?_
      refine i_bl (pc' := 20) [(.iload_n 2, 1)] [some (.ref a0), some (.int x1), some (.int x2)] [.int x2, .ref (sh_r v5 0)] (by decide +kernel) rfl ?_
      refine i_cv (ci := 1) (t := 30) (na := 2) (ml := 3) (idx := 249) (pc' := 23) (st' := []) (en := [some (.ref (sh_r v5 0)), some (.int x2), none]) (av := [.int x2]) (vo := fun v => some (.int (bi v))) (mo := fun _ => m3) (s2 := fun v => .int (bi v) :: []) (by decide +kernel) (by decide +kernel) (o_0_0 hN hr6) ⟨rfl, rfl, rfl, rfl, rfl, rfl⟩ (fun _ => rfl) (t_30 hN (h0 := (o_0_0 hN hr6))) (fun v7 => ?_)
      exact i_rz (B := v7) (by decide +kernel) rfl
    · exact i_h0 (by decide +kernel) rfl
  · exact i_h0 (by decide +kernel) rfl

/-! 135 LanternChess.material(II)I -/
noncomputable def d_135 (a0 : Nat) (x1 : Int32) (x2 : Int32) (m : Mm) : Option ((Int32 ⊕ Nat) × Mm) := bE (d_175 x1 m) (fun _ m1 => bE (d_175 x2 m1) (fun _ m3 => (d_51 (sh_r a0 1) x1).bind fun v5 => (d_31 (sh_r v5 0) x2 m3).bind fun v7 => some (.inl v7, m3)) (fun e8 m3 => some (.inr e8, m3))) (fun e9 m1 => some (.inr e9, m1))
theorem t_135 {L nx : Nat} (hN : okn nx) {b z : Nat} (hb : 2 ≤ b) (hz : 12 ≤ z) {m : Mm} {a0 : Nat} (h0 : ok nx a0 10) {x1 : Int32} {x2 : Int32}  : Im (d_135 a0 x1 x2 m) (eI L nx) (ev_dn b z 135 0 [some (.ref a0), some (.int x1), some (.int x2)] [] (nx, mem L nx m)) := by
  unfold d_135
  refine i_bl (pc' := 1) [(.iload_n 1, 1)] [some (.ref a0), some (.int x1), some (.int x2)] [.int x1] (by decide +kernel) rfl ?_
  refine i_es (t := 175) (na := 1) (ml := 1) (idx := 184) (pc' := 4) (st' := []) (en := [some (.int x1)]) (av := [.int x1]) (k1 := 1) (k2 := 6) (vo := fun _ => none) (s2 := fun _ => []) (by decide +kernel) ⟨rfl, rfl, rfl, rfl, rfl, rfl⟩ ⟨by omega, by omega⟩ (fun _ => rfl) (t_175 hN (b := 1) (z := 6) (by decide) (by decide) ) (fun _ m1 => ?_) (fun e9 m1 => ?_)
  · refine i_bl (pc' := 5) [(.iload_n 2, 1)] [some (.ref a0), some (.int x1), some (.int x2)] [.int x2] (by decide +kernel) rfl ?_
    refine i_es (t := 175) (na := 1) (ml := 1) (idx := 184) (pc' := 8) (st' := []) (en := [some (.int x2)]) (av := [.int x2]) (k1 := 1) (k2 := 6) (vo := fun _ => none) (s2 := fun _ => []) (by decide +kernel) ⟨rfl, rfl, rfl, rfl, rfl, rfl⟩ ⟨by omega, by omega⟩ (fun _ => rfl) (t_175 hN (b := 1) (z := 6) (by decide) (by decide) ) (fun _ m3 => ?_) (fun e8 m3 => ?_)
    · refine i_bl (pc' := 9) [(.aload_n 0, 1)] [some (.ref a0), some (.int x1), some (.int x2)] [.ref a0] (by decide +kernel) rfl ?_
      refine i_gr (idx := 19) (ci := 10) (k := 1) (t := 2) (p := 12127) (pc' := 12) (by decide +kernel) h0 ?_
      refine i_bl (pc' := 13) [(.iload_n 1, 1)] [some (.ref a0), some (.int x1), some (.int x2)] [.int x1, .ref (sh_r a0 1)] (by decide +kernel) rfl ?_
      refine i_cA (cr := 0) (ci := 3) (t := 51) (na := 2) (ml := 2) (idx := 194) (pc' := 16) (st' := []) (en := [some (.ref (sh_r a0 1)), some (.int x1)]) (av := [.int x1]) (s2 := fun v => .ref v :: []) (by decide +kernel) (by decide +kernel) (o_10_1 hN h0) ⟨rfl, rfl, rfl, rfl, rfl, rfl⟩ (fun _ => rfl) (t_51 hN (h0 := (o_10_1 hN h0))) (fun v5 hr6 => ?_)
      refine i_gr (idx := 116) (ci := 0) (k := 0) (t := 2) (p := 11114) (pc' := 19) (by decide +kernel) hr6 ?_
      refine i_bl (pc' := 20) [(.iload_n 2, 1)] [some (.ref a0), some (.int x1), some (.int x2)] [.int x2, .ref (sh_r v5 0)] (by decide +kernel) rfl ?_
      refine i_cv (ci := 1) (t := 31) (na := 2) (ml := 4) (idx := 253) (pc' := 23) (st' := []) (en := [some (.ref (sh_r v5 0)), some (.int x2), none, none]) (av := [.int x2]) (vo := fun v => some (.int v)) (mo := fun _ => m3) (s2 := fun v => .int v :: []) (by decide +kernel) (by decide +kernel) (o_0_0 hN hr6) ⟨rfl, rfl, rfl, rfl, rfl, rfl⟩ (fun _ => rfl) (t_31 hN (h0 := (o_0_0 hN hr6))) (fun v7 => ?_)
      exact i_ri (by decide +kernel) rfl
    · exact i_h0 (by decide +kernel) rfl
  · exact i_h0 (by decide +kernel) rfl

/-! 136 LanternChess.sum(I)I -/
noncomputable def d_136 (a0 : Nat) (x1 : Int32) (m : Mm) : Option ((Int32 ⊕ Nat) × Mm) := bE (d_175 x1 m) (fun _ m1 => (d_51 (sh_r a0 1) x1).bind fun v3 => (d_33 (sh_r v3 0) m1).bind fun v5 => some (.inl v5, m1)) (fun e6 m1 => some (.inr e6, m1))
theorem t_136 {L nx : Nat} (hN : okn nx) {b z : Nat} (hb : 1 ≤ b) (hz : 6 ≤ z) {m : Mm} {a0 : Nat} (h0 : ok nx a0 10) {x1 : Int32}  : Im (d_136 a0 x1 m) (eI L nx) (ev_dn b z 136 0 [some (.ref a0), some (.int x1)] [] (nx, mem L nx m)) := by
  unfold d_136
  refine i_bl (pc' := 1) [(.iload_n 1, 1)] [some (.ref a0), some (.int x1)] [.int x1] (by decide +kernel) rfl ?_
  refine i_es (t := 175) (na := 1) (ml := 1) (idx := 184) (pc' := 4) (st' := []) (en := [some (.int x1)]) (av := [.int x1]) (k1 := 1) (k2 := 6) (vo := fun _ => none) (s2 := fun _ => []) (by decide +kernel) ⟨rfl, rfl, rfl, rfl, rfl, rfl⟩ ⟨by omega, by omega⟩ (fun _ => rfl) (t_175 hN (b := 1) (z := 6) (by decide) (by decide) ) (fun _ m1 => ?_) (fun e6 m1 => ?_)
  · refine i_bl (pc' := 5) [(.aload_n 0, 1)] [some (.ref a0), some (.int x1)] [.ref a0] (by decide +kernel) rfl ?_
    refine i_gr (idx := 19) (ci := 10) (k := 1) (t := 2) (p := 12127) (pc' := 8) (by decide +kernel) h0 ?_
    refine i_bl (pc' := 9) [(.iload_n 1, 1)] [some (.ref a0), some (.int x1)] [.int x1, .ref (sh_r a0 1)] (by decide +kernel) rfl ?_
    refine i_cA (cr := 0) (ci := 3) (t := 51) (na := 2) (ml := 2) (idx := 194) (pc' := 12) (st' := []) (en := [some (.ref (sh_r a0 1)), some (.int x1)]) (av := [.int x1]) (s2 := fun v => .ref v :: []) (by decide +kernel) (by decide +kernel) (o_10_1 hN h0) ⟨rfl, rfl, rfl, rfl, rfl, rfl⟩ (fun _ => rfl) (t_51 hN (h0 := (o_10_1 hN h0))) (fun v3 hr4 => ?_)
    refine i_gr (idx := 116) (ci := 0) (k := 0) (t := 2) (p := 11114) (pc' := 15) (by decide +kernel) hr4 ?_
    refine i_cv (ci := 1) (t := 33) (na := 1) (ml := 3) (idx := 256) (pc' := 18) (st' := []) (en := [some (.ref (sh_r v3 0)), none, none]) (av := []) (vo := fun v => some (.int v)) (mo := fun _ => m1) (s2 := fun v => .int v :: []) (by decide +kernel) (by decide +kernel) (o_0_0 hN hr4) ⟨rfl, rfl, rfl, rfl, rfl, rfl⟩ (fun _ => rfl) (t_33 hN (h0 := (o_0_0 hN hr4))) (fun v5 => ?_)
    exact i_ri (by decide +kernel) rfl
  · exact i_h0 (by decide +kernel) rfl

/-! 137 LanternChess.differ(I)I -/
noncomputable def d_137 (a0 : Nat) (x1 : Int32) (m : Mm) : Option ((Int32 ⊕ Nat) × Mm) := bE (d_177 x1 0 1 m) (fun _ m1 => if ¬ x1 = 0 then ((d_55 (sh_r a0 1) m1).bind fun v3 => some (.inl v3, m1)) else ((d_54 (sh_r a0 1) m1).bind fun v4 => some (.inl v4, m1))) (fun e5 m1 => some (.inr e5, m1))
theorem t_137 {L nx : Nat} (hN : okn nx) {b z : Nat} (hb : 1 ≤ b) (hz : 6 ≤ z) {m : Mm} {a0 : Nat} (h0 : ok nx a0 10) {x1 : Int32}  : Im (d_137 a0 x1 m) (eI L nx) (ev_dn b z 137 0 [some (.ref a0), some (.int x1)] [] (nx, mem L nx m)) := by
  unfold d_137
  refine i_bl (pc' := 3) [(.iload_n 1, 1), (.iconst 0, 1), (.iconst 1, 1)] [some (.ref a0), some (.int x1)] [.int 1, .int 0, .int x1] (by decide +kernel) rfl ?_
  refine i_es (t := 177) (na := 3) (ml := 3) (idx := 217) (pc' := 6) (st' := []) (en := [some (.int x1), some (.int 0), some (.int 1)]) (av := [.int x1, .int 0, .int 1]) (k1 := 1) (k2 := 6) (vo := fun _ => none) (s2 := fun _ => []) (by decide +kernel) ⟨rfl, rfl, rfl, rfl, rfl, rfl⟩ ⟨by omega, by omega⟩ (fun _ => rfl) (t_177 hN (b := 1) (z := 6) (by decide) (by decide) ) (fun _ m1 => ?_) (fun e5 m1 => ?_)
  · refine i_bl (pc' := 7) [(.iload_n 1, 1)] [some (.ref a0), some (.int x1)] [.int x1] (by decide +kernel) rfl ?_
    refine i_if (c := .ne) (off := 13) (t := 20) (pc' := 10) (p := ¬ x1 = 0) (by decide +kernel) rfl ?_ ?_
    · refine i_bl (pc' := 21) [(.aload_n 0, 1)] [some (.ref a0), some (.int x1)] [.ref a0] (by decide +kernel) rfl ?_
      refine i_gr (idx := 19) (ci := 10) (k := 1) (t := 2) (p := 12127) (pc' := 24) (by decide +kernel) h0 ?_
      refine i_cv (ci := 3) (t := 55) (na := 1) (ml := 1) (idx := 262) (pc' := 27) (st' := []) (en := [some (.ref (sh_r a0 1))]) (av := []) (vo := fun v => some (.int v)) (mo := fun _ => m1) (s2 := fun v => .int v :: []) (by decide +kernel) (by decide +kernel) (o_10_1 hN h0) ⟨rfl, rfl, rfl, rfl, rfl, rfl⟩ (fun _ => rfl) (t_55 hN (h0 := (o_10_1 hN h0))) (fun v3 => ?_)
      exact i_ri (by decide +kernel) rfl
    · refine i_bl (pc' := 11) [(.aload_n 0, 1)] [some (.ref a0), some (.int x1)] [.ref a0] (by decide +kernel) rfl ?_
      refine i_gr (idx := 19) (ci := 10) (k := 1) (t := 2) (p := 12127) (pc' := 14) (by decide +kernel) h0 ?_
      refine i_cv (ci := 3) (t := 54) (na := 1) (ml := 1) (idx := 259) (pc' := 17) (st' := []) (en := [some (.ref (sh_r a0 1))]) (av := []) (vo := fun v => some (.int v)) (mo := fun _ => m1) (s2 := fun v => .int v :: []) (by decide +kernel) (by decide +kernel) (o_10_1 hN h0) ⟨rfl, rfl, rfl, rfl, rfl, rfl⟩ (fun _ => rfl) (t_54 hN (h0 := (o_10_1 hN h0))) (fun v4 => ?_)
      refine i_go (t := 27) (off := 10) (by decide +kernel) ?_
      exact i_ri (by decide +kernel) rfl
  · exact i_h0 (by decide +kernel) rfl

/-! 138 LanternChess.fewestMoves(IIIII)I -/
noncomputable def d_138 (a0 : Nat) (x1 : Int32) (x2 : Int32) (x3 : Int32) (x4 : Int32) (x5 : Int32) (m : Mm) : Option ((Int32 ⊕ Nat) × Mm) := bE (d_175 x1 m) (fun _ m1 => bE (d_179 a0 x2 x3 x4 x5 m1) (fun _ m3 => (d_51 (sh_r a0 1) x1).bind fun v5 => (d_12 x2 x3).bind fun v7 => (d_12 x4 x5).bind fun v8 => (d_116 (sh_r a0 8) (sh_r v5 0) v7 v8 m3).bind fun r9 => some (.inl r9.1, r9.2)) (fun e10 m3 => some (.inr e10, m3))) (fun e11 m1 => some (.inr e11, m1))
theorem t_138 {L nx : Nat} (hN : okn nx) {b z : Nat} (hb : 3 ≤ b) (hz : 18 ≤ z) {m : Mm} {a0 : Nat} (h0 : ok nx a0 10) {x1 : Int32} {x2 : Int32} {x3 : Int32} {x4 : Int32} {x5 : Int32}  : Im (d_138 a0 x1 x2 x3 x4 x5 m) (eI L nx) (ev_dn b z 138 0 [some (.ref a0), some (.int x1), some (.int x2), some (.int x3), some (.int x4), some (.int x5)] [] (nx, mem L nx m)) := by
  unfold d_138
  refine i_bl (pc' := 1) [(.iload_n 1, 1)] [some (.ref a0), some (.int x1), some (.int x2), some (.int x3), some (.int x4), some (.int x5)] [.int x1] (by decide +kernel) rfl ?_
  refine i_es (t := 175) (na := 1) (ml := 1) (idx := 184) (pc' := 4) (st' := []) (en := [some (.int x1)]) (av := [.int x1]) (k1 := 1) (k2 := 6) (vo := fun _ => none) (s2 := fun _ => []) (by decide +kernel) ⟨rfl, rfl, rfl, rfl, rfl, rfl⟩ ⟨by omega, by omega⟩ (fun _ => rfl) (t_175 hN (b := 1) (z := 6) (by decide) (by decide) ) (fun _ m1 => ?_) (fun e11 m1 => ?_)
  · refine i_bl (pc' := 11) [(.aload_n 0, 1), (.iload_n 2, 1), (.iload_n 3, 1), (.iload 4, 2), (.iload 5, 2)] [some (.ref a0), some (.int x1), some (.int x2), some (.int x3), some (.int x4), some (.int x5)] [.int x5, .int x4, .int x3, .int x2, .ref a0] (by decide +kernel) rfl ?_
    refine i_ev (ci := 10) (t := 179) (na := 5) (ml := 5) (idx := 201) (pc' := 14) (st' := []) (en := [some (.ref a0), some (.int x2), some (.int x3), some (.int x4), some (.int x5)]) (av := [.int x2, .int x3, .int x4, .int x5]) (k1 := 2) (k2 := 12) (vo := fun _ => none) (s2 := fun _ => []) (by decide +kernel) (by decide +kernel) h0 ⟨rfl, rfl, rfl, rfl, rfl, rfl⟩ ⟨by omega, by omega⟩ (fun _ => rfl) (t_179 hN (b := 2) (z := 12) (by decide) (by decide) (h0 := h0)) (fun _ m3 => ?_) (fun e10 m3 => ?_)
    · refine i_bl (pc' := 15) [(.aload_n 0, 1)] [some (.ref a0), some (.int x1), some (.int x2), some (.int x3), some (.int x4), some (.int x5)] [.ref a0] (by decide +kernel) rfl ?_
      refine i_gr (idx := 57) (ci := 10) (k := 8) (t := 2) (p := 12134) (pc' := 18) (by decide +kernel) h0 ?_
      refine i_bl (pc' := 19) [(.aload_n 0, 1)] [some (.ref a0), some (.int x1), some (.int x2), some (.int x3), some (.int x4), some (.int x5)] [.ref a0, .ref (sh_r a0 8)] (by decide +kernel) rfl ?_
      refine i_gr (idx := 19) (ci := 10) (k := 1) (t := 2) (p := 12127) (pc' := 22) (by decide +kernel) h0 ?_
      refine i_bl (pc' := 23) [(.iload_n 1, 1)] [some (.ref a0), some (.int x1), some (.int x2), some (.int x3), some (.int x4), some (.int x5)] [.int x1, .ref (sh_r a0 1), .ref (sh_r a0 8)] (by decide +kernel) rfl ?_
      refine i_cA (cr := 0) (ci := 3) (t := 51) (na := 2) (ml := 2) (idx := 194) (pc' := 26) (st' := [.ref (sh_r a0 8)]) (en := [some (.ref (sh_r a0 1)), some (.int x1)]) (av := [.int x1]) (s2 := fun v => .ref v :: [.ref (sh_r a0 8)]) (by decide +kernel) (by decide +kernel) (o_10_1 hN h0) ⟨rfl, rfl, rfl, rfl, rfl, rfl⟩ (fun _ => rfl) (t_51 hN (h0 := (o_10_1 hN h0))) (fun v5 hr6 => ?_)
      refine i_gr (idx := 116) (ci := 0) (k := 0) (t := 2) (p := 11114) (pc' := 29) (by decide +kernel) hr6 ?_
      refine i_bl (pc' := 31) [(.iload_n 2, 1), (.iload_n 3, 1)] [some (.ref a0), some (.int x1), some (.int x2), some (.int x3), some (.int x4), some (.int x5)] [.int x3, .int x2, .ref (sh_r v5 0), .ref (sh_r a0 8)] (by decide +kernel) rfl ?_
      refine i_cs (t := 12) (na := 2) (ml := 2) (idx := 73) (pc' := 34) (st' := [.ref (sh_r v5 0), .ref (sh_r a0 8)]) (en := [some (.int x2), some (.int x3)]) (av := [.int x2, .int x3]) (vo := fun v => some (.int v)) (mo := fun _ => m3) (s2 := fun v => .int v :: [.ref (sh_r v5 0), .ref (sh_r a0 8)]) (by decide +kernel) ⟨rfl, rfl, rfl, rfl, rfl, rfl⟩ (fun _ => rfl) (t_12 hN ) (fun v7 => ?_)
      refine i_bl (pc' := 38) [(.iload 4, 2), (.iload 5, 2)] [some (.ref a0), some (.int x1), some (.int x2), some (.int x3), some (.int x4), some (.int x5)] [.int x5, .int x4, .int v7, .ref (sh_r v5 0), .ref (sh_r a0 8)] (by decide +kernel) rfl ?_
      refine i_cs (t := 12) (na := 2) (ml := 2) (idx := 73) (pc' := 41) (st' := [.int v7, .ref (sh_r v5 0), .ref (sh_r a0 8)]) (en := [some (.int x4), some (.int x5)]) (av := [.int x4, .int x5]) (vo := fun v => some (.int v)) (mo := fun _ => m3) (s2 := fun v => .int v :: [.int v7, .ref (sh_r v5 0), .ref (sh_r a0 8)]) (by decide +kernel) ⟨rfl, rfl, rfl, rfl, rfl, rfl⟩ (fun _ => rfl) (t_12 hN ) (fun v8 => ?_)
      refine i_cv (ci := 9) (t := 116) (na := 4) (ml := 6) (idx := 265) (pc' := 44) (st' := []) (en := [some (.ref (sh_r a0 8)), some (.ref (sh_r v5 0)), some (.int v7), some (.int v8), none, none]) (av := [.ref (sh_r v5 0), .int v7, .int v8]) (vo := fun v => some (.int v.1)) (mo := fun v => v.2) (s2 := fun v => .int v.1 :: []) (by decide +kernel) (by decide +kernel) (o_10_8 hN h0) ⟨rfl, rfl, rfl, rfl, rfl, rfl⟩ (fun _ => rfl) (t_116 hN (h0 := (o_10_8 hN h0)) (h1 := (o_0_0 hN hr6))) (fun r9 => ?_)
      exact i_ri (by decide +kernel) rfl
    · exact i_h0 (by decide +kernel) rfl
  · exact i_h0 (by decide +kernel) rfl

/-! 139 LanternChess.isHidden(I)Z -/
noncomputable def d_139 (a0 : Nat) (x1 : Int32) (m : Mm) : Option ((Bool ⊕ Nat) × Mm) := bE (d_177 x1 0 99999 m) (fun _ m1 => (d_44 (sh_r (sh_r a0 1) 2) x1 m1).bind fun v3 => some (.inl v3, m1)) (fun e4 m1 => some (.inr e4, m1))
theorem t_139 {L nx : Nat} (hN : okn nx) {b z : Nat} (hb : 1 ≤ b) (hz : 6 ≤ z) {m : Mm} {a0 : Nat} (h0 : ok nx a0 10) {x1 : Int32}  : Im (d_139 a0 x1 m) (eZ L nx) (ev_dn b z 139 0 [some (.ref a0), some (.int x1)] [] (nx, mem L nx m)) := by
  unfold d_139
  refine i_bl (pc' := 2) [(.iload_n 1, 1), (.iconst 0, 1)] [some (.ref a0), some (.int x1)] [.int 0, .int x1] (by decide +kernel) rfl ?_
  refine i_lcw (idx := 269) (p := 15073) (x := 99999) (pc' := 5) (by decide +kernel) ?_
  refine i_es (t := 177) (na := 3) (ml := 3) (idx := 217) (pc' := 8) (st' := []) (en := [some (.int x1), some (.int 0), some (.int 99999)]) (av := [.int x1, .int 0, .int 99999]) (k1 := 1) (k2 := 6) (vo := fun _ => none) (s2 := fun _ => []) (by decide +kernel) ⟨rfl, rfl, rfl, rfl, rfl, rfl⟩ ⟨by omega, by omega⟩ (fun _ => rfl) (t_177 hN (b := 1) (z := 6) (by decide) (by decide) ) (fun _ m1 => ?_) (fun e4 m1 => ?_)
  · refine i_bl (pc' := 9) [(.aload_n 0, 1)] [some (.ref a0), some (.int x1)] [.ref a0] (by decide +kernel) rfl ?_
    refine i_gr (idx := 19) (ci := 10) (k := 1) (t := 2) (p := 12127) (pc' := 12) (by decide +kernel) h0 ?_
    refine i_gr (idx := 146) (ci := 3) (k := 2) (t := 2) (p := 11180) (pc' := 15) (by decide +kernel) (o_10_1 hN h0) ?_
    refine i_bl (pc' := 16) [(.iload_n 1, 1)] [some (.ref a0), some (.int x1)] [.int x1, .ref (sh_r (sh_r a0 1) 2)] (by decide +kernel) rfl ?_
    refine i_cv (ci := 2) (t := 44) (na := 2) (ml := 4) (idx := 270) (pc' := 19) (st' := []) (en := [some (.ref (sh_r (sh_r a0 1) 2)), some (.int x1), none, none]) (av := [.int x1]) (vo := fun v => some (.int (bi v))) (mo := fun _ => m1) (s2 := fun v => .int (bi v) :: []) (by decide +kernel) (by decide +kernel) (o_3_2 hN (o_10_1 hN h0)) ⟨rfl, rfl, rfl, rfl, rfl, rfl⟩ (fun _ => rfl) (t_44 hN (h0 := (o_3_2 hN (o_10_1 hN h0)))) (fun v3 => ?_)
    exact i_rz (B := v3) (by decide +kernel) rfl
  · exact i_h0 (by decide +kernel) rfl

/-! 140 LanternChess.hiddenTicks(II)I -/
noncomputable def d_140 (a0 : Nat) (x1 : Int32) (x2 : Int32) (m : Mm) : Option ((Int32 ⊕ Nat) × Mm) := bE (d_177 x1 0 99999 m) (fun _ m1 => bE (d_177 x2 0 999 m1) (fun _ m3 => (d_45 (sh_r (sh_r a0 1) 2) x1 x2 m3).bind fun v5 => some (.inl (x2 - v5), m3)) (fun e6 m3 => some (.inr e6, m3))) (fun e7 m1 => some (.inr e7, m1))
theorem t_140 {L nx : Nat} (hN : okn nx) {b z : Nat} (hb : 2 ≤ b) (hz : 12 ≤ z) {m : Mm} {a0 : Nat} (h0 : ok nx a0 10) {x1 : Int32} {x2 : Int32}  : Im (d_140 a0 x1 x2 m) (eI L nx) (ev_dn b z 140 0 [some (.ref a0), some (.int x1), some (.int x2)] [] (nx, mem L nx m)) := by
  unfold d_140
  refine i_bl (pc' := 2) [(.iload_n 1, 1), (.iconst 0, 1)] [some (.ref a0), some (.int x1), some (.int x2)] [.int 0, .int x1] (by decide +kernel) rfl ?_
  refine i_lcw (idx := 269) (p := 15073) (x := 99999) (pc' := 5) (by decide +kernel) ?_
  refine i_es (t := 177) (na := 3) (ml := 3) (idx := 217) (pc' := 8) (st' := []) (en := [some (.int x1), some (.int 0), some (.int 99999)]) (av := [.int x1, .int 0, .int 99999]) (k1 := 1) (k2 := 6) (vo := fun _ => none) (s2 := fun _ => []) (by decide +kernel) ⟨rfl, rfl, rfl, rfl, rfl, rfl⟩ ⟨by omega, by omega⟩ (fun _ => rfl) (t_177 hN (b := 1) (z := 6) (by decide) (by decide) ) (fun _ m1 => ?_) (fun e7 m1 => ?_)
  · refine i_bl (pc' := 13) [(.iload_n 2, 1), (.iconst 0, 1), (.sipush (999), 3)] [some (.ref a0), some (.int x1), some (.int x2)] [.int 999, .int 0, .int x2] (by decide +kernel) rfl ?_
    refine i_es (t := 177) (na := 3) (ml := 3) (idx := 217) (pc' := 16) (st' := []) (en := [some (.int x2), some (.int 0), some (.int 999)]) (av := [.int x2, .int 0, .int 999]) (k1 := 1) (k2 := 6) (vo := fun _ => none) (s2 := fun _ => []) (by decide +kernel) ⟨rfl, rfl, rfl, rfl, rfl, rfl⟩ ⟨by omega, by omega⟩ (fun _ => rfl) (t_177 hN (b := 1) (z := 6) (by decide) (by decide) ) (fun _ m3 => ?_) (fun e6 m3 => ?_)
    · refine i_bl (pc' := 18) [(.iload_n 2, 1), (.aload_n 0, 1)] [some (.ref a0), some (.int x1), some (.int x2)] [.ref a0, .int x2] (by decide +kernel) rfl ?_
      refine i_gr (idx := 19) (ci := 10) (k := 1) (t := 2) (p := 12127) (pc' := 21) (by decide +kernel) h0 ?_
      refine i_gr (idx := 146) (ci := 3) (k := 2) (t := 2) (p := 11180) (pc' := 24) (by decide +kernel) (o_10_1 hN h0) ?_
      refine i_bl (pc' := 26) [(.iload_n 1, 1), (.iload_n 2, 1)] [some (.ref a0), some (.int x1), some (.int x2)] [.int x2, .int x1, .ref (sh_r (sh_r a0 1) 2), .int x2] (by decide +kernel) rfl ?_
      refine i_cv (ci := 2) (t := 45) (na := 3) (ml := 5) (idx := 273) (pc' := 29) (st' := [.int x2]) (en := [some (.ref (sh_r (sh_r a0 1) 2)), some (.int x1), some (.int x2), none, none]) (av := [.int x1, .int x2]) (vo := fun v => some (.int v)) (mo := fun _ => m3) (s2 := fun v => .int v :: [.int x2]) (by decide +kernel) (by decide +kernel) (o_3_2 hN (o_10_1 hN h0)) ⟨rfl, rfl, rfl, rfl, rfl, rfl⟩ (fun _ => rfl) (t_45 hN (h0 := (o_3_2 hN (o_10_1 hN h0)))) (fun v5 => ?_)
      refine i_bl (pc' := 30) [(.isub, 1)] [some (.ref a0), some (.int x1), some (.int x2)] [.int (x2 - v5)] (by decide +kernel) rfl ?_
      exact i_ri (by decide +kernel) rfl
    · exact i_h0 (by decide +kernel) rfl
  · exact i_h0 (by decide +kernel) rfl

/-! 141 LanternChess.clearFrom(I)I -/
noncomputable def d_141 (a0 : Nat) (x1 : Int32) (m : Mm) : Option ((Int32 ⊕ Nat) × Mm) := bE (d_177 x1 1 99 m) (fun _ m1 => (d_46 (sh_r (sh_r a0 1) 2) (m1 (sh_r a0 1) 5) x1 m1).bind fun v3 => some (.inl v3, m1)) (fun e4 m1 => some (.inr e4, m1))
theorem t_141 {L nx : Nat} (hN : okn nx) {b z : Nat} (hb : 1 ≤ b) (hz : 6 ≤ z) {m : Mm} {a0 : Nat} (h0 : ok nx a0 10) {x1 : Int32}  : Im (d_141 a0 x1 m) (eI L nx) (ev_dn b z 141 0 [some (.ref a0), some (.int x1)] [] (nx, mem L nx m)) := by
  unfold d_141
  refine i_bl (pc' := 4) [(.iload_n 1, 1), (.iconst 1, 1), (.bipush (99), 2)] [some (.ref a0), some (.int x1)] [.int 99, .int 1, .int x1] (by decide +kernel) rfl ?_
  refine i_es (t := 177) (na := 3) (ml := 3) (idx := 217) (pc' := 7) (st' := []) (en := [some (.int x1), some (.int 1), some (.int 99)]) (av := [.int x1, .int 1, .int 99]) (k1 := 1) (k2 := 6) (vo := fun _ => none) (s2 := fun _ => []) (by decide +kernel) ⟨rfl, rfl, rfl, rfl, rfl, rfl⟩ ⟨by omega, by omega⟩ (fun _ => rfl) (t_177 hN (b := 1) (z := 6) (by decide) (by decide) ) (fun _ m1 => ?_) (fun e4 m1 => ?_)
  · refine i_bl (pc' := 8) [(.aload_n 0, 1)] [some (.ref a0), some (.int x1)] [.ref a0] (by decide +kernel) rfl ?_
    refine i_gr (idx := 19) (ci := 10) (k := 1) (t := 2) (p := 12127) (pc' := 11) (by decide +kernel) h0 ?_
    refine i_gr (idx := 146) (ci := 3) (k := 2) (t := 2) (p := 11180) (pc' := 14) (by decide +kernel) (o_10_1 hN h0) ?_
    refine i_bl (pc' := 15) [(.aload_n 0, 1)] [some (.ref a0), some (.int x1)] [.ref a0, .ref (sh_r (sh_r a0 1) 2)] (by decide +kernel) rfl ?_
    refine i_gr (idx := 19) (ci := 10) (k := 1) (t := 2) (p := 12127) (pc' := 18) (by decide +kernel) h0 ?_
    refine i_gf (idx := 128) (ci := 3) (k := 5) (t := 0) (p := 11186) (pc' := 21) (by decide +kernel) (o_10_1 hN h0) ?_
    refine i_bl (pc' := 22) [(.iload_n 1, 1)] [some (.ref a0), some (.int x1)] [.int x1, .int (m1 (sh_r a0 1) 5), .ref (sh_r (sh_r a0 1) 2)] (by decide +kernel) rfl ?_
    refine i_cv (ci := 2) (t := 46) (na := 3) (ml := 6) (idx := 276) (pc' := 25) (st' := []) (en := [some (.ref (sh_r (sh_r a0 1) 2)), some (.int (m1 (sh_r a0 1) 5)), some (.int x1), none, none, none]) (av := [.int (m1 (sh_r a0 1) 5), .int x1]) (vo := fun v => some (.int v)) (mo := fun _ => m1) (s2 := fun v => .int v :: []) (by decide +kernel) (by decide +kernel) (o_3_2 hN (o_10_1 hN h0)) ⟨rfl, rfl, rfl, rfl, rfl, rfl⟩ (fun _ => rfl) (t_46 hN (h0 := (o_3_2 hN (o_10_1 hN h0)))) (fun v3 => ?_)
    exact i_ri (by decide +kernel) rfl
  · exact i_h0 (by decide +kernel) rfl

/-! 142 LanternChess.fog(II)I -/
noncomputable def d_142 (a0 : Nat) (x1 : Int32) (x2 : Int32) (m : Mm) : Option ((Int32 ⊕ Nat) × Mm) := bE (d_176 x1 (m (sh_r (sh_r a0 1) 2) 3) m) (fun _ m1 => bE (d_177 x2 0 3 m1) (fun _ m3 => (d_43 (sh_r (sh_r a0 1) 2) x1 x2 m3).bind fun v5 => some (.inl v5, m3)) (fun e6 m3 => some (.inr e6, m3))) (fun e7 m1 => some (.inr e7, m1))
theorem t_142 {L nx : Nat} (hN : okn nx) {b z : Nat} (hb : 2 ≤ b) (hz : 12 ≤ z) {m : Mm} {a0 : Nat} (h0 : ok nx a0 10) {x1 : Int32} {x2 : Int32}  : Im (d_142 a0 x1 x2 m) (eI L nx) (ev_dn b z 142 0 [some (.ref a0), some (.int x1), some (.int x2)] [] (nx, mem L nx m)) := by
  unfold d_142
  refine i_bl (pc' := 2) [(.iload_n 1, 1), (.aload_n 0, 1)] [some (.ref a0), some (.int x1), some (.int x2)] [.ref a0, .int x1] (by decide +kernel) rfl ?_
  refine i_gr (idx := 19) (ci := 10) (k := 1) (t := 2) (p := 12127) (pc' := 5) (by decide +kernel) h0 ?_
  refine i_gr (idx := 146) (ci := 3) (k := 2) (t := 2) (p := 11180) (pc' := 8) (by decide +kernel) (o_10_1 hN h0) ?_
  refine i_gf (idx := 150) (ci := 2) (k := 3) (t := 0) (p := 11145) (pc' := 11) (by decide +kernel) (o_3_2 hN (o_10_1 hN h0)) ?_
  refine i_es (t := 176) (na := 2) (ml := 2) (idx := 214) (pc' := 14) (st' := []) (en := [some (.int x1), some (.int (m (sh_r (sh_r a0 1) 2) 3))]) (av := [.int x1, .int (m (sh_r (sh_r a0 1) 2) 3)]) (k1 := 1) (k2 := 6) (vo := fun _ => none) (s2 := fun _ => []) (by decide +kernel) ⟨rfl, rfl, rfl, rfl, rfl, rfl⟩ ⟨by omega, by omega⟩ (fun _ => rfl) (t_176 hN (b := 1) (z := 6) (by decide) (by decide) ) (fun _ m1 => ?_) (fun e7 m1 => ?_)
  · refine i_bl (pc' := 17) [(.iload_n 2, 1), (.iconst 0, 1), (.iconst 3, 1)] [some (.ref a0), some (.int x1), some (.int x2)] [.int 3, .int 0, .int x2] (by decide +kernel) rfl ?_
    refine i_es (t := 177) (na := 3) (ml := 3) (idx := 217) (pc' := 20) (st' := []) (en := [some (.int x2), some (.int 0), some (.int 3)]) (av := [.int x2, .int 0, .int 3]) (k1 := 1) (k2 := 6) (vo := fun _ => none) (s2 := fun _ => []) (by decide +kernel) ⟨rfl, rfl, rfl, rfl, rfl, rfl⟩ ⟨by omega, by omega⟩ (fun _ => rfl) (t_177 hN (b := 1) (z := 6) (by decide) (by decide) ) (fun _ m3 => ?_) (fun e6 m3 => ?_)
    · refine i_bl (pc' := 21) [(.aload_n 0, 1)] [some (.ref a0), some (.int x1), some (.int x2)] [.ref a0] (by decide +kernel) rfl ?_
      refine i_gr (idx := 19) (ci := 10) (k := 1) (t := 2) (p := 12127) (pc' := 24) (by decide +kernel) h0 ?_
      refine i_gr (idx := 146) (ci := 3) (k := 2) (t := 2) (p := 11180) (pc' := 27) (by decide +kernel) (o_10_1 hN h0) ?_
      refine i_bl (pc' := 29) [(.iload_n 1, 1), (.iload_n 2, 1)] [some (.ref a0), some (.int x1), some (.int x2)] [.int x2, .int x1, .ref (sh_r (sh_r a0 1) 2)] (by decide +kernel) rfl ?_
      refine i_cv (ci := 2) (t := 43) (na := 3) (ml := 3) (idx := 279) (pc' := 32) (st' := []) (en := [some (.ref (sh_r (sh_r a0 1) 2)), some (.int x1), some (.int x2)]) (av := [.int x1, .int x2]) (vo := fun v => some (.int v)) (mo := fun _ => m3) (s2 := fun v => .int v :: []) (by decide +kernel) (by decide +kernel) (o_3_2 hN (o_10_1 hN h0)) ⟨rfl, rfl, rfl, rfl, rfl, rfl⟩ (fun _ => rfl) (t_43 hN (h0 := (o_3_2 hN (o_10_1 hN h0)))) (fun v5 => ?_)
      exact i_ri (by decide +kernel) rfl
    · exact i_h0 (by decide +kernel) rfl
  · exact i_h0 (by decide +kernel) rfl

/-! 147 LanternChess.foretellNow(IIII)V -/
noncomputable def d_147 (a0 : Nat) (x1 : Int32) (x2 : Int32) (x3 : Int32) (x4 : Int32) (m : Mm) : Option ((Unit ⊕ Nat) × Mm) := bE (d_179 a0 x1 x2 x3 x4 m) (fun _ m1 => (d_12 x1 x2).bind fun v3 => (d_12 x3 x4).bind fun v4 => (d_59 (sh_r a0 1) (sh_r a0 6) v3 v4 (m1 (sh_r a0 1) 5) m1).bind fun m5 => some (.inl (), m5)) (fun e6 m1 => some (.inr e6, m1))
theorem t_147 {L nx : Nat} (hN : okn nx) {b z : Nat} (hb : 2 ≤ b) (hz : 12 ≤ z) {m : Mm} {a0 : Nat} (h0 : ok nx a0 10) {x1 : Int32} {x2 : Int32} {x3 : Int32} {x4 : Int32}  : Im (d_147 a0 x1 x2 x3 x4 m) (eV L nx) (ev_dn b z 147 0 [some (.ref a0), some (.int x1), some (.int x2), some (.int x3), some (.int x4)] [] (nx, mem L nx m)) := by
  unfold d_147
  refine i_bl (pc' := 6) [(.aload_n 0, 1), (.iload_n 1, 1), (.iload_n 2, 1), (.iload_n 3, 1), (.iload 4, 2)] [some (.ref a0), some (.int x1), some (.int x2), some (.int x3), some (.int x4)] [.int x4, .int x3, .int x2, .int x1, .ref a0] (by decide +kernel) rfl ?_
  refine i_ev (ci := 10) (t := 179) (na := 5) (ml := 5) (idx := 201) (pc' := 9) (st' := []) (en := [some (.ref a0), some (.int x1), some (.int x2), some (.int x3), some (.int x4)]) (av := [.int x1, .int x2, .int x3, .int x4]) (k1 := 2) (k2 := 12) (vo := fun _ => none) (s2 := fun _ => []) (by decide +kernel) (by decide +kernel) h0 ⟨rfl, rfl, rfl, rfl, rfl, rfl⟩ ⟨by omega, by omega⟩ (fun _ => rfl) (t_179 hN (b := 2) (z := 12) (by decide) (by decide) (h0 := h0)) (fun _ m1 => ?_) (fun e6 m1 => ?_)
  · refine i_bl (pc' := 10) [(.aload_n 0, 1)] [some (.ref a0), some (.int x1), some (.int x2), some (.int x3), some (.int x4)] [.ref a0] (by decide +kernel) rfl ?_
    refine i_gr (idx := 19) (ci := 10) (k := 1) (t := 2) (p := 12127) (pc' := 13) (by decide +kernel) h0 ?_
    refine i_bl (pc' := 14) [(.aload_n 0, 1)] [some (.ref a0), some (.int x1), some (.int x2), some (.int x3), some (.int x4)] [.ref a0, .ref (sh_r a0 1)] (by decide +kernel) rfl ?_
    refine i_gr (idx := 43) (ci := 10) (k := 6) (t := 2) (p := 12132) (pc' := 17) (by decide +kernel) h0 ?_
    refine i_bl (pc' := 19) [(.iload_n 1, 1), (.iload_n 2, 1)] [some (.ref a0), some (.int x1), some (.int x2), some (.int x3), some (.int x4)] [.int x2, .int x1, .ref (sh_r a0 6), .ref (sh_r a0 1)] (by decide +kernel) rfl ?_
    refine i_cs (t := 12) (na := 2) (ml := 2) (idx := 73) (pc' := 22) (st' := [.ref (sh_r a0 6), .ref (sh_r a0 1)]) (en := [some (.int x1), some (.int x2)]) (av := [.int x1, .int x2]) (vo := fun v => some (.int v)) (mo := fun _ => m1) (s2 := fun v => .int v :: [.ref (sh_r a0 6), .ref (sh_r a0 1)]) (by decide +kernel) ⟨rfl, rfl, rfl, rfl, rfl, rfl⟩ (fun _ => rfl) (t_12 hN ) (fun v3 => ?_)
    refine i_bl (pc' := 25) [(.iload_n 3, 1), (.iload 4, 2)] [some (.ref a0), some (.int x1), some (.int x2), some (.int x3), some (.int x4)] [.int x4, .int x3, .int v3, .ref (sh_r a0 6), .ref (sh_r a0 1)] (by decide +kernel) rfl ?_
    refine i_cs (t := 12) (na := 2) (ml := 2) (idx := 73) (pc' := 28) (st' := [.int v3, .ref (sh_r a0 6), .ref (sh_r a0 1)]) (en := [some (.int x3), some (.int x4)]) (av := [.int x3, .int x4]) (vo := fun v => some (.int v)) (mo := fun _ => m1) (s2 := fun v => .int v :: [.int v3, .ref (sh_r a0 6), .ref (sh_r a0 1)]) (by decide +kernel) ⟨rfl, rfl, rfl, rfl, rfl, rfl⟩ (fun _ => rfl) (t_12 hN ) (fun v4 => ?_)
    refine i_bl (pc' := 29) [(.aload_n 0, 1)] [some (.ref a0), some (.int x1), some (.int x2), some (.int x3), some (.int x4)] [.ref a0, .int v4, .int v3, .ref (sh_r a0 6), .ref (sh_r a0 1)] (by decide +kernel) rfl ?_
    refine i_gr (idx := 19) (ci := 10) (k := 1) (t := 2) (p := 12127) (pc' := 32) (by decide +kernel) h0 ?_
    refine i_gf (idx := 128) (ci := 3) (k := 5) (t := 0) (p := 11186) (pc' := 35) (by decide +kernel) (o_10_1 hN h0) ?_
    refine i_cv (ci := 3) (t := 59) (na := 5) (ml := 8) (idx := 297) (pc' := 38) (st' := []) (en := [some (.ref (sh_r a0 1)), some (.ref (sh_r a0 6)), some (.int v3), some (.int v4), some (.int (m1 (sh_r a0 1) 5)), none, none, none]) (av := [.ref (sh_r a0 6), .int v3, .int v4, .int (m1 (sh_r a0 1) 5)]) (vo := fun _ => none) (mo := fun m => m) (s2 := fun _ => []) (by decide +kernel) (by decide +kernel) (o_10_1 hN h0) ⟨rfl, rfl, rfl, rfl, rfl, rfl⟩ (fun _ => rfl) (t_59 hN (h0 := (o_10_1 hN h0)) (h1 := (o_10_6 hN h0))) (fun m5 => ?_)
    exact i_rv (by decide +kernel) rfl
  · exact i_h0 (by decide +kernel) rfl

/-! 143 LanternChess.group(IIIII)I -/
noncomputable def d_143 (a0 : Nat) (x1 : Int32) (x2 : Int32) (x3 : Int32) (x4 : Int32) (x5 : Int32) (m : Mm) : Option ((Int32 ⊕ Nat) × Mm) := bE (d_176 x5 6 m) (fun _ m1 => bE (d_147 a0 x1 x2 x3 x4 m1) (fun _ m3 => (d_84 (sh_r a0 6) x5 m3).bind fun v5 => some (.inl v5, m3)) (fun e6 m3 => some (.inr e6, m3))) (fun e7 m1 => some (.inr e7, m1))
theorem t_143 {L nx : Nat} (hN : okn nx) {b z : Nat} (hb : 3 ≤ b) (hz : 18 ≤ z) {m : Mm} {a0 : Nat} (h0 : ok nx a0 10) {x1 : Int32} {x2 : Int32} {x3 : Int32} {x4 : Int32} {x5 : Int32}  : Im (d_143 a0 x1 x2 x3 x4 x5 m) (eI L nx) (ev_dn b z 143 0 [some (.ref a0), some (.int x1), some (.int x2), some (.int x3), some (.int x4), some (.int x5)] [] (nx, mem L nx m)) := by
  unfold d_143
  refine i_bl (pc' := 4) [(.iload 5, 2), (.bipush (6), 2)] [some (.ref a0), some (.int x1), some (.int x2), some (.int x3), some (.int x4), some (.int x5)] [.int 6, .int x5] (by decide +kernel) rfl ?_
  refine i_es (t := 176) (na := 2) (ml := 2) (idx := 214) (pc' := 7) (st' := []) (en := [some (.int x5), some (.int 6)]) (av := [.int x5, .int 6]) (k1 := 1) (k2 := 6) (vo := fun _ => none) (s2 := fun _ => []) (by decide +kernel) ⟨rfl, rfl, rfl, rfl, rfl, rfl⟩ ⟨by omega, by omega⟩ (fun _ => rfl) (t_176 hN (b := 1) (z := 6) (by decide) (by decide) ) (fun _ m1 => ?_) (fun e7 m1 => ?_)
  · refine i_bl (pc' := 13) [(.aload_n 0, 1), (.iload_n 1, 1), (.iload_n 2, 1), (.iload_n 3, 1), (.iload 4, 2)] [some (.ref a0), some (.int x1), some (.int x2), some (.int x3), some (.int x4), some (.int x5)] [.int x4, .int x3, .int x2, .int x1, .ref a0] (by decide +kernel) rfl ?_
    refine i_ev (ci := 10) (t := 147) (na := 5) (ml := 5) (idx := 282) (pc' := 16) (st' := []) (en := [some (.ref a0), some (.int x1), some (.int x2), some (.int x3), some (.int x4)]) (av := [.int x1, .int x2, .int x3, .int x4]) (k1 := 2) (k2 := 12) (vo := fun _ => none) (s2 := fun _ => []) (by decide +kernel) (by decide +kernel) h0 ⟨rfl, rfl, rfl, rfl, rfl, rfl⟩ ⟨by omega, by omega⟩ (fun _ => rfl) (t_147 hN (b := 2) (z := 12) (by decide) (by decide) (h0 := h0)) (fun _ m3 => ?_) (fun e6 m3 => ?_)
    · refine i_bl (pc' := 17) [(.aload_n 0, 1)] [some (.ref a0), some (.int x1), some (.int x2), some (.int x3), some (.int x4), some (.int x5)] [.ref a0] (by decide +kernel) rfl ?_
      refine i_gr (idx := 43) (ci := 10) (k := 6) (t := 2) (p := 12132) (pc' := 20) (by decide +kernel) h0 ?_
      refine i_bl (pc' := 22) [(.iload 5, 2)] [some (.ref a0), some (.int x1), some (.int x2), some (.int x3), some (.int x4), some (.int x5)] [.int x5, .ref (sh_r a0 6)] (by decide +kernel) rfl ?_
      refine i_cv (ci := 7) (t := 84) (na := 2) (ml := 2) (idx := 285) (pc' := 25) (st' := []) (en := [some (.ref (sh_r a0 6)), some (.int x5)]) (av := [.int x5]) (vo := fun v => some (.int v)) (mo := fun _ => m3) (s2 := fun v => .int v :: []) (by decide +kernel) (by decide +kernel) (o_10_6 hN h0) ⟨rfl, rfl, rfl, rfl, rfl, rfl⟩ (fun _ => rfl) (t_84 hN (h0 := (o_10_6 hN h0))) (fun v5 => ?_)
      exact i_ri (by decide +kernel) rfl
    · exact i_h0 (by decide +kernel) rfl
  · exact i_h0 (by decide +kernel) rfl

/-! 144 LanternChess.seenOf(IIIII)I -/
noncomputable def d_144 (a0 : Nat) (x1 : Int32) (x2 : Int32) (x3 : Int32) (x4 : Int32) (x5 : Int32) (m : Mm) : Option ((Int32 ⊕ Nat) × Mm) := bE (d_176 x5 6 m) (fun _ m1 => bE (d_147 a0 x1 x2 x3 x4 m1) (fun _ m3 => (d_85 (sh_r a0 6) x5 m3).bind fun v5 => some (.inl v5, m3)) (fun e6 m3 => some (.inr e6, m3))) (fun e7 m1 => some (.inr e7, m1))
theorem t_144 {L nx : Nat} (hN : okn nx) {b z : Nat} (hb : 3 ≤ b) (hz : 18 ≤ z) {m : Mm} {a0 : Nat} (h0 : ok nx a0 10) {x1 : Int32} {x2 : Int32} {x3 : Int32} {x4 : Int32} {x5 : Int32}  : Im (d_144 a0 x1 x2 x3 x4 x5 m) (eI L nx) (ev_dn b z 144 0 [some (.ref a0), some (.int x1), some (.int x2), some (.int x3), some (.int x4), some (.int x5)] [] (nx, mem L nx m)) := by
  unfold d_144
  refine i_bl (pc' := 4) [(.iload 5, 2), (.bipush (6), 2)] [some (.ref a0), some (.int x1), some (.int x2), some (.int x3), some (.int x4), some (.int x5)] [.int 6, .int x5] (by decide +kernel) rfl ?_
  refine i_es (t := 176) (na := 2) (ml := 2) (idx := 214) (pc' := 7) (st' := []) (en := [some (.int x5), some (.int 6)]) (av := [.int x5, .int 6]) (k1 := 1) (k2 := 6) (vo := fun _ => none) (s2 := fun _ => []) (by decide +kernel) ⟨rfl, rfl, rfl, rfl, rfl, rfl⟩ ⟨by omega, by omega⟩ (fun _ => rfl) (t_176 hN (b := 1) (z := 6) (by decide) (by decide) ) (fun _ m1 => ?_) (fun e7 m1 => ?_)
  · refine i_bl (pc' := 13) [(.aload_n 0, 1), (.iload_n 1, 1), (.iload_n 2, 1), (.iload_n 3, 1), (.iload 4, 2)] [some (.ref a0), some (.int x1), some (.int x2), some (.int x3), some (.int x4), some (.int x5)] [.int x4, .int x3, .int x2, .int x1, .ref a0] (by decide +kernel) rfl ?_
    refine i_ev (ci := 10) (t := 147) (na := 5) (ml := 5) (idx := 282) (pc' := 16) (st' := []) (en := [some (.ref a0), some (.int x1), some (.int x2), some (.int x3), some (.int x4)]) (av := [.int x1, .int x2, .int x3, .int x4]) (k1 := 2) (k2 := 12) (vo := fun _ => none) (s2 := fun _ => []) (by decide +kernel) (by decide +kernel) h0 ⟨rfl, rfl, rfl, rfl, rfl, rfl⟩ ⟨by omega, by omega⟩ (fun _ => rfl) (t_147 hN (b := 2) (z := 12) (by decide) (by decide) (h0 := h0)) (fun _ m3 => ?_) (fun e6 m3 => ?_)
    · refine i_bl (pc' := 17) [(.aload_n 0, 1)] [some (.ref a0), some (.int x1), some (.int x2), some (.int x3), some (.int x4), some (.int x5)] [.ref a0] (by decide +kernel) rfl ?_
      refine i_gr (idx := 43) (ci := 10) (k := 6) (t := 2) (p := 12132) (pc' := 20) (by decide +kernel) h0 ?_
      refine i_bl (pc' := 22) [(.iload 5, 2)] [some (.ref a0), some (.int x1), some (.int x2), some (.int x3), some (.int x4), some (.int x5)] [.int x5, .ref (sh_r a0 6)] (by decide +kernel) rfl ?_
      refine i_cv (ci := 7) (t := 85) (na := 2) (ml := 2) (idx := 288) (pc' := 25) (st' := []) (en := [some (.ref (sh_r a0 6)), some (.int x5)]) (av := [.int x5]) (vo := fun v => some (.int v)) (mo := fun _ => m3) (s2 := fun v => .int v :: []) (by decide +kernel) (by decide +kernel) (o_10_6 hN h0) ⟨rfl, rfl, rfl, rfl, rfl, rfl⟩ (fun _ => rfl) (t_85 hN (h0 := (o_10_6 hN h0))) (fun v5 => ?_)
      exact i_ri (by decide +kernel) rfl
    · exact i_h0 (by decide +kernel) rfl
  · exact i_h0 (by decide +kernel) rfl

/-! 145 LanternChess.messageTicks(IIII)I -/
noncomputable def d_145 (a0 : Nat) (x1 : Int32) (x2 : Int32) (x3 : Int32) (x4 : Int32) (m : Mm) : Option ((Int32 ⊕ Nat) × Mm) := bE (d_147 a0 x1 x2 x3 x4 m) (fun _ m1 => some (.inl (m1 (sh_r a0 6) 2), m1)) (fun e3 m1 => some (.inr e3, m1))
theorem t_145 {L nx : Nat} (hN : okn nx) {b z : Nat} (hb : 2 ≤ b) (hz : 12 ≤ z) {m : Mm} {a0 : Nat} (h0 : ok nx a0 10) {x1 : Int32} {x2 : Int32} {x3 : Int32} {x4 : Int32}  : Im (d_145 a0 x1 x2 x3 x4 m) (eI L nx) (ev_dn b z 145 0 [some (.ref a0), some (.int x1), some (.int x2), some (.int x3), some (.int x4)] [] (nx, mem L nx m)) := by
  unfold d_145
  refine i_bl (pc' := 6) [(.aload_n 0, 1), (.iload_n 1, 1), (.iload_n 2, 1), (.iload_n 3, 1), (.iload 4, 2)] [some (.ref a0), some (.int x1), some (.int x2), some (.int x3), some (.int x4)] [.int x4, .int x3, .int x2, .int x1, .ref a0] (by decide +kernel) rfl ?_
  refine i_ev (ci := 10) (t := 147) (na := 5) (ml := 5) (idx := 282) (pc' := 9) (st' := []) (en := [some (.ref a0), some (.int x1), some (.int x2), some (.int x3), some (.int x4)]) (av := [.int x1, .int x2, .int x3, .int x4]) (k1 := 2) (k2 := 12) (vo := fun _ => none) (s2 := fun _ => []) (by decide +kernel) (by decide +kernel) h0 ⟨rfl, rfl, rfl, rfl, rfl, rfl⟩ ⟨by omega, by omega⟩ (fun _ => rfl) (t_147 hN (b := 2) (z := 12) (by decide) (by decide) (h0 := h0)) (fun _ m1 => ?_) (fun e3 m1 => ?_)
  · refine i_bl (pc' := 10) [(.aload_n 0, 1)] [some (.ref a0), some (.int x1), some (.int x2), some (.int x3), some (.int x4)] [.ref a0] (by decide +kernel) rfl ?_
    refine i_gr (idx := 43) (ci := 10) (k := 6) (t := 2) (p := 12132) (pc' := 13) (by decide +kernel) h0 ?_
    refine i_gf (idx := 291) (ci := 7) (k := 2) (t := 0) (p := 12019) (pc' := 16) (by decide +kernel) (o_10_6 hN h0) ?_
    exact i_ri (by decide +kernel) rfl
  · exact i_h0 (by decide +kernel) rfl

/-! 146 LanternChess.readsAs(IIII)I -/
noncomputable def d_146 (a0 : Nat) (x1 : Int32) (x2 : Int32) (x3 : Int32) (x4 : Int32) (m : Mm) : Option ((Int32 ⊕ Nat) × Mm) := bE (d_147 a0 x1 x2 x3 x4 m) (fun _ m1 => some (.inl (m1 (sh_r a0 6) 3), m1)) (fun e3 m1 => some (.inr e3, m1))
theorem t_146 {L nx : Nat} (hN : okn nx) {b z : Nat} (hb : 2 ≤ b) (hz : 12 ≤ z) {m : Mm} {a0 : Nat} (h0 : ok nx a0 10) {x1 : Int32} {x2 : Int32} {x3 : Int32} {x4 : Int32}  : Im (d_146 a0 x1 x2 x3 x4 m) (eI L nx) (ev_dn b z 146 0 [some (.ref a0), some (.int x1), some (.int x2), some (.int x3), some (.int x4)] [] (nx, mem L nx m)) := by
  unfold d_146
  refine i_bl (pc' := 6) [(.aload_n 0, 1), (.iload_n 1, 1), (.iload_n 2, 1), (.iload_n 3, 1), (.iload 4, 2)] [some (.ref a0), some (.int x1), some (.int x2), some (.int x3), some (.int x4)] [.int x4, .int x3, .int x2, .int x1, .ref a0] (by decide +kernel) rfl ?_
  refine i_ev (ci := 10) (t := 147) (na := 5) (ml := 5) (idx := 282) (pc' := 9) (st' := []) (en := [some (.ref a0), some (.int x1), some (.int x2), some (.int x3), some (.int x4)]) (av := [.int x1, .int x2, .int x3, .int x4]) (k1 := 2) (k2 := 12) (vo := fun _ => none) (s2 := fun _ => []) (by decide +kernel) (by decide +kernel) h0 ⟨rfl, rfl, rfl, rfl, rfl, rfl⟩ ⟨by omega, by omega⟩ (fun _ => rfl) (t_147 hN (b := 2) (z := 12) (by decide) (by decide) (h0 := h0)) (fun _ m1 => ?_) (fun e3 m1 => ?_)
  · refine i_bl (pc' := 10) [(.aload_n 0, 1)] [some (.ref a0), some (.int x1), some (.int x2), some (.int x3), some (.int x4)] [.ref a0] (by decide +kernel) rfl ?_
    refine i_gr (idx := 43) (ci := 10) (k := 6) (t := 2) (p := 12132) (pc' := 13) (by decide +kernel) h0 ?_
    refine i_gf (idx := 294) (ci := 7) (k := 3) (t := 0) (p := 12022) (pc' := 16) (by decide +kernel) (o_10_6 hN h0) ?_
    exact i_ri (by decide +kernel) rfl
  · exact i_h0 (by decide +kernel) rfl

/-! 180 LanternChess.needGoingOn()V -/
noncomputable def d_180 (a0 : Nat) (m : Mm) : Option ((Unit ⊕ Nat) × Mm) := if (m (sh_r a0 1) 7) = 0 then (some (.inl (), m)) else (some (.inr 2, m))
theorem t_180 {L nx : Nat} (hN : okn nx) {b z : Nat} (hb : 1 ≤ b) (hz : 6 ≤ z) {m : Mm} {a0 : Nat} (h0 : ok nx a0 10)   : Im (d_180 a0 m) (eV L nx) (ev_dn b z 180 0 [some (.ref a0)] [] (nx, mem L nx m)) := by
  unfold d_180
  refine i_bl (pc' := 1) [(.aload_n 0, 1)] [some (.ref a0)] [.ref a0] (by decide +kernel) rfl ?_
  refine i_gr (idx := 19) (ci := 10) (k := 1) (t := 2) (p := 12127) (pc' := 4) (by decide +kernel) h0 ?_
  refine i_gf (idx := 134) (ci := 3) (k := 7) (t := 0) (p := 11190) (pc' := 7) (by decide +kernel) (o_10_1 hN h0) ?_
  refine i_if (c := .eq) (off := 14) (t := 21) (pc' := 10) (p := (m (sh_r a0 1) 7) = 0) (by decide +kernel) rfl ?_ ?_
  · exact i_rv (by decide +kernel) rfl
  · exact i_th (i := .new 334) (k := 3) (by decide +kernel) ⟨by omega, by omega⟩ rfl

/-! 148 LanternChess.ifPlayed(IIIII)I -/
noncomputable def d_148 (a0 : Nat) (x1 : Int32) (x2 : Int32) (x3 : Int32) (x4 : Int32) (x5 : Int32) (m : Mm) : Option ((Int32 ⊕ Nat) × Mm) := bE (d_179 a0 x1 x2 x3 x4 m) (fun _ m1 => bE (d_177 x5 0 3 m1) (fun _ m3 => bE (d_180 a0 m3) (fun _ m5 => (d_49 (sh_r a0 2) (sh_r a0 1) m5).bind fun m7 => (d_12 x1 x2).bind fun v8 => (d_12 x3 x4).bind fun v9 => (d_60 (sh_r a0 2) (sh_r a0 6) v8 v9 m7).bind fun r10 => (if x5 = 0 then (some (.inl r10.1, r10.2)) else if x5 = 1 then (some (.inl ((r10.2 (sh_r a0 2) 5) - (r10.2 (sh_r a0 1) 5)), r10.2)) else if x5 = 2 then ((d_54 (sh_r a0 2) r10.2).bind fun v11 => some (.inl v11, r10.2)) else (if ¬ (r10.2 (sh_r a0 2) 7) = 0 then (some (.inl 1, r10.2)) else (some (.inl 0, r10.2))))) (fun e12 m5 => some (.inr e12, m5))) (fun e13 m3 => some (.inr e13, m3))) (fun e14 m1 => some (.inr e14, m1))
theorem t_148 {L nx : Nat} (hN : okn nx) {b z : Nat} (hb : 4 ≤ b) (hz : 24 ≤ z) {m : Mm} {a0 : Nat} (h0 : ok nx a0 10) {x1 : Int32} {x2 : Int32} {x3 : Int32} {x4 : Int32} {x5 : Int32}  : Im (d_148 a0 x1 x2 x3 x4 x5 m) (eI L nx) (ev_dn b z 148 0 [some (.ref a0), some (.int x1), some (.int x2), some (.int x3), some (.int x4), some (.int x5), none] [] (nx, mem L nx m)) := by
  unfold d_148
  refine i_bl (pc' := 6) [(.aload_n 0, 1), (.iload_n 1, 1), (.iload_n 2, 1), (.iload_n 3, 1), (.iload 4, 2)] [some (.ref a0), some (.int x1), some (.int x2), some (.int x3), some (.int x4), some (.int x5), none] [.int x4, .int x3, .int x2, .int x1, .ref a0] (by decide +kernel) rfl ?_
  refine i_ev (ci := 10) (t := 179) (na := 5) (ml := 5) (idx := 201) (pc' := 9) (st' := []) (en := [some (.ref a0), some (.int x1), some (.int x2), some (.int x3), some (.int x4)]) (av := [.int x1, .int x2, .int x3, .int x4]) (k1 := 2) (k2 := 12) (vo := fun _ => none) (s2 := fun _ => []) (by decide +kernel) (by decide +kernel) h0 ⟨rfl, rfl, rfl, rfl, rfl, rfl⟩ ⟨by omega, by omega⟩ (fun _ => rfl) (t_179 hN (b := 2) (z := 12) (by decide) (by decide) (h0 := h0)) (fun _ m1 => ?_) (fun e14 m1 => ?_)
  · refine i_bl (pc' := 13) [(.iload 5, 2), (.iconst 0, 1), (.iconst 3, 1)] [some (.ref a0), some (.int x1), some (.int x2), some (.int x3), some (.int x4), some (.int x5), none] [.int 3, .int 0, .int x5] (by decide +kernel) rfl ?_
    refine i_es (t := 177) (na := 3) (ml := 3) (idx := 217) (pc' := 16) (st' := []) (en := [some (.int x5), some (.int 0), some (.int 3)]) (av := [.int x5, .int 0, .int 3]) (k1 := 1) (k2 := 6) (vo := fun _ => none) (s2 := fun _ => []) (by decide +kernel) ⟨rfl, rfl, rfl, rfl, rfl, rfl⟩ ⟨by omega, by omega⟩ (fun _ => rfl) (t_177 hN (b := 1) (z := 6) (by decide) (by decide) ) (fun _ m3 => ?_) (fun e13 m3 => ?_)
    · refine i_bl (pc' := 17) [(.aload_n 0, 1)] [some (.ref a0), some (.int x1), some (.int x2), some (.int x3), some (.int x4), some (.int x5), none] [.ref a0] (by decide +kernel) rfl ?_
      refine i_ev (ci := 10) (t := 180) (na := 1) (ml := 1) (idx := 301) (pc' := 20) (st' := []) (en := [some (.ref a0)]) (av := []) (k1 := 1) (k2 := 6) (vo := fun _ => none) (s2 := fun _ => []) (by decide +kernel) (by decide +kernel) h0 ⟨rfl, rfl, rfl, rfl, rfl, rfl⟩ ⟨by omega, by omega⟩ (fun _ => rfl) (t_180 hN (b := 1) (z := 6) (by decide) (by decide) (h0 := h0)) (fun _ m5 => ?_) (fun e12 m5 => ?_)
      · refine i_bl (pc' := 21) [(.aload_n 0, 1)] [some (.ref a0), some (.int x1), some (.int x2), some (.int x3), some (.int x4), some (.int x5), none] [.ref a0] (by decide +kernel) rfl ?_
        refine i_gr (idx := 23) (ci := 10) (k := 2) (t := 2) (p := 12128) (pc' := 24) (by decide +kernel) h0 ?_
        refine i_bl (pc' := 25) [(.aload_n 0, 1)] [some (.ref a0), some (.int x1), some (.int x2), some (.int x3), some (.int x4), some (.int x5), none] [.ref a0, .ref (sh_r a0 2)] (by decide +kernel) rfl ?_
        refine i_gr (idx := 19) (ci := 10) (k := 1) (t := 2) (p := 12127) (pc' := 28) (by decide +kernel) h0 ?_
        refine i_cv (ci := 3) (t := 49) (na := 2) (ml := 2) (idx := 100) (pc' := 31) (st' := []) (en := [some (.ref (sh_r a0 2)), some (.ref (sh_r a0 1))]) (av := [.ref (sh_r a0 1)]) (vo := fun _ => none) (mo := fun m => m) (s2 := fun _ => []) (by decide +kernel) (by decide +kernel) (o_10_2 hN h0) ⟨rfl, rfl, rfl, rfl, rfl, rfl⟩ (fun _ => rfl) (t_49 hN (h0 := (o_10_2 hN h0)) (h1 := (o_10_1 hN h0))) (fun m7 => ?_)
        refine i_bl (pc' := 32) [(.aload_n 0, 1)] [some (.ref a0), some (.int x1), some (.int x2), some (.int x3), some (.int x4), some (.int x5), none] [.ref a0] (by decide +kernel) rfl ?_
        refine i_gr (idx := 23) (ci := 10) (k := 2) (t := 2) (p := 12128) (pc' := 35) (by decide +kernel) h0 ?_
        refine i_bl (pc' := 36) [(.aload_n 0, 1)] [some (.ref a0), some (.int x1), some (.int x2), some (.int x3), some (.int x4), some (.int x5), none] [.ref a0, .ref (sh_r a0 2)] (by decide +kernel) rfl ?_
        refine i_gr (idx := 43) (ci := 10) (k := 6) (t := 2) (p := 12132) (pc' := 39) (by decide +kernel) h0 ?_
        refine i_bl (pc' := 41) [(.iload_n 1, 1), (.iload_n 2, 1)] [some (.ref a0), some (.int x1), some (.int x2), some (.int x3), some (.int x4), some (.int x5), none] [.int x2, .int x1, .ref (sh_r a0 6), .ref (sh_r a0 2)] (by decide +kernel) rfl ?_
        refine i_cs (t := 12) (na := 2) (ml := 2) (idx := 73) (pc' := 44) (st' := [.ref (sh_r a0 6), .ref (sh_r a0 2)]) (en := [some (.int x1), some (.int x2)]) (av := [.int x1, .int x2]) (vo := fun v => some (.int v)) (mo := fun _ => m7) (s2 := fun v => .int v :: [.ref (sh_r a0 6), .ref (sh_r a0 2)]) (by decide +kernel) ⟨rfl, rfl, rfl, rfl, rfl, rfl⟩ (fun _ => rfl) (t_12 hN ) (fun v8 => ?_)
        refine i_bl (pc' := 47) [(.iload_n 3, 1), (.iload 4, 2)] [some (.ref a0), some (.int x1), some (.int x2), some (.int x3), some (.int x4), some (.int x5), none] [.int x4, .int x3, .int v8, .ref (sh_r a0 6), .ref (sh_r a0 2)] (by decide +kernel) rfl ?_
        refine i_cs (t := 12) (na := 2) (ml := 2) (idx := 73) (pc' := 50) (st' := [.int v8, .ref (sh_r a0 6), .ref (sh_r a0 2)]) (en := [some (.int x3), some (.int x4)]) (av := [.int x3, .int x4]) (vo := fun v => some (.int v)) (mo := fun _ => m7) (s2 := fun v => .int v :: [.int v8, .ref (sh_r a0 6), .ref (sh_r a0 2)]) (by decide +kernel) ⟨rfl, rfl, rfl, rfl, rfl, rfl⟩ (fun _ => rfl) (t_12 hN ) (fun v9 => ?_)
        refine i_cv (ci := 3) (t := 60) (na := 4) (ml := 7) (idx := 304) (pc' := 53) (st' := []) (en := [some (.ref (sh_r a0 2)), some (.ref (sh_r a0 6)), some (.int v8), some (.int v9), none, none, none]) (av := [.ref (sh_r a0 6), .int v8, .int v9]) (vo := fun v => some (.int v.1)) (mo := fun v => v.2) (s2 := fun v => .int v.1 :: []) (by decide +kernel) (by decide +kernel) (o_10_2 hN h0) ⟨rfl, rfl, rfl, rfl, rfl, rfl⟩ (fun _ => rfl) (t_60 hN (h0 := (o_10_2 hN h0)) (h1 := (o_10_6 hN h0))) (fun r10 => ?_)
        refine i_bl (pc' := 57) [(.istore 6, 2), (.iload 5, 2)] [some (.ref a0), some (.int x1), some (.int x2), some (.int x3), some (.int x4), some (.int x5), some (.int r10.1)] [.int x5] (by decide +kernel) rfl ?_
        refine i_sw (n := 27) (dd := (54)) (lo0 := (0)) (hi0 := (2)) (offs := #[(27), (30), (46)]) (d := 111) (ts := [84, 87, 103]) (cs := [(0, 84), (1, 87), (2, 103)]) (by decide +kernel) ?_
        refine i_sc (c := 0) (by decide +kernel) ?_ ?_
        · refine i_bl (pc' := 86) [(.iload 6, 2)] [some (.ref a0), some (.int x1), some (.int x2), some (.int x3), some (.int x4), some (.int x5), some (.int r10.1)] [.int r10.1] (by decide +kernel) rfl ?_
          exact i_ri (by decide +kernel) rfl
        refine i_sc (c := 1) (by decide +kernel) ?_ ?_
        · refine i_bl (pc' := 88) [(.aload_n 0, 1)] [some (.ref a0), some (.int x1), some (.int x2), some (.int x3), some (.int x4), some (.int x5), some (.int r10.1)] [.ref a0] (by decide +kernel) rfl ?_
          refine i_gr (idx := 23) (ci := 10) (k := 2) (t := 2) (p := 12128) (pc' := 91) (by decide +kernel) h0 ?_
          refine i_gf (idx := 128) (ci := 3) (k := 5) (t := 0) (p := 11186) (pc' := 94) (by decide +kernel) (o_10_2 hN h0) ?_
          refine i_bl (pc' := 95) [(.aload_n 0, 1)] [some (.ref a0), some (.int x1), some (.int x2), some (.int x3), some (.int x4), some (.int x5), some (.int r10.1)] [.ref a0, .int (r10.2 (sh_r a0 2) 5)] (by decide +kernel) rfl ?_
          refine i_gr (idx := 19) (ci := 10) (k := 1) (t := 2) (p := 12127) (pc' := 98) (by decide +kernel) h0 ?_
          refine i_gf (idx := 128) (ci := 3) (k := 5) (t := 0) (p := 11186) (pc' := 101) (by decide +kernel) (o_10_1 hN h0) ?_
          refine i_bl (pc' := 102) [(.isub, 1)] [some (.ref a0), some (.int x1), some (.int x2), some (.int x3), some (.int x4), some (.int x5), some (.int r10.1)] [.int ((r10.2 (sh_r a0 2) 5) - (r10.2 (sh_r a0 1) 5))] (by decide +kernel) rfl ?_
          exact i_ri (by decide +kernel) rfl
        refine i_sc (c := 2) (by decide +kernel) ?_ ?_
        · refine i_bl (pc' := 104) [(.aload_n 0, 1)] [some (.ref a0), some (.int x1), some (.int x2), some (.int x3), some (.int x4), some (.int x5), some (.int r10.1)] [.ref a0] (by decide +kernel) rfl ?_
          refine i_gr (idx := 23) (ci := 10) (k := 2) (t := 2) (p := 12128) (pc' := 107) (by decide +kernel) h0 ?_
          refine i_cv (ci := 3) (t := 54) (na := 1) (ml := 1) (idx := 259) (pc' := 110) (st' := []) (en := [some (.ref (sh_r a0 2))]) (av := []) (vo := fun v => some (.int v)) (mo := fun _ => r10.2) (s2 := fun v => .int v :: []) (by decide +kernel) (by decide +kernel) (o_10_2 hN h0) ⟨rfl, rfl, rfl, rfl, rfl, rfl⟩ (fun _ => rfl) (t_54 hN (h0 := (o_10_2 hN h0))) (fun v11 => ?_)
          exact i_ri (by decide +kernel) rfl
        refine i_s0 ?_
        refine i_bl (pc' := 112) [(.aload_n 0, 1)] [some (.ref a0), some (.int x1), some (.int x2), some (.int x3), some (.int x4), some (.int x5), some (.int r10.1)] [.ref a0] (by decide +kernel) rfl ?_
        refine i_gr (idx := 23) (ci := 10) (k := 2) (t := 2) (p := 12128) (pc' := 115) (by decide +kernel) h0 ?_
        refine i_gf (idx := 134) (ci := 3) (k := 7) (t := 0) (p := 11190) (pc' := 118) (by decide +kernel) (o_10_2 hN h0) ?_
        refine i_if (c := .ne) (off := 7) (t := 125) (pc' := 121) (p := ¬ (r10.2 (sh_r a0 2) 7) = 0) (by decide +kernel) rfl ?_ ?_
        · refine i_bl (pc' := 126) [(.iconst 1, 1)] [some (.ref a0), some (.int x1), some (.int x2), some (.int x3), some (.int x4), some (.int x5), some (.int r10.1)] [.int 1] (by decide +kernel) rfl ?_
          exact i_ri (by decide +kernel) rfl
        · refine i_bl (pc' := 122) [(.iconst 0, 1)] [some (.ref a0), some (.int x1), some (.int x2), some (.int x3), some (.int x4), some (.int x5), some (.int r10.1)] [.int 0] (by decide +kernel) rfl ?_
          refine i_go (t := 126) (off := 4) (by decide +kernel) ?_
          exact i_ri (by decide +kernel) rfl
      · exact i_h0 (by decide +kernel) rfl
    · exact i_h0 (by decide +kernel) rfl
  · exact i_h0 (by decide +kernel) rfl

