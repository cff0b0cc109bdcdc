/-! Programs in numbers, and that the evaluator answers what they answer. -/
/-! 88 LanternChess$Sending.watch(LLanternChess$Fogs;II)V -/
noncomputable def E_88_6 (L nx b z : Nat) (a0 : Nat) (a1 : Nat) (x2 : Int32) (x3 : Int32) (d : Unit) (s : (Int32 × Int32 × Mm)) : ev_Q := ev_dn b z 88 6 [some (.ref a0), some (.ref a1), some (.int x2), some (.int x3), some (.int s.1), some (.int s.2.1)] [] (nx, mem L nx s.2.2)
noncomputable def d_88_53 (a0 : Nat) (x2 : Int32) (x4 : Int32) (m : Mm) : Option Mm := wb (wr m a0 2 (x4 - x2)) fun m1 => some m1
theorem t_88_53 {L nx : Nat} (hN : okn nx) {b z : Nat} {m : Mm} {a0 : Nat} (h0 : ok nx a0 7) {x2 : Int32} {x4 : Int32} {o1 : Option Value} {o3 : Option Value} {o5 : Option Value} : Im (d_88_53 a0 x2 x4 m) (wV L nx) (ev_dn b z 88 53 [some (.ref a0), o1, some (.int x2), o3, some (.int x4), o5] [] (nx, mem L nx m)) := by
  unfold d_88_53
  refine i_bl (pc' := 58) [(.aload_n 0, 1), (.iload 4, 2), (.iload_n 2, 1), (.isub, 1)] [some (.ref a0), o1, some (.int x2), o3, some (.int x4), o5] [.int (x4 - x2), .ref a0] (by decide +kernel) rfl ?_
  refine i_pf (x := (x4 - x2)) (idx := 18) (ci := 7) (k := 2) (p := 12019) (pc' := 61) (by decide +kernel) h0 (fun m1 => ?_)
  exact i_rv (by decide +kernel) rfl

noncomputable def s_88_6 (a0 : Nat) (a1 : Nat) (x2 : Int32) (x3 : Int32) (x4 : Int32) (x5 : Int32) (m : Mm) : Option ((Int32 × Int32 × Mm) ⊕ Mm) := if 6 ≤ x5 then ((d_88_53 a0 x2 x4 m).map Sum.inr) else (if ev_in x5 (sh_n (sh_r a0 0)) = true then ((d_45 a1 x4 (m (sh_r a0 0) (ix x5)) m).bind fun v2 => if ev_in x5 (sh_n (sh_r a0 1)) = true then (wb (wr m (sh_r a0 1) (ix x5) v2) fun m3 => if ev_in x5 (sh_n (sh_r a0 0)) = true then (wb (x4 + ((m3 (sh_r a0 0) (ix x5)) + x3)) fun y4 => wb (x5 + 1) fun y5 => some (.inl (y4, y5, m3))) else none) else none) else none)
noncomputable def d_88_6 (a0 : Nat) (a1 : Nat) (x2 : Int32) (x3 : Int32) (x4 : Int32) (x5 : Int32) (m : Mm) : Option Mm := it (fun s => s_88_6 a0 a1 x2 x3 s.1 s.2.1 s.2.2) (x4, x5, m)
theorem e_88_6 (a0 : Nat) (a1 : Nat) (x2 : Int32) (x3 : Int32) (x4 : Int32) (x5 : Int32) (m : Mm) : d_88_6 a0 a1 x2 x3 x4 x5 m = oi (s_88_6 a0 a1 x2 x3 x4 x5 m) (fun s => d_88_6 a0 a1 x2 x3 s.1 s.2.1 s.2.2) := it_eq _
theorem u_88_6 {L nx : Nat} (hN : okn nx) {b z : Nat} {m : Mm} {a0 : Nat} (h0 : ok nx a0 7) {a1 : Nat} (h1 : ok nx a1 2) {x2 : Int32} {x3 : Int32} {x4 : Int32} {x5 : Int32}  : Im (s_88_6 a0 a1 x2 x3 x4 x5 m) (kL (wV L nx) (E_88_6 L nx b z a0 a1 x2 x3)) (ev_dn b z 88 6 [some (.ref a0), some (.ref a1), some (.int x2), some (.int x3), some (.int x4), some (.int x5)] [] (nx, mem L nx m)) := by
  unfold s_88_6
  refine i_bl (pc' := 10) [(.iload 5, 2), (.bipush (6), 2)] [some (.ref a0), some (.ref a1), some (.int x2), some (.int x3), some (.int x4), some (.int x5)] [.int 6, .int x5] (by decide +kernel) rfl ?_
  refine i_ic (c := .ge) (off := 43) (t := 53) (pc' := 13) (p := 6 ≤ x5) (by decide +kernel) rfl ?_ ?_
  · exact i_mr (t_88_53 hN (h0 := h0))
  · refine i_bl (pc' := 14) [(.aload_n 0, 1)] [some (.ref a0), some (.ref a1), some (.int x2), some (.int x3), some (.int x4), some (.int x5)] [.ref a0] (by decide +kernel) rfl ?_
    refine i_gr (idx := 15) (ci := 7) (k := 1) (t := 2) (p := 12018) (pc' := 17) (by decide +kernel) h0 ?_
    refine i_bl (pc' := 23) [(.iload 5, 2), (.aload_n 1, 1), (.iload 4, 2), (.aload_n 0, 1)] [some (.ref a0), some (.ref a1), some (.int x2), some (.int x3), some (.int x4), some (.int x5)] [.ref a0, .int x4, .ref a1, .int x5, .ref (sh_r a0 1)] (by decide +kernel) rfl ?_
    refine i_gr (idx := 9) (ci := 7) (k := 0) (t := 2) (p := 12017) (pc' := 26) (by decide +kernel) h0 ?_
    refine i_bl (pc' := 28) [(.iload 5, 2)] [some (.ref a0), some (.ref a1), some (.int x2), some (.int x3), some (.int x4), some (.int x5)] [.int x5, .ref (sh_r a0 0), .int x4, .ref a1, .int x5, .ref (sh_r a0 1)] (by decide +kernel) rfl ?_
    refine i_al (pc' := 29) (by decide +kernel) (o_7_0 hN h0) ?_
    refine i_cv (ci := 2) (t := 45) (na := 3) (ml := 5) (idx := 51) (pc' := 32) (st' := [.int x5, .ref (sh_r a0 1)]) (en := [some (.ref a1), some (.int x4), some (.int (m (sh_r a0 0) (ix x5))), none, none]) (av := [.int x4, .int (m (sh_r a0 0) (ix x5))]) (vo := fun v => some (.int v)) (mo := fun _ => m) (s2 := fun v => .int v :: [.int x5, .ref (sh_r a0 1)]) (by decide +kernel) (by decide +kernel) h1 ⟨rfl, rfl, rfl, rfl, rfl, rfl⟩ (fun _ => rfl) (t_45 hN (h0 := h1)) (fun v2 => ?_)
    refine i_as (y := v2) (pc' := 33) (by decide +kernel) (o_7_1 hN h0) (fun m3 => ?_)
    refine i_bl (pc' := 36) [(.iload 4, 2), (.aload_n 0, 1)] [some (.ref a0), some (.ref a1), some (.int x2), some (.int x3), some (.int x4), some (.int x5)] [.ref a0, .int x4] (by decide +kernel) rfl ?_
    refine i_gr (idx := 9) (ci := 7) (k := 0) (t := 2) (p := 12017) (pc' := 39) (by decide +kernel) h0 ?_
    refine i_bl (pc' := 41) [(.iload 5, 2)] [some (.ref a0), some (.ref a1), some (.int x2), some (.int x3), some (.int x4), some (.int x5)] [.int x5, .ref (sh_r a0 0), .int x4] (by decide +kernel) rfl ?_
    refine i_al (pc' := 42) (by decide +kernel) (o_7_0 hN h0) ?_
    refine i_bl (pc' := 47) [(.iload_n 3, 1), (.iadd, 1), (.iadd, 1), (.istore 4, 2)] [some (.ref a0), some (.ref a1), some (.int x2), some (.int x3), some (.int (x4 + ((m3 (sh_r a0 0) (ix x5)) + x3))), some (.int x5)] [] (by decide +kernel) rfl ?_
    refine i_wb (fun y4 => ev_dn b z 88 47 [some (.ref a0), some (.ref a1), some (.int x2), some (.int x3), some (.int y4), some (.int x5)] [] (nx, mem L nx m3)) (fun y4 => ?_)
    refine i_bl (pc' := 50) [(.iinc 5 (1), 3)] [some (.ref a0), some (.ref a1), some (.int x2), some (.int x3), some (.int y4), some (.int (x5 + 1))] [] (by decide +kernel) rfl ?_
    refine i_wb (fun y5 => ev_dn b z 88 50 [some (.ref a0), some (.ref a1), some (.int x2), some (.int x3), some (.int y4), some (.int y5)] [] (nx, mem L nx m3)) (fun y5 => ?_)
    refine i_go (t := 6) (off := -44) (by decide +kernel) ?_
    exact i_co () rfl

theorem t_88_6 {L nx : Nat} (hN : okn nx) {b z : Nat} {m : Mm} {a0 : Nat} (h0 : ok nx a0 7) {a1 : Nat} (h1 : ok nx a1 2) {x2 : Int32} {x3 : Int32} {x4 : Int32} {x5 : Int32}  : Im (d_88_6 a0 a1 x2 x3 x4 x5 m) (wV L nx) (ev_dn b z 88 6 [some (.ref a0), some (.ref a1), some (.int x2), some (.int x3), some (.int x4), some (.int x5)] [] (nx, mem L nx m)) := by
  exact i_it (f := fun s => s_88_6 a0 a1 x2 x3 s.1 s.2.1 s.2.2) (E := E_88_6 L nx b z a0 a1 x2 x3) (K := (wV L nx)) (fun d s => u_88_6 hN (h0 := h0) (h1 := h1)) () (x4, x5, m)
noncomputable def d_88 (a0 : Nat) (a1 : Nat) (x2 : Int32) (x3 : Int32) (m : Mm) : Option Mm := d_88_6 a0 a1 x2 x3 x2 0 m
theorem t_88 {L nx : Nat} (hN : okn nx) {b z : Nat} {m : Mm} {a0 : Nat} (h0 : ok nx a0 7) {a1 : Nat} (h1 : ok nx a1 2) {x2 : Int32} {x3 : Int32}  : Im (d_88 a0 a1 x2 x3 m) (wV L nx) (ev_dn b z 88 0 [some (.ref a0), some (.ref a1), some (.int x2), some (.int x3), none, none] [] (nx, mem L nx m)) := by
  unfold d_88
  refine i_bl (pc' := 6) [(.iload_n 2, 1), (.istore 4, 2), (.iconst 0, 1), (.istore 5, 2)] [some (.ref a0), some (.ref a1), some (.int x2), some (.int x3), some (.int x2), some (.int 0)] [] (by decide +kernel) rfl ?_
  exact t_88_6 hN (h0 := h0) (h1 := h1)

/-! 89 LanternChess$Sending.isWhole(LLanternChess$Field;)Z -/
noncomputable def d_89_25 (a0 : Nat) (a1 : Nat) (s0 : Bool) (m : Mm) : Option Bool := if ev_in 1 (sh_n (sh_r a0 1)) = true then (if ev_in 2 (sh_n (sh_r a0 1)) = true then ((d_15 a1 ((m (sh_r a0 1) (ix 1)) - 1) ((m (sh_r a0 1) (ix 2)) - 1) m).bind fun v1 => if ev_in 3 (sh_n (sh_r a0 1)) = true then (if ev_in 4 (sh_n (sh_r a0 1)) = true then ((d_15 a1 ((m (sh_r a0 1) (ix 3)) - 1) ((m (sh_r a0 1) (ix 4)) - 1) m).bind fun v2 => if s0 = true then (if v1 = true then (if v2 = true then (if ev_in 5 (sh_n (sh_r a0 1)) = true then ((d_87 (sh_r a0 1) m).bind fun v3 => if ¬ (m (sh_r a0 1) (ix 5)) = v3 then (some false) else (some true)) else none) else (some false)) else (some false)) else (some false)) else none) else none) else none) else none
theorem t_89_25 {L nx : Nat} (hN : okn nx) {b z : Nat} {m : Mm} {a0 : Nat} (h0 : ok nx a0 7) {a1 : Nat} (h1 : ok nx a1 1) {s0 : Bool}  : Im (d_89_25 a0 a1 s0 m) (kZ L nx m) (ev_dn b z 89 25 [some (.ref a0), some (.ref a1), none, none, none] [.int (bi s0)] (nx, mem L nx m)) := by
  unfold d_89_25
  refine i_bl (pc' := 28) [(.istore_n 2, 1), (.aload_n 1, 1), (.aload_n 0, 1)] [some (.ref a0), some (.ref a1), some (.int (bi s0)), none, none] [.ref a0, .ref a1] (by decide +kernel) rfl ?_
  refine i_gr (idx := 15) (ci := 7) (k := 1) (t := 2) (p := 12018) (pc' := 31) (by decide +kernel) h0 ?_
  refine i_bl (pc' := 32) [(.iconst 1, 1)] [some (.ref a0), some (.ref a1), some (.int (bi s0)), none, none] [.int 1, .ref (sh_r a0 1), .ref a1] (by decide +kernel) rfl ?_
  refine i_al (pc' := 33) (by decide +kernel) (o_7_1 hN h0) ?_
  refine i_bl (pc' := 36) [(.iconst 1, 1), (.isub, 1), (.aload_n 0, 1)] [some (.ref a0), some (.ref a1), some (.int (bi s0)), none, none] [.ref a0, .int ((m (sh_r a0 1) (ix 1)) - 1), .ref a1] (by decide +kernel) rfl ?_
  refine i_gr (idx := 15) (ci := 7) (k := 1) (t := 2) (p := 12018) (pc' := 39) (by decide +kernel) h0 ?_
  refine i_bl (pc' := 40) [(.iconst 2, 1)] [some (.ref a0), some (.ref a1), some (.int (bi s0)), none, none] [.int 2, .ref (sh_r a0 1), .int ((m (sh_r a0 1) (ix 1)) - 1), .ref a1] (by decide +kernel) rfl ?_
  refine i_al (pc' := 41) (by decide +kernel) (o_7_1 hN h0) ?_
  refine i_bl (pc' := 43) [(.iconst 1, 1), (.isub, 1)] [some (.ref a0), some (.ref a1), some (.int (bi s0)), none, none] [.int ((m (sh_r a0 1) (ix 2)) - 1), .int ((m (sh_r a0 1) (ix 1)) - 1), .ref a1] (by decide +kernel) rfl ?_
  refine i_cv (ci := 1) (t := 15) (na := 3) (ml := 3) (idx := 57) (pc' := 46) (st' := []) (en := [some (.ref a1), some (.int ((m (sh_r a0 1) (ix 1)) - 1)), some (.int ((m (sh_r a0 1) (ix 2)) - 1))]) (av := [.int ((m (sh_r a0 1) (ix 1)) - 1), .int ((m (sh_r a0 1) (ix 2)) - 1)]) (vo := fun v => some (.int (bi v))) (mo := fun _ => m) (s2 := fun v => .int (bi v) :: []) (by decide +kernel) (by decide +kernel) h1 ⟨rfl, rfl, rfl, rfl, rfl, rfl⟩ (fun _ => rfl) (t_15 hN (h0 := h1)) (fun v1 => ?_)
  refine i_bl (pc' := 49) [(.istore_n 3, 1), (.aload_n 1, 1), (.aload_n 0, 1)] [some (.ref a0), some (.ref a1), some (.int (bi s0)), some (.int (bi v1)), none] [.ref a0, .ref a1] (by decide +kernel) rfl ?_
  refine i_gr (idx := 15) (ci := 7) (k := 1) (t := 2) (p := 12018) (pc' := 52) (by decide +kernel) h0 ?_
  refine i_bl (pc' := 53) [(.iconst 3, 1)] [some (.ref a0), some (.ref a1), some (.int (bi s0)), some (.int (bi v1)), none] [.int 3, .ref (sh_r a0 1), .ref a1] (by decide +kernel) rfl ?_
  refine i_al (pc' := 54) (by decide +kernel) (o_7_1 hN h0) ?_
  refine i_bl (pc' := 57) [(.iconst 1, 1), (.isub, 1), (.aload_n 0, 1)] [some (.ref a0), some (.ref a1), some (.int (bi s0)), some (.int (bi v1)), none] [.ref a0, .int ((m (sh_r a0 1) (ix 3)) - 1), .ref a1] (by decide +kernel) rfl ?_
  refine i_gr (idx := 15) (ci := 7) (k := 1) (t := 2) (p := 12018) (pc' := 60) (by decide +kernel) h0 ?_
  refine i_bl (pc' := 61) [(.iconst 4, 1)] [some (.ref a0), some (.ref a1), some (.int (bi s0)), some (.int (bi v1)), none] [.int 4, .ref (sh_r a0 1), .int ((m (sh_r a0 1) (ix 3)) - 1), .ref a1] (by decide +kernel) rfl ?_
  refine i_al (pc' := 62) (by decide +kernel) (o_7_1 hN h0) ?_
  refine i_bl (pc' := 64) [(.iconst 1, 1), (.isub, 1)] [some (.ref a0), some (.ref a1), some (.int (bi s0)), some (.int (bi v1)), none] [.int ((m (sh_r a0 1) (ix 4)) - 1), .int ((m (sh_r a0 1) (ix 3)) - 1), .ref a1] (by decide +kernel) rfl ?_
  refine i_cv (ci := 1) (t := 15) (na := 3) (ml := 3) (idx := 57) (pc' := 67) (st' := []) (en := [some (.ref a1), some (.int ((m (sh_r a0 1) (ix 3)) - 1)), some (.int ((m (sh_r a0 1) (ix 4)) - 1))]) (av := [.int ((m (sh_r a0 1) (ix 3)) - 1), .int ((m (sh_r a0 1) (ix 4)) - 1)]) (vo := fun v => some (.int (bi v))) (mo := fun _ => m) (s2 := fun v => .int (bi v) :: []) (by decide +kernel) (by decide +kernel) h1 ⟨rfl, rfl, rfl, rfl, rfl, rfl⟩ (fun _ => rfl) (t_15 hN (h0 := h1)) (fun v2 => ?_)
  refine i_bl (pc' := 70) [(.istore 4, 2), (.iload_n 2, 1)] [some (.ref a0), some (.ref a1), some (.int (bi s0)), some (.int (bi v1)), some (.int (bi v2))] [.int (bi s0)] (by decide +kernel) rfl ?_
  refine i_bz (off := 32) (t := 102) (pc' := 73) (by decide +kernel) ?_ ?_
  · refine i_bl (pc' := 74) [(.iload_n 3, 1)] [some (.ref a0), some (.ref a1), some (.int (bi s0)), some (.int (bi v1)), some (.int (bi v2))] [.int (bi v1)] (by decide +kernel) rfl ?_
    refine i_bz (off := 28) (t := 102) (pc' := 77) (by decide +kernel) ?_ ?_
    · refine i_bl (pc' := 79) [(.iload 4, 2)] [some (.ref a0), some (.ref a1), some (.int (bi s0)), some (.int (bi v1)), some (.int (bi v2))] [.int (bi v2)] (by decide +kernel) rfl ?_
      refine i_bz (off := 23) (t := 102) (pc' := 82) (by decide +kernel) ?_ ?_
      · refine i_bl (pc' := 83) [(.aload_n 0, 1)] [some (.ref a0), some (.ref a1), some (.int (bi s0)), some (.int (bi v1)), some (.int (bi v2))] [.ref a0] (by decide +kernel) rfl ?_
        refine i_gr (idx := 15) (ci := 7) (k := 1) (t := 2) (p := 12018) (pc' := 86) (by decide +kernel) h0 ?_
        refine i_bl (pc' := 87) [(.iconst 5, 1)] [some (.ref a0), some (.ref a1), some (.int (bi s0)), some (.int (bi v1)), some (.int (bi v2))] [.int 5, .ref (sh_r a0 1)] (by decide +kernel) rfl ?_
        refine i_al (pc' := 88) (by decide +kernel) (o_7_1 hN h0) ?_
        refine i_bl (pc' := 89) [(.aload_n 0, 1)] [some (.ref a0), some (.ref a1), some (.int (bi s0)), some (.int (bi v1)), some (.int (bi v2))] [.ref a0, .int (m (sh_r a0 1) (ix 5))] (by decide +kernel) rfl ?_
        refine i_gr (idx := 15) (ci := 7) (k := 1) (t := 2) (p := 12018) (pc' := 92) (by decide +kernel) h0 ?_
        refine i_cs (t := 87) (na := 1) (ml := 3) (idx := 47) (pc' := 95) (st' := [.int (m (sh_r a0 1) (ix 5))]) (en := [some (.ref (sh_r a0 1)), none, none]) (av := [.ref (sh_r a0 1)]) (vo := fun v => some (.int v)) (mo := fun _ => m) (s2 := fun v => .int v :: [.int (m (sh_r a0 1) (ix 5))]) (by decide +kernel) ⟨rfl, rfl, rfl, rfl, rfl, rfl⟩ (fun _ => rfl) (t_87 hN (h0 := (o_7_1 hN h0))) (fun v3 => ?_)
        refine i_ic (c := .ne) (off := 7) (t := 102) (pc' := 98) (p := ¬ (m (sh_r a0 1) (ix 5)) = v3) (by decide +kernel) rfl ?_ ?_
        · refine i_bl (pc' := 103) [(.iconst 0, 1)] [some (.ref a0), some (.ref a1), some (.int (bi s0)), some (.int (bi v1)), some (.int (bi v2))] [.int 0] (by decide +kernel) rfl ?_
          exact i_rz (B := false) (by decide +kernel) rfl
        · refine i_bl (pc' := 99) [(.iconst 1, 1)] [some (.ref a0), some (.ref a1), some (.int (bi s0)), some (.int (bi v1)), some (.int (bi v2))] [.int 1] (by decide +kernel) rfl ?_
          refine i_go (t := 103) (off := 4) (by decide +kernel) ?_
          exact i_rz (B := true) (by decide +kernel) rfl
      · refine i_bl (pc' := 103) [(.iconst 0, 1)] [some (.ref a0), some (.ref a1), some (.int (bi s0)), some (.int (bi v1)), some (.int (bi v2))] [.int 0] (by decide +kernel) rfl ?_
        exact i_rz (B := false) (by decide +kernel) rfl
    · refine i_bl (pc' := 103) [(.iconst 0, 1)] [some (.ref a0), some (.ref a1), some (.int (bi s0)), some (.int (bi v1)), some (.int (bi v2))] [.int 0] (by decide +kernel) rfl ?_
      exact i_rz (B := false) (by decide +kernel) rfl
  · refine i_bl (pc' := 103) [(.iconst 0, 1)] [some (.ref a0), some (.ref a1), some (.int (bi s0)), some (.int (bi v1)), some (.int (bi v2))] [.int 0] (by decide +kernel) rfl ?_
    exact i_rz (B := false) (by decide +kernel) rfl

noncomputable def d_89 (a0 : Nat) (a1 : Nat) (m : Mm) : Option Bool := if ev_in 0 (sh_n (sh_r a0 1)) = true then (if (m (sh_r a0 1) (ix 0)) = 1 then (d_89_25 a0 a1 true m) else (if ev_in 0 (sh_n (sh_r a0 1)) = true then (if ¬ (m (sh_r a0 1) (ix 0)) = 2 then (d_89_25 a0 a1 false m) else (d_89_25 a0 a1 true m)) else none)) else none
theorem t_89 {L nx : Nat} (hN : okn nx) {b z : Nat} {m : Mm} {a0 : Nat} (h0 : ok nx a0 7) {a1 : Nat} (h1 : ok nx a1 1)   : Im (d_89 a0 a1 m) (kZ L nx m) (ev_dn b z 89 0 [some (.ref a0), some (.ref a1), none, none, none] [] (nx, mem L nx m)) := by
  unfold d_89
  refine i_bl (pc' := 1) [(.aload_n 0, 1)] [some (.ref a0), some (.ref a1), none, none, none] [.ref a0] (by decide +kernel) rfl ?_
  refine i_gr (idx := 15) (ci := 7) (k := 1) (t := 2) (p := 12018) (pc' := 4) (by decide +kernel) h0 ?_
  refine i_bl (pc' := 5) [(.iconst 0, 1)] [some (.ref a0), some (.ref a1), none, none, none] [.int 0, .ref (sh_r a0 1)] (by decide +kernel) rfl ?_
  refine i_al (pc' := 6) (by decide +kernel) (o_7_1 hN h0) ?_
  refine i_bl (pc' := 7) [(.iconst 1, 1)] [some (.ref a0), some (.ref a1), none, none, none] [.int 1, .int (m (sh_r a0 1) (ix 0))] (by decide +kernel) rfl ?_
  refine i_ic (c := .eq) (off := 13) (t := 20) (pc' := 10) (p := (m (sh_r a0 1) (ix 0)) = 1) (by decide +kernel) rfl ?_ ?_
  · refine i_bl (pc' := 21) [(.iconst 1, 1)] [some (.ref a0), some (.ref a1), none, none, none] [.int 1] (by decide +kernel) rfl ?_
    refine i_go (t := 25) (off := 4) (by decide +kernel) ?_
    exact t_89_25 hN (h0 := h0) (h1 := h1)
  · refine i_bl (pc' := 11) [(.aload_n 0, 1)] [some (.ref a0), some (.ref a1), none, none, none] [.ref a0] (by decide +kernel) rfl ?_
    refine i_gr (idx := 15) (ci := 7) (k := 1) (t := 2) (p := 12018) (pc' := 14) (by decide +kernel) h0 ?_
    refine i_bl (pc' := 15) [(.iconst 0, 1)] [some (.ref a0), some (.ref a1), none, none, none] [.int 0, .ref (sh_r a0 1)] (by decide +kernel) rfl ?_
    refine i_al (pc' := 16) (by decide +kernel) (o_7_1 hN h0) ?_
    refine i_bl (pc' := 17) [(.iconst 2, 1)] [some (.ref a0), some (.ref a1), none, none, none] [.int 2, .int (m (sh_r a0 1) (ix 0))] (by decide +kernel) rfl ?_
    refine i_ic (c := .ne) (off := 7) (t := 24) (pc' := 20) (p := ¬ (m (sh_r a0 1) (ix 0)) = 2) (by decide +kernel) rfl ?_ ?_
    · refine i_bl (pc' := 25) [(.iconst 0, 1)] [some (.ref a0), some (.ref a1), none, none, none] [.int 0] (by decide +kernel) rfl ?_
      exact t_89_25 hN (h0 := h0) (h1 := h1)
    · refine i_bl (pc' := 21) [(.iconst 1, 1)] [some (.ref a0), some (.ref a1), none, none, none] [.int 1] (by decide +kernel) rfl ?_
      refine i_go (t := 25) (off := 4) (by decide +kernel) ?_
      exact t_89_25 hN (h0 := h0) (h1 := h1)

/-! 85 LanternChess$Sending.lookOf(I)I -/
noncomputable def d_85 (a0 : Nat) (x1 : Int32) (m : Mm) : Option Int32 := if x1 < 0 then (some 0) else (if 6 ≤ x1 then (some 0) else (if ev_in x1 (sh_n (sh_r a0 1)) = true then (some (m (sh_r a0 1) (ix x1))) else none))
theorem t_85 {L nx : Nat} (hN : okn nx) {b z : Nat} {m : Mm} {a0 : Nat} (h0 : ok nx a0 7) {x1 : Int32}  : Im (d_85 a0 x1 m) (kI L nx m) (ev_dn b z 85 0 [some (.ref a0), some (.int x1)] [] (nx, mem L nx m)) := by
  unfold d_85
  refine i_bl (pc' := 1) [(.iload_n 1, 1)] [some (.ref a0), some (.int x1)] [.int x1] (by decide +kernel) rfl ?_
  refine i_if (c := .lt) (off := 18) (t := 19) (pc' := 4) (p := x1 < 0) (by decide +kernel) rfl ?_ ?_
  · refine i_bl (pc' := 20) [(.iconst 0, 1)] [some (.ref a0), some (.int x1)] [.int 0] (by decide +kernel) rfl ?_
    exact i_ri (by decide +kernel) rfl
  · refine i_bl (pc' := 7) [(.iload_n 1, 1), (.bipush (6), 2)] [some (.ref a0), some (.int x1)] [.int 6, .int x1] (by decide +kernel) rfl ?_
    refine i_ic (c := .ge) (off := 12) (t := 19) (pc' := 10) (p := 6 ≤ x1) (by decide +kernel) rfl ?_ ?_
    · refine i_bl (pc' := 20) [(.iconst 0, 1)] [some (.ref a0), some (.int x1)] [.int 0] (by decide +kernel) rfl ?_
      exact i_ri (by decide +kernel) rfl
    · refine i_bl (pc' := 11) [(.aload_n 0, 1)] [some (.ref a0), some (.int x1)] [.ref a0] (by decide +kernel) rfl ?_
      refine i_gr (idx := 15) (ci := 7) (k := 1) (t := 2) (p := 12018) (pc' := 14) (by decide +kernel) h0 ?_
      refine i_bl (pc' := 15) [(.iload_n 1, 1)] [some (.ref a0), some (.int x1)] [.int x1, .ref (sh_r a0 1)] (by decide +kernel) rfl ?_
      refine i_al (pc' := 16) (by decide +kernel) (o_7_1 hN h0) ?_
      refine i_go (t := 20) (off := 4) (by decide +kernel) ?_
      exact i_ri (by decide +kernel) rfl

/-! 90 LanternChess$Sending.seenFrom()I -/
noncomputable def d_90 (a0 : Nat) (m : Mm) : Option Int32 := if ev_in 1 (sh_n (sh_r a0 1)) = true then (if ev_in 2 (sh_n (sh_r a0 1)) = true then ((d_12 ((m (sh_r a0 1) (ix 1)) - 1) ((m (sh_r a0 1) (ix 2)) - 1)).bind fun v1 => some v1) else none) else none
theorem t_90 {L nx : Nat} (hN : okn nx) {b z : Nat} {m : Mm} {a0 : Nat} (h0 : ok nx a0 7)   : Im (d_90 a0 m) (kI L nx m) (ev_dn b z 90 0 [some (.ref a0)] [] (nx, mem L nx m)) := by
  unfold d_90
  refine i_bl (pc' := 1) [(.aload_n 0, 1)] [some (.ref a0)] [.ref a0] (by decide +kernel) rfl ?_
  refine i_gr (idx := 15) (ci := 7) (k := 1) (t := 2) (p := 12018) (pc' := 4) (by decide +kernel) h0 ?_
  refine i_bl (pc' := 5) [(.iconst 1, 1)] [some (.ref a0)] [.int 1, .ref (sh_r a0 1)] (by decide +kernel) rfl ?_
  refine i_al (pc' := 6) (by decide +kernel) (o_7_1 hN h0) ?_
  refine i_bl (pc' := 9) [(.iconst 1, 1), (.isub, 1), (.aload_n 0, 1)] [some (.ref a0)] [.ref a0, .int ((m (sh_r a0 1) (ix 1)) - 1)] (by decide +kernel) rfl ?_
  refine i_gr (idx := 15) (ci := 7) (k := 1) (t := 2) (p := 12018) (pc' := 12) (by decide +kernel) h0 ?_
  refine i_bl (pc' := 13) [(.iconst 2, 1)] [some (.ref a0)] [.int 2, .ref (sh_r a0 1), .int ((m (sh_r a0 1) (ix 1)) - 1)] (by decide +kernel) rfl ?_
  refine i_al (pc' := 14) (by decide +kernel) (o_7_1 hN h0) ?_
  refine i_bl (pc' := 16) [(.iconst 1, 1), (.isub, 1)] [some (.ref a0)] [.int ((m (sh_r a0 1) (ix 2)) - 1), .int ((m (sh_r a0 1) (ix 1)) - 1)] (by decide +kernel) rfl ?_
  refine i_cs (t := 12) (na := 2) (ml := 2) (idx := 61) (pc' := 19) (st' := []) (en := [some (.int ((m (sh_r a0 1) (ix 1)) - 1)), some (.int ((m (sh_r a0 1) (ix 2)) - 1))]) (av := [.int ((m (sh_r a0 1) (ix 1)) - 1), .int ((m (sh_r a0 1) (ix 2)) - 1)]) (vo := fun v => some (.int v)) (mo := fun _ => m) (s2 := fun v => .int v :: []) (by decide +kernel) ⟨rfl, rfl, rfl, rfl, rfl, rfl⟩ (fun _ => rfl) (t_12 hN ) (fun v1 => ?_)
  exact i_ri (by decide +kernel) rfl

/-! 91 LanternChess$Sending.seenTo()I -/
noncomputable def d_91 (a0 : Nat) (m : Mm) : Option Int32 := if ev_in 3 (sh_n (sh_r a0 1)) = true then (if ev_in 4 (sh_n (sh_r a0 1)) = true then ((d_12 ((m (sh_r a0 1) (ix 3)) - 1) ((m (sh_r a0 1) (ix 4)) - 1)).bind fun v1 => some v1) else none) else none
theorem t_91 {L nx : Nat} (hN : okn nx) {b z : Nat} {m : Mm} {a0 : Nat} (h0 : ok nx a0 7)   : Im (d_91 a0 m) (kI L nx m) (ev_dn b z 91 0 [some (.ref a0)] [] (nx, mem L nx m)) := by
  unfold d_91
  refine i_bl (pc' := 1) [(.aload_n 0, 1)] [some (.ref a0)] [.ref a0] (by decide +kernel) rfl ?_
  refine i_gr (idx := 15) (ci := 7) (k := 1) (t := 2) (p := 12018) (pc' := 4) (by decide +kernel) h0 ?_
  refine i_bl (pc' := 5) [(.iconst 3, 1)] [some (.ref a0)] [.int 3, .ref (sh_r a0 1)] (by decide +kernel) rfl ?_
  refine i_al (pc' := 6) (by decide +kernel) (o_7_1 hN h0) ?_
  refine i_bl (pc' := 9) [(.iconst 1, 1), (.isub, 1), (.aload_n 0, 1)] [some (.ref a0)] [.ref a0, .int ((m (sh_r a0 1) (ix 3)) - 1)] (by decide +kernel) rfl ?_
  refine i_gr (idx := 15) (ci := 7) (k := 1) (t := 2) (p := 12018) (pc' := 12) (by decide +kernel) h0 ?_
  refine i_bl (pc' := 13) [(.iconst 4, 1)] [some (.ref a0)] [.int 4, .ref (sh_r a0 1), .int ((m (sh_r a0 1) (ix 3)) - 1)] (by decide +kernel) rfl ?_
  refine i_al (pc' := 14) (by decide +kernel) (o_7_1 hN h0) ?_
  refine i_bl (pc' := 16) [(.iconst 1, 1), (.isub, 1)] [some (.ref a0)] [.int ((m (sh_r a0 1) (ix 4)) - 1), .int ((m (sh_r a0 1) (ix 3)) - 1)] (by decide +kernel) rfl ?_
  refine i_cs (t := 12) (na := 2) (ml := 2) (idx := 61) (pc' := 19) (st' := []) (en := [some (.int ((m (sh_r a0 1) (ix 3)) - 1)), some (.int ((m (sh_r a0 1) (ix 4)) - 1))]) (av := [.int ((m (sh_r a0 1) (ix 3)) - 1), .int ((m (sh_r a0 1) (ix 4)) - 1)]) (vo := fun v => some (.int v)) (mo := fun _ => m) (s2 := fun v => .int v :: []) (by decide +kernel) ⟨rfl, rfl, rfl, rfl, rfl, rfl⟩ (fun _ => rfl) (t_12 hN ) (fun v1 => ?_)
  exact i_ri (by decide +kernel) rfl

/-! 59 LanternChess$Game.foretell(LLanternChess$Sending;III)V -/
noncomputable def d_59_180 (a0 : Nat) (a1 : Nat) (s0 : Nat) (s1 : Bool) (m : Mm) : Option Mm := wb (wr m s0 6 (bi s1)) fun m14 => wb (wr m14 a1 7 (((m14 a1 2) + (m14 a1 4)) + (m14 a0 8))) fun m15 => some m15
theorem t_59_180 {L nx : Nat} (hN : okn nx) {b z : Nat} {m : Mm} {a0 : Nat} (h0 : ok nx a0 3) {a1 : Nat} (h1 : ok nx a1 7) {s0 : Nat} (hs0 : ok nx s0 7) {s1 : Bool} {o2 : Option Value} {o3 : Option Value} {o4 : Option Value} {o5 : Option Value} {o6 : Option Value} {o7 : Option Value} : Im (d_59_180 a0 a1 s0 s1 m) (wV L nx) (ev_dn b z 59 180 [some (.ref a0), some (.ref a1), o2, o3, o4, o5, o6, o7] [.int (bi s1), .ref s0] (nx, mem L nx m)) := by
  unfold d_59_180
  refine i_pz (B := s1) (idx := 177) (ci := 7) (k := 6) (p := 12030) (pc' := 183) (by decide +kernel) hs0 (fun m14 => ?_)
  refine i_bl (pc' := 185) [(.aload_n 1, 1), (.aload_n 1, 1)] [some (.ref a0), some (.ref a1), o2, o3, o4, o5, o6, o7] [.ref a1, .ref a1] (by decide +kernel) rfl ?_
  refine i_gf (idx := 165) (ci := 7) (k := 2) (t := 0) (p := 12020) (pc' := 188) (by decide +kernel) h1 ?_
  refine i_bl (pc' := 189) [(.aload_n 1, 1)] [some (.ref a0), some (.ref a1), o2, o3, o4, o5, o6, o7] [.ref a1, .int (m14 a1 2), .ref a1] (by decide +kernel) rfl ?_
  refine i_gf (idx := 158) (ci := 7) (k := 4) (t := 0) (p := 12026) (pc' := 192) (by decide +kernel) h1 ?_
  refine i_bl (pc' := 194) [(.iadd, 1), (.aload_n 0, 1)] [some (.ref a0), some (.ref a1), o2, o3, o4, o5, o6, o7] [.ref a0, .int ((m14 a1 2) + (m14 a1 4)), .ref a1] (by decide +kernel) rfl ?_
  refine i_gf (idx := 48) (ci := 3) (k := 8) (t := 0) (p := 11193) (pc' := 197) (by decide +kernel) h0 ?_
  refine i_bl (pc' := 198) [(.iadd, 1)] [some (.ref a0), some (.ref a1), o2, o3, o4, o5, o6, o7] [.int (((m14 a1 2) + (m14 a1 4)) + (m14 a0 8)), .ref a1] (by decide +kernel) rfl ?_
  refine i_pf (x := (((m14 a1 2) + (m14 a1 4)) + (m14 a0 8))) (idx := 181) (ci := 7) (k := 7) (p := 12033) (pc' := 201) (by decide +kernel) h1 (fun m15 => ?_)
  exact i_rv (by decide +kernel) rfl

noncomputable def d_59_131 (a0 : Nat) (a1 : Nat) (x2 : Int32) (x3 : Int32) (x4 : Int32) (a5 : Nat) (m : Mm) : Option Mm := (d_45 (sh_r a0 2) (x4 + (m a1 2)) (m a1 4) m).bind fun v11 => wb (wr m a1 5 v11) fun m12 => (d_34 (sh_r a5 0) x2 x3 m12).bind fun v13 => if ¬ (m12 a1 5) = (2 + (v13 - v13 / 5 * 5)) then (d_59_180 a0 a1 a1 false m12) else (d_59_180 a0 a1 a1 true m12)
theorem t_59_131 {L nx : Nat} (hN : okn nx) {b z : Nat} {m : Mm} {a0 : Nat} (h0 : ok nx a0 3) {a1 : Nat} (h1 : ok nx a1 7) {a5 : Nat} (h5 : ok nx a5 0) {x2 : Int32} {x3 : Int32} {x4 : Int32} {o6 : Option Value} {o7 : Option Value} : Im (d_59_131 a0 a1 x2 x3 x4 a5 m) (wV L nx) (ev_dn b z 59 131 [some (.ref a0), some (.ref a1), some (.int x2), some (.int x3), some (.int x4), some (.ref a5), o6, o7] [] (nx, mem L nx m)) := by
  unfold d_59_131
  refine i_bl (pc' := 133) [(.aload_n 1, 1), (.aload_n 0, 1)] [some (.ref a0), some (.ref a1), some (.int x2), some (.int x3), some (.int x4), some (.ref a5), o6, o7] [.ref a0, .ref a1] (by decide +kernel) rfl ?_
  refine i_gr (idx := 24) (ci := 3) (k := 2) (t := 2) (p := 11180) (pc' := 136) (by decide +kernel) h0 ?_
  refine i_bl (pc' := 139) [(.iload 4, 2), (.aload_n 1, 1)] [some (.ref a0), some (.ref a1), some (.int x2), some (.int x3), some (.int x4), some (.ref a5), o6, o7] [.ref a1, .int x4, .ref (sh_r a0 2), .ref a1] (by decide +kernel) rfl ?_
  refine i_gf (idx := 165) (ci := 7) (k := 2) (t := 0) (p := 12020) (pc' := 142) (by decide +kernel) h1 ?_
  refine i_bl (pc' := 144) [(.iadd, 1), (.aload_n 1, 1)] [some (.ref a0), some (.ref a1), some (.int x2), some (.int x3), some (.int x4), some (.ref a5), o6, o7] [.ref a1, .int (x4 + (m a1 2)), .ref (sh_r a0 2), .ref a1] (by decide +kernel) rfl ?_
  refine i_gf (idx := 158) (ci := 7) (k := 4) (t := 0) (p := 12026) (pc' := 147) (by decide +kernel) h1 ?_
  refine i_cv (ci := 2) (t := 45) (na := 3) (ml := 5) (idx := 168) (pc' := 150) (st' := [.ref a1]) (en := [some (.ref (sh_r a0 2)), some (.int (x4 + (m a1 2))), some (.int (m a1 4)), none, none]) (av := [.int (x4 + (m a1 2)), .int (m a1 4)]) (vo := fun v => some (.int v)) (mo := fun _ => m) (s2 := fun v => .int v :: [.ref a1]) (by decide +kernel) (by decide +kernel) (o_3_2 hN h0) ⟨rfl, rfl, rfl, rfl, rfl, rfl⟩ (fun _ => rfl) (t_45 hN (h0 := (o_3_2 hN h0))) (fun v11 => ?_)
  refine i_pf (x := v11) (idx := 171) (ci := 7) (k := 5) (p := 12028) (pc' := 153) (by decide +kernel) h1 (fun m12 => ?_)
  refine i_bl (pc' := 155) [(.aload_n 1, 1), (.aload_n 1, 1)] [some (.ref a0), some (.ref a1), some (.int x2), some (.int x3), some (.int x4), some (.ref a5), o6, o7] [.ref a1, .ref a1] (by decide +kernel) rfl ?_
  refine i_gf (idx := 171) (ci := 7) (k := 5) (t := 0) (p := 12028) (pc' := 158) (by decide +kernel) h1 ?_
  refine i_bl (pc' := 161) [(.iconst 2, 1), (.aload 5, 2)] [some (.ref a0), some (.ref a1), some (.int x2), some (.int x3), some (.int x4), some (.ref a5), o6, o7] [.ref a5, .int 2, .int (m12 a1 5), .ref a1] (by decide +kernel) rfl ?_
  refine i_gr (idx := 83) (ci := 0) (k := 0) (t := 2) (p := 11114) (pc' := 164) (by decide +kernel) h5 ?_
  refine i_bl (pc' := 166) [(.iload_n 2, 1), (.iload_n 3, 1)] [some (.ref a0), some (.ref a1), some (.int x2), some (.int x3), some (.int x4), some (.ref a5), o6, o7] [.int x3, .int x2, .ref (sh_r a5 0), .int 2, .int (m12 a1 5), .ref a1] (by decide +kernel) rfl ?_
  refine i_cv (ci := 1) (t := 34) (na := 3) (ml := 3) (idx := 174) (pc' := 169) (st' := [.int 2, .int (m12 a1 5), .ref a1]) (en := [some (.ref (sh_r a5 0)), some (.int x2), some (.int x3)]) (av := [.int x2, .int x3]) (vo := fun v => some (.int v)) (mo := fun _ => m12) (s2 := fun v => .int v :: [.int 2, .int (m12 a1 5), .ref a1]) (by decide +kernel) (by decide +kernel) (o_0_0 hN h5) ⟨rfl, rfl, rfl, rfl, rfl, rfl⟩ (fun _ => rfl) (t_34 hN (h0 := (o_0_0 hN h5))) (fun v13 => ?_)
  refine i_bl (pc' := 170) [(.iconst 5, 1)] [some (.ref a0), some (.ref a1), some (.int x2), some (.int x3), some (.int x4), some (.ref a5), o6, o7] [.int 5, .int v13, .int 2, .int (m12 a1 5), .ref a1] (by decide +kernel) rfl ?_
  refine i_rem0 (pc' := 171) (by decide +kernel) (by decide) ?_
  refine i_bl (pc' := 172) [(.iadd, 1)] [some (.ref a0), some (.ref a1), some (.int x2), some (.int x3), some (.int x4), some (.ref a5), o6, o7] [.int (2 + (v13 - v13 / 5 * 5)), .int (m12 a1 5), .ref a1] (by decide +kernel) rfl ?_
  refine i_ic (c := .ne) (off := 7) (t := 179) (pc' := 175) (p := ¬ (m12 a1 5) = (2 + (v13 - v13 / 5 * 5))) (by decide +kernel) rfl ?_ ?_
  · refine i_bl (pc' := 180) [(.iconst 0, 1)] [some (.ref a0), some (.ref a1), some (.int x2), some (.int x3), some (.int x4), some (.ref a5), o6, o7] [.int 0, .ref a1] (by decide +kernel) rfl ?_
    exact t_59_180 hN (h0 := h0) (h1 := h1) (hs0 := h1)
  · refine i_bl (pc' := 176) [(.iconst 1, 1)] [some (.ref a0), some (.ref a1), some (.int x2), some (.int x3), some (.int x4), some (.ref a5), o6, o7] [.int 1, .ref a1] (by decide +kernel) rfl ?_
    refine i_go (t := 180) (off := 4) (by decide +kernel) ?_
    exact t_59_180 hN (h0 := h0) (h1 := h1) (hs0 := h1)

noncomputable def d_59_94 (a0 : Nat) (a1 : Nat) (x2 : Int32) (x3 : Int32) (x4 : Int32) (a5 : Nat) (a6 : Nat) (m : Mm) : Option Mm := wb (wr m a1 4 1) fun m10 => if (m10 a1 3) = 0 then (d_59_131 a0 a1 x2 x3 x4 a5 m10) else ((d_90 a1 m10).bind fun v16 => (d_91 a1 m10).bind fun v17 => (d_7 a6 (m10 a1 3) v16 v17 m10).bind fun v18 => wb (wr m10 a1 4 (2 + (v18 - v18 / 5 * 5))) fun m19 => d_59_131 a0 a1 x2 x3 x4 a5 m19)
theorem t_59_94 {L nx : Nat} (hN : okn nx) {b z : Nat} {m : Mm} {a0 : Nat} (h0 : ok nx a0 3) {a1 : Nat} (h1 : ok nx a1 7) {a5 : Nat} (h5 : ok nx a5 0) {a6 : Nat} (h6 : ok nx a6 0) {x2 : Int32} {x3 : Int32} {x4 : Int32} {o7 : Option Value} : Im (d_59_94 a0 a1 x2 x3 x4 a5 a6 m) (wV L nx) (ev_dn b z 59 94 [some (.ref a0), some (.ref a1), some (.int x2), some (.int x3), some (.int x4), some (.ref a5), some (.ref a6), o7] [] (nx, mem L nx m)) := by
  unfold d_59_94
  refine i_bl (pc' := 96) [(.aload_n 1, 1), (.iconst 1, 1)] [some (.ref a0), some (.ref a1), some (.int x2), some (.int x3), some (.int x4), some (.ref a5), some (.ref a6), o7] [.int 1, .ref a1] (by decide +kernel) rfl ?_
  refine i_pf (x := 1) (idx := 158) (ci := 7) (k := 4) (p := 12026) (pc' := 99) (by decide +kernel) h1 (fun m10 => ?_)
  refine i_bl (pc' := 100) [(.aload_n 1, 1)] [some (.ref a0), some (.ref a1), some (.int x2), some (.int x3), some (.int x4), some (.ref a5), some (.ref a6), o7] [.ref a1] (by decide +kernel) rfl ?_
  refine i_gf (idx := 138) (ci := 7) (k := 3) (t := 0) (p := 12023) (pc' := 103) (by decide +kernel) h1 ?_
  refine i_if (c := .eq) (off := 28) (t := 131) (pc' := 106) (p := (m10 a1 3) = 0) (by decide +kernel) rfl ?_ ?_
  · exact t_59_131 hN (h0 := h0) (h1 := h1) (h5 := h5)
  · refine i_bl (pc' := 111) [(.aload_n 1, 1), (.iconst 2, 1), (.aload 6, 2), (.aload_n 1, 1)] [some (.ref a0), some (.ref a1), some (.int x2), some (.int x3), some (.int x4), some (.ref a5), some (.ref a6), o7] [.ref a1, .ref a6, .int 2, .ref a1] (by decide +kernel) rfl ?_
    refine i_gf (idx := 138) (ci := 7) (k := 3) (t := 0) (p := 12023) (pc' := 114) (by decide +kernel) h1 ?_
    refine i_bl (pc' := 115) [(.aload_n 1, 1)] [some (.ref a0), some (.ref a1), some (.int x2), some (.int x3), some (.int x4), some (.ref a5), some (.ref a6), o7] [.ref a1, .int (m10 a1 3), .ref a6, .int 2, .ref a1] (by decide +kernel) rfl ?_
    refine i_cv (ci := 7) (t := 90) (na := 1) (ml := 1) (idx := 148) (pc' := 118) (st' := [.int (m10 a1 3), .ref a6, .int 2, .ref a1]) (en := [some (.ref a1)]) (av := []) (vo := fun v => some (.int v)) (mo := fun _ => m10) (s2 := fun v => .int v :: [.int (m10 a1 3), .ref a6, .int 2, .ref a1]) (by decide +kernel) (by decide +kernel) h1 ⟨rfl, rfl, rfl, rfl, rfl, rfl⟩ (fun _ => rfl) (t_90 hN (h0 := h1)) (fun v16 => ?_)
    refine i_bl (pc' := 119) [(.aload_n 1, 1)] [some (.ref a0), some (.ref a1), some (.int x2), some (.int x3), some (.int x4), some (.ref a5), some (.ref a6), o7] [.ref a1, .int v16, .int (m10 a1 3), .ref a6, .int 2, .ref a1] (by decide +kernel) rfl ?_
    refine i_cv (ci := 7) (t := 91) (na := 1) (ml := 1) (idx := 151) (pc' := 122) (st' := [.int v16, .int (m10 a1 3), .ref a6, .int 2, .ref a1]) (en := [some (.ref a1)]) (av := []) (vo := fun v => some (.int v)) (mo := fun _ => m10) (s2 := fun v => .int v :: [.int v16, .int (m10 a1 3), .ref a6, .int 2, .ref a1]) (by decide +kernel) (by decide +kernel) h1 ⟨rfl, rfl, rfl, rfl, rfl, rfl⟩ (fun _ => rfl) (t_91 hN (h0 := h1)) (fun v17 => ?_)
    refine i_cv (ci := 0) (t := 7) (na := 4) (ml := 4) (idx := 161) (pc' := 125) (st' := [.int 2, .ref a1]) (en := [some (.ref a6), some (.int (m10 a1 3)), some (.int v16), some (.int v17)]) (av := [.int (m10 a1 3), .int v16, .int v17]) (vo := fun v => some (.int v)) (mo := fun _ => m10) (s2 := fun v => .int v :: [.int 2, .ref a1]) (by decide +kernel) (by decide +kernel) h6 ⟨rfl, rfl, rfl, rfl, rfl, rfl⟩ (fun _ => rfl) (t_7 hN (h0 := h6)) (fun v18 => ?_)
    refine i_bl (pc' := 126) [(.iconst 5, 1)] [some (.ref a0), some (.ref a1), some (.int x2), some (.int x3), some (.int x4), some (.ref a5), some (.ref a6), o7] [.int 5, .int v18, .int 2, .ref a1] (by decide +kernel) rfl ?_
    refine i_rem0 (pc' := 127) (by decide +kernel) (by decide) ?_
    refine i_bl (pc' := 128) [(.iadd, 1)] [some (.ref a0), some (.ref a1), some (.int x2), some (.int x3), some (.int x4), some (.ref a5), some (.ref a6), o7] [.int (2 + (v18 - v18 / 5 * 5)), .ref a1] (by decide +kernel) rfl ?_
    refine i_pf (x := (2 + (v18 - v18 / 5 * 5))) (idx := 158) (ci := 7) (k := 4) (p := 12026) (pc' := 131) (by decide +kernel) h1 (fun m19 => ?_)
    exact t_59_131 hN (h0 := h0) (h1 := h1) (h5 := h5)

noncomputable def d_59 (a0 : Nat) (a1 : Nat) (x2 : Int32) (x3 : Int32) (x4 : Int32) (m : Mm) : Option Mm := (d_51 a0 (m a0 6)).bind fun v1 => (d_51 a0 (1 - (m a0 6))).bind fun v3 => (d_5 v1 m).bind fun v5 => (d_86 a1 v5 x2 x3 m).bind fun m6 => (d_88 a1 (sh_r a0 2) x4 (m6 a0 8) m6).bind fun m7 => wb (wr m7 a1 3 0) fun m8 => (d_89 a1 (sh_r v3 0) m8).bind fun v9 => if v9 = true then ((d_85 a1 0 m8).bind fun v20 => (d_90 a1 m8).bind fun v21 => (d_91 a1 m8).bind fun v22 => (d_6 v3 (m8 a0 6) v20 v21 v22 m8).bind fun v23 => wb (wr m8 a1 3 v23) fun m24 => d_59_94 a0 a1 x2 x3 x4 v1 v3 m24) else (d_59_94 a0 a1 x2 x3 x4 v1 v3 m8)
theorem t_59 {L nx : Nat} (hN : okn nx) {b z : Nat} {m : Mm} {a0 : Nat} (h0 : ok nx a0 3) {a1 : Nat} (h1 : ok nx a1 7) {x2 : Int32} {x3 : Int32} {x4 : Int32}  : Im (d_59 a0 a1 x2 x3 x4 m) (wV L nx) (ev_dn b z 59 0 [some (.ref a0), some (.ref a1), some (.int x2), some (.int x3), some (.int x4), none, none, none] [] (nx, mem L nx m)) := by
  unfold d_59
  refine i_bl (pc' := 2) [(.aload_n 0, 1), (.aload_n 0, 1)] [some (.ref a0), some (.ref a1), some (.int x2), some (.int x3), some (.int x4), none, none, none] [.ref a0, .ref a0] (by decide +kernel) rfl ?_
  refine i_gf (idx := 42) (ci := 3) (k := 6) (t := 0) (p := 11189) (pc' := 5) (by decide +kernel) h0 ?_
  refine i_cA (cr := 0) (ci := 3) (t := 51) (na := 2) (ml := 2) (idx := 99) (pc' := 8) (st' := []) (en := [some (.ref a0), some (.int (m a0 6))]) (av := [.int (m a0 6)]) (s2 := fun v => .ref v :: []) (by decide +kernel) (by decide +kernel) h0 ⟨rfl, rfl, rfl, rfl, rfl, rfl⟩ (fun _ => rfl) (t_51 hN (h0 := h0)) (fun v1 hr2 => ?_)
  refine i_bl (pc' := 13) [(.astore 5, 2), (.aload_n 0, 1), (.iconst 1, 1), (.aload_n 0, 1)] [some (.ref a0), some (.ref a1), some (.int x2), some (.int x3), some (.int x4), some (.ref v1), none, none] [.ref a0, .int 1, .ref a0] (by decide +kernel) rfl ?_
  refine i_gf (idx := 42) (ci := 3) (k := 6) (t := 0) (p := 11189) (pc' := 16) (by decide +kernel) h0 ?_
  refine i_bl (pc' := 17) [(.isub, 1)] [some (.ref a0), some (.ref a1), some (.int x2), some (.int x3), some (.int x4), some (.ref v1), none, none] [.int (1 - (m a0 6)), .ref a0] (by decide +kernel) rfl ?_
  refine i_cA (cr := 0) (ci := 3) (t := 51) (na := 2) (ml := 2) (idx := 99) (pc' := 20) (st' := []) (en := [some (.ref a0), some (.int (1 - (m a0 6)))]) (av := [.int (1 - (m a0 6))]) (s2 := fun v => .ref v :: []) (by decide +kernel) (by decide +kernel) h0 ⟨rfl, rfl, rfl, rfl, rfl, rfl⟩ (fun _ => rfl) (t_51 hN (h0 := h0)) (fun v3 hr4 => ?_)
  refine i_bl (pc' := 25) [(.astore 6, 2), (.aload_n 1, 1), (.aload 5, 2)] [some (.ref a0), some (.ref a1), some (.int x2), some (.int x3), some (.int x4), some (.ref v1), some (.ref v3), none] [.ref v1, .ref a1] (by decide +kernel) rfl ?_
  refine i_cv (ci := 0) (t := 5) (na := 1) (ml := 1) (idx := 124) (pc' := 28) (st' := [.ref a1]) (en := [some (.ref v1)]) (av := []) (vo := fun v => some (.int v)) (mo := fun _ => m) (s2 := fun v => .int v :: [.ref a1]) (by decide +kernel) (by decide +kernel) hr2 ⟨rfl, rfl, rfl, rfl, rfl, rfl⟩ (fun _ => rfl) (t_5 hN (h0 := hr2)) (fun v5 => ?_)
  refine i_bl (pc' := 30) [(.iload_n 2, 1), (.iload_n 3, 1)] [some (.ref a0), some (.ref a1), some (.int x2), some (.int x3), some (.int x4), some (.ref v1), some (.ref v3), none] [.int x3, .int x2, .int v5, .ref a1] (by decide +kernel) rfl ?_
  refine i_cv (ci := 7) (t := 86) (na := 4) (ml := 4) (idx := 128) (pc' := 33) (st' := []) (en := [some (.ref a1), some (.int v5), some (.int x2), some (.int x3)]) (av := [.int v5, .int x2, .int x3]) (vo := fun _ => none) (mo := fun m => m) (s2 := fun _ => []) (by decide +kernel) (by decide +kernel) h1 ⟨rfl, rfl, rfl, rfl, rfl, rfl⟩ (fun _ => rfl) (t_86 hN (h0 := h1)) (fun m6 => ?_)
  refine i_bl (pc' := 35) [(.aload_n 1, 1), (.aload_n 0, 1)] [some (.ref a0), some (.ref a1), some (.int x2), some (.int x3), some (.int x4), some (.ref v1), some (.ref v3), none] [.ref a0, .ref a1] (by decide +kernel) rfl ?_
  refine i_gr (idx := 24) (ci := 3) (k := 2) (t := 2) (p := 11180) (pc' := 38) (by decide +kernel) h0 ?_
  refine i_bl (pc' := 41) [(.iload 4, 2), (.aload_n 0, 1)] [some (.ref a0), some (.ref a1), some (.int x2), some (.int x3), some (.int x4), some (.ref v1), some (.ref v3), none] [.ref a0, .int x4, .ref (sh_r a0 2), .ref a1] (by decide +kernel) rfl ?_
  refine i_gf (idx := 48) (ci := 3) (k := 8) (t := 0) (p := 11193) (pc' := 44) (by decide +kernel) h0 ?_
  refine i_cv (ci := 7) (t := 88) (na := 4) (ml := 6) (idx := 134) (pc' := 47) (st' := []) (en := [some (.ref a1), some (.ref (sh_r a0 2)), some (.int x4), some (.int (m6 a0 8)), none, none]) (av := [.ref (sh_r a0 2), .int x4, .int (m6 a0 8)]) (vo := fun _ => none) (mo := fun m => m) (s2 := fun _ => []) (by decide +kernel) (by decide +kernel) h1 ⟨rfl, rfl, rfl, rfl, rfl, rfl⟩ (fun _ => rfl) (t_88 hN (h0 := h1) (h1 := (o_3_2 hN h0))) (fun m7 => ?_)
  refine i_bl (pc' := 49) [(.aload_n 1, 1), (.iconst 0, 1)] [some (.ref a0), some (.ref a1), some (.int x2), some (.int x3), some (.int x4), some (.ref v1), some (.ref v3), none] [.int 0, .ref a1] (by decide +kernel) rfl ?_
  refine i_pf (x := 0) (idx := 138) (ci := 7) (k := 3) (p := 12023) (pc' := 52) (by decide +kernel) h1 (fun m8 => ?_)
  refine i_bl (pc' := 55) [(.aload_n 1, 1), (.aload 6, 2)] [some (.ref a0), some (.ref a1), some (.int x2), some (.int x3), some (.int x4), some (.ref v1), some (.ref v3), none] [.ref v3, .ref a1] (by decide +kernel) rfl ?_
  refine i_gr (idx := 83) (ci := 0) (k := 0) (t := 2) (p := 11114) (pc' := 58) (by decide +kernel) hr4 ?_
  refine i_cv (ci := 7) (t := 89) (na := 2) (ml := 5) (idx := 141) (pc' := 61) (st' := []) (en := [some (.ref a1), some (.ref (sh_r v3 0)), none, none, none]) (av := [.ref (sh_r v3 0)]) (vo := fun v => some (.int (bi v))) (mo := fun _ => m8) (s2 := fun v => .int (bi v) :: []) (by decide +kernel) (by decide +kernel) h1 ⟨rfl, rfl, rfl, rfl, rfl, rfl⟩ (fun _ => rfl) (t_89 hN (h0 := h1) (h1 := (o_0_0 hN hr4))) (fun v9 => ?_)
  refine i_bz (off := 33) (t := 94) (pc' := 64) (by decide +kernel) ?_ ?_
  · refine i_bl (pc' := 66) [(.aload_n 1, 1), (.iconst 0, 1)] [some (.ref a0), some (.ref a1), some (.int x2), some (.int x3), some (.int x4), some (.ref v1), some (.ref v3), none] [.int 0, .ref a1] (by decide +kernel) rfl ?_
    refine i_cv (ci := 7) (t := 85) (na := 2) (ml := 2) (idx := 145) (pc' := 69) (st' := []) (en := [some (.ref a1), some (.int 0)]) (av := [.int 0]) (vo := fun v => some (.int v)) (mo := fun _ => m8) (s2 := fun v => .int v :: []) (by decide +kernel) (by decide +kernel) h1 ⟨rfl, rfl, rfl, rfl, rfl, rfl⟩ (fun _ => rfl) (t_85 hN (h0 := h1)) (fun v20 => ?_)
    refine i_bl (pc' := 75) [(.istore 7, 2), (.aload_n 1, 1), (.aload 6, 2), (.aload_n 0, 1)] [some (.ref a0), some (.ref a1), some (.int x2), some (.int x3), some (.int x4), some (.ref v1), some (.ref v3), some (.int v20)] [.ref a0, .ref v3, .ref a1] (by decide +kernel) rfl ?_
    refine i_gf (idx := 42) (ci := 3) (k := 6) (t := 0) (p := 11189) (pc' := 78) (by decide +kernel) h0 ?_
    refine i_bl (pc' := 81) [(.iload 7, 2), (.aload_n 1, 1)] [some (.ref a0), some (.ref a1), some (.int x2), some (.int x3), some (.int x4), some (.ref v1), some (.ref v3), some (.int v20)] [.ref a1, .int v20, .int (m8 a0 6), .ref v3, .ref a1] (by decide +kernel) rfl ?_
    refine i_cv (ci := 7) (t := 90) (na := 1) (ml := 1) (idx := 148) (pc' := 84) (st' := [.int v20, .int (m8 a0 6), .ref v3, .ref a1]) (en := [some (.ref a1)]) (av := []) (vo := fun v => some (.int v)) (mo := fun _ => m8) (s2 := fun v => .int v :: [.int v20, .int (m8 a0 6), .ref v3, .ref a1]) (by decide +kernel) (by decide +kernel) h1 ⟨rfl, rfl, rfl, rfl, rfl, rfl⟩ (fun _ => rfl) (t_90 hN (h0 := h1)) (fun v21 => ?_)
    refine i_bl (pc' := 85) [(.aload_n 1, 1)] [some (.ref a0), some (.ref a1), some (.int x2), some (.int x3), some (.int x4), some (.ref v1), some (.ref v3), some (.int v20)] [.ref a1, .int v21, .int v20, .int (m8 a0 6), .ref v3, .ref a1] (by decide +kernel) rfl ?_
    refine i_cv (ci := 7) (t := 91) (na := 1) (ml := 1) (idx := 151) (pc' := 88) (st' := [.int v21, .int v20, .int (m8 a0 6), .ref v3, .ref a1]) (en := [some (.ref a1)]) (av := []) (vo := fun v => some (.int v)) (mo := fun _ => m8) (s2 := fun v => .int v :: [.int v21, .int v20, .int (m8 a0 6), .ref v3, .ref a1]) (by decide +kernel) (by decide +kernel) h1 ⟨rfl, rfl, rfl, rfl, rfl, rfl⟩ (fun _ => rfl) (t_91 hN (h0 := h1)) (fun v22 => ?_)
    refine i_cv (ci := 0) (t := 6) (na := 5) (ml := 5) (idx := 154) (pc' := 91) (st' := [.ref a1]) (en := [some (.ref v3), some (.int (m8 a0 6)), some (.int v20), some (.int v21), some (.int v22)]) (av := [.int (m8 a0 6), .int v20, .int v21, .int v22]) (vo := fun v => some (.int v)) (mo := fun _ => m8) (s2 := fun v => .int v :: [.ref a1]) (by decide +kernel) (by decide +kernel) hr4 ⟨rfl, rfl, rfl, rfl, rfl, rfl⟩ (fun _ => rfl) (t_6 hN (h0 := hr4)) (fun v23 => ?_)
    refine i_pf (x := v23) (idx := 138) (ci := 7) (k := 3) (p := 12023) (pc' := 94) (by decide +kernel) h1 (fun m24 => ?_)
    exact t_59_94 hN (h0 := h0) (h1 := h1) (h5 := hr2) (h6 := hr4)
  · exact t_59_94 hN (h0 := h0) (h1 := h1) (h5 := hr2) (h6 := hr4)

/-! 70 LanternChess$Log.openRow()V -/
noncomputable def d_70_39 (a0 : Nat) (m : Mm) : Option Mm := wb (wr m a0 2 ((m a0 2) + 1)) fun m2 => some m2
theorem t_70_39 {L nx : Nat} (hN : okn nx) {b z : Nat} {m : Mm} {a0 : Nat} (h0 : ok nx a0 5)   : Im (d_70_39 a0 m) (wV L nx) (ev_dn b z 70 39 [some (.ref a0)] [] (nx, mem L nx m)) := by
  unfold d_70_39
  refine i_bl (pc' := 41) [(.aload_n 0, 1), (.dup, 1)] [some (.ref a0)] [.ref a0, .ref a0] (by decide +kernel) rfl ?_
  refine i_gf (idx := 19) (ci := 5) (k := 2) (t := 0) (p := 11166) (pc' := 44) (by decide +kernel) h0 ?_
  refine i_bl (pc' := 46) [(.iconst 1, 1), (.iadd, 1)] [some (.ref a0)] [.int ((m a0 2) + 1), .ref a0] (by decide +kernel) rfl ?_
  refine i_pf (x := ((m a0 2) + 1)) (idx := 19) (ci := 5) (k := 2) (p := 11166) (pc' := 49) (by decide +kernel) h0 (fun m2 => ?_)
  exact i_rv (by decide +kernel) rfl

noncomputable def d_70 (a0 : Nat) (m : Mm) : Option Mm := if 20 ≤ (m a0 1) then (if ¬ (8 : Int32) < 0 ∧ ¬ (0 : Int32) < 0 ∧ ¬ (152 : Int32) < 0 ∧ ix (8 : Int32) + ix (152 : Int32) ≤ sh_n (sh_r a0 0) ∧ ix (0 : Int32) + ix (152 : Int32) ≤ sh_n (sh_r a0 0) then (wb (wa m (sh_r a0 0) (va_cpy (m (sh_r a0 0)) (m (sh_r a0 0)) (ix (8 : Int32)) (ix (0 : Int32)) (ix (152 : Int32)))) fun m1 => d_70_39 a0 m1) else none) else (wb (wr m a0 1 ((m a0 1) + 1)) fun m3 => d_70_39 a0 m3)
theorem t_70 {L nx : Nat} (hN : okn nx) {b z : Nat} {m : Mm} {a0 : Nat} (h0 : ok nx a0 5)   : Im (d_70 a0 m) (wV L nx) (ev_dn b z 70 0 [some (.ref a0)] [] (nx, mem L nx m)) := by
  unfold d_70
  refine i_bl (pc' := 1) [(.aload_n 0, 1)] [some (.ref a0)] [.ref a0] (by decide +kernel) rfl ?_
  refine i_gf (idx := 15) (ci := 5) (k := 1) (t := 0) (p := 11164) (pc' := 4) (by decide +kernel) h0 ?_
  refine i_bl (pc' := 6) [(.bipush (20), 2)] [some (.ref a0)] [.int 20, .int (m a0 1)] (by decide +kernel) rfl ?_
  refine i_ic (c := .ge) (off := 16) (t := 22) (pc' := 9) (p := 20 ≤ (m a0 1)) (by decide +kernel) rfl ?_ ?_
  · refine i_bl (pc' := 23) [(.aload_n 0, 1)] [some (.ref a0)] [.ref a0] (by decide +kernel) rfl ?_
    refine i_gr (idx := 9) (ci := 5) (k := 0) (t := 2) (p := 11163) (pc' := 26) (by decide +kernel) h0 ?_
    refine i_bl (pc' := 29) [(.bipush (8), 2), (.aload_n 0, 1)] [some (.ref a0)] [.ref a0, .int 8, .ref (sh_r a0 0)] (by decide +kernel) rfl ?_
    refine i_gr (idx := 9) (ci := 5) (k := 0) (t := 2) (p := 11163) (pc' := 32) (by decide +kernel) h0 ?_
    refine i_bl (pc' := 36) [(.iconst 0, 1), (.sipush (152), 3)] [some (.ref a0)] [.int 152, .int 0, .ref (sh_r a0 0), .int 8, .ref (sh_r a0 0)] (by decide +kernel) rfl ?_
    refine i_ac (idx := 22) (pc' := 39) (by decide +kernel) rfl (o_5_0 hN h0) (o_5_0 hN h0) (fun m1 => ?_)
    exact t_70_39 hN (h0 := h0)
  · refine i_bl (pc' := 11) [(.aload_n 0, 1), (.dup, 1)] [some (.ref a0)] [.ref a0, .ref a0] (by decide +kernel) rfl ?_
    refine i_gf (idx := 15) (ci := 5) (k := 1) (t := 0) (p := 11164) (pc' := 14) (by decide +kernel) h0 ?_
    refine i_bl (pc' := 16) [(.iconst 1, 1), (.iadd, 1)] [some (.ref a0)] [.int ((m a0 1) + 1), .ref a0] (by decide +kernel) rfl ?_
    refine i_pf (x := ((m a0 1) + 1)) (idx := 15) (ci := 5) (k := 1) (p := 11164) (pc' := 19) (by decide +kernel) h0 (fun m3 => ?_)
    refine i_go (t := 39) (off := 20) (by decide +kernel) ?_
    exact t_70_39 hN (h0 := h0)

/-! 71 LanternChess$Log.note(II)V -/
noncomputable def d_71 (a0 : Nat) (x1 : Int32) (x2 : Int32) (m : Mm) : Option Mm := wb ((((m a0 1) - 1) * 8) + x1) fun y1 => if y1 < 0 then (some m) else (if (Int32.ofNat (sh_n (sh_r a0 0))) ≤ y1 then (some m) else (if ev_in y1 (sh_n (sh_r a0 0)) = true then (wb (wr m (sh_r a0 0) (ix y1) x2) fun m2 => some m2) else none))
theorem t_71 {L nx : Nat} (hN : okn nx) {b z : Nat} {m : Mm} {a0 : Nat} (h0 : ok nx a0 5) {x1 : Int32} {x2 : Int32}  : Im (d_71 a0 x1 x2 m) (wV L nx) (ev_dn b z 71 0 [some (.ref a0), some (.int x1), some (.int x2), none] [] (nx, mem L nx m)) := by
  unfold d_71
  refine i_bl (pc' := 1) [(.aload_n 0, 1)] [some (.ref a0), some (.int x1), some (.int x2), none] [.ref a0] (by decide +kernel) rfl ?_
  refine i_gf (idx := 15) (ci := 5) (k := 1) (t := 0) (p := 11164) (pc' := 4) (by decide +kernel) h0 ?_
  refine i_bl (pc' := 12) [(.iconst 1, 1), (.isub, 1), (.bipush (8), 2), (.imul, 1), (.iload_n 1, 1), (.iadd, 1), (.istore_n 3, 1)] [some (.ref a0), some (.int x1), some (.int x2), some (.int ((((m a0 1) - 1) * 8) + x1))] [] (by decide +kernel) rfl ?_
  refine i_wb (fun y1 => ev_dn b z 71 12 [some (.ref a0), some (.int x1), some (.int x2), some (.int y1)] [] (nx, mem L nx m)) (fun y1 => ?_)
  refine i_bl (pc' := 13) [(.iload_n 3, 1)] [some (.ref a0), some (.int x1), some (.int x2), some (.int y1)] [.int y1] (by decide +kernel) rfl ?_
  refine i_if (c := .lt) (off := 19) (t := 32) (pc' := 16) (p := y1 < 0) (by decide +kernel) rfl ?_ ?_
  · exact i_rv (by decide +kernel) rfl
  · refine i_bl (pc' := 18) [(.iload_n 3, 1), (.aload_n 0, 1)] [some (.ref a0), some (.int x1), some (.int x2), some (.int y1)] [.ref a0, .int y1] (by decide +kernel) rfl ?_
    refine i_gr (idx := 9) (ci := 5) (k := 0) (t := 2) (p := 11163) (pc' := 21) (by decide +kernel) h0 ?_
    refine i_ln (c := 100) (pc' := 22) (by decide +kernel) (o_5_0 hN h0) ?_
    refine i_ic (c := .ge) (off := 10) (t := 32) (pc' := 25) (p := (Int32.ofNat (sh_n (sh_r a0 0))) ≤ y1) (by decide +kernel) rfl ?_ ?_
    · exact i_rv (by decide +kernel) rfl
    · refine i_bl (pc' := 26) [(.aload_n 0, 1)] [some (.ref a0), some (.int x1), some (.int x2), some (.int y1)] [.ref a0] (by decide +kernel) rfl ?_
      refine i_gr (idx := 9) (ci := 5) (k := 0) (t := 2) (p := 11163) (pc' := 29) (by decide +kernel) h0 ?_
      refine i_bl (pc' := 31) [(.iload_n 3, 1), (.iload_n 2, 1)] [some (.ref a0), some (.int x1), some (.int x2), some (.int y1)] [.int x2, .int y1, .ref (sh_r a0 0)] (by decide +kernel) rfl ?_
      refine i_as (y := x2) (pc' := 32) (by decide +kernel) (o_5_0 hN h0) (fun m2 => ?_)
      exact i_rv (by decide +kernel) rfl

/-! 94 LanternChess$Sending.sumOf([I)I -/
noncomputable def E_94_4 (L nx b z : Nat) (a0 : Nat) (m : Mm) (d : Unit) (s : (Int32 × Int32)) : ev_Q := ev_dn b z 94 4 [some (.ref a0), some (.int s.1), some (.int s.2)] [] (nx, mem L nx m)
noncomputable def s_94_4 (a0 : Nat) (m : Mm) (x1 : Int32) (x2 : Int32) : Option ((Int32 × Int32) ⊕ Int32) := if (Int32.ofNat (sh_n a0)) ≤ x2 then (some (.inr x1)) else (if ev_in x2 (sh_n a0) = true then (wb (x1 + (m a0 (ix x2))) fun y1 => wb (x2 + 1) fun y2 => some (.inl (y1, y2))) else none)
noncomputable def d_94_4 (a0 : Nat) (m : Mm) (x1 : Int32) (x2 : Int32) : Option Int32 := it (fun s => s_94_4 a0 m s.1 s.2) (x1, x2)
theorem e_94_4 (a0 : Nat) (m : Mm) (x1 : Int32) (x2 : Int32) : d_94_4 a0 m x1 x2 = oi (s_94_4 a0 m x1 x2) (fun s => d_94_4 a0 m s.1 s.2) := it_eq _
theorem u_94_4 {L nx : Nat} (hN : okn nx) {b z : Nat} {m : Mm} {a0 : Nat} (h0 : ok nx a0 100) {x1 : Int32} {x2 : Int32}  : Im (s_94_4 a0 m x1 x2) (kL (kI L nx m) (E_94_4 L nx b z a0 m)) (ev_dn b z 94 4 [some (.ref a0), some (.int x1), some (.int x2)] [] (nx, mem L nx m)) := by
  unfold s_94_4
  refine i_bl (pc' := 6) [(.iload_n 2, 1), (.aload_n 0, 1)] [some (.ref a0), some (.int x1), some (.int x2)] [.ref a0, .int x2] (by decide +kernel) rfl ?_
  refine i_ln (c := 100) (pc' := 7) (by decide +kernel) h0 ?_
  refine i_ic (c := .ge) (off := 15) (t := 22) (pc' := 10) (p := (Int32.ofNat (sh_n a0)) ≤ x2) (by decide +kernel) rfl ?_ ?_
  · refine i_bl (pc' := 23) [(.iload_n 1, 1)] [some (.ref a0), some (.int x1), some (.int x2)] [.int x1] (by decide +kernel) rfl ?_
    exact i_ir (i_ri (by decide +kernel) rfl)
  · refine i_bl (pc' := 13) [(.iload_n 1, 1), (.aload_n 0, 1), (.iload_n 2, 1)] [some (.ref a0), some (.int x1), some (.int x2)] [.int x2, .ref a0, .int x1] (by decide +kernel) rfl ?_
    refine i_al (pc' := 14) (by decide +kernel) h0 ?_
    refine i_bl (pc' := 16) [(.iadd, 1), (.istore_n 1, 1)] [some (.ref a0), some (.int (x1 + (m a0 (ix x2)))), some (.int x2)] [] (by decide +kernel) rfl ?_
    refine i_wb (fun y1 => ev_dn b z 94 16 [some (.ref a0), some (.int y1), some (.int x2)] [] (nx, mem L nx m)) (fun y1 => ?_)
    refine i_bl (pc' := 19) [(.iinc 2 (1), 3)] [some (.ref a0), some (.int y1), some (.int (x2 + 1))] [] (by decide +kernel) rfl ?_
    refine i_wb (fun y2 => ev_dn b z 94 19 [some (.ref a0), some (.int y1), some (.int y2)] [] (nx, mem L nx m)) (fun y2 => ?_)
    refine i_go (t := 4) (off := -15) (by decide +kernel) ?_
    exact i_co () rfl

theorem t_94_4 {L nx : Nat} (hN : okn nx) {b z : Nat} {m : Mm} {a0 : Nat} (h0 : ok nx a0 100) {x1 : Int32} {x2 : Int32}  : Im (d_94_4 a0 m x1 x2) (kI L nx m) (ev_dn b z 94 4 [some (.ref a0), some (.int x1), some (.int x2)] [] (nx, mem L nx m)) := by
  exact i_it (f := fun s => s_94_4 a0 m s.1 s.2) (E := E_94_4 L nx b z a0 m) (K := (kI L nx m)) (fun d s => u_94_4 hN (h0 := h0)) () (x1, x2)
noncomputable def d_94 (a0 : Nat) (m : Mm) : Option Int32 := d_94_4 a0 m 0 0
theorem t_94 {L nx : Nat} (hN : okn nx) {b z : Nat} {m : Mm} {a0 : Nat} (h0 : ok nx a0 100)   : Im (d_94 a0 m) (kI L nx m) (ev_dn b z 94 0 [some (.ref a0), none, none] [] (nx, mem L nx m)) := by
  unfold d_94
  refine i_bl (pc' := 4) [(.iconst 0, 1), (.istore_n 1, 1), (.iconst 0, 1), (.istore_n 2, 1)] [some (.ref a0), some (.int 0), some (.int 0)] [] (by decide +kernel) rfl ?_
  exact t_94_4 hN (h0 := h0)

/-! 92 LanternChess$Sending.allFlashes()I -/
noncomputable def d_92 (a0 : Nat) (m : Mm) : Option Int32 := (d_94 (sh_r a0 0) m).bind fun v1 => some v1
theorem t_92 {L nx : Nat} (hN : okn nx) {b z : Nat} {m : Mm} {a0 : Nat} (h0 : ok nx a0 7)   : Im (d_92 a0 m) (kI L nx m) (ev_dn b z 92 0 [some (.ref a0)] [] (nx, mem L nx m)) := by
  unfold d_92
  refine i_bl (pc' := 1) [(.aload_n 0, 1)] [some (.ref a0)] [.ref a0] (by decide +kernel) rfl ?_
  refine i_gr (idx := 9) (ci := 7) (k := 0) (t := 2) (p := 12017) (pc' := 4) (by decide +kernel) h0 ?_
  refine i_cs (t := 94) (na := 1) (ml := 3) (idx := 64) (pc' := 7) (st' := []) (en := [some (.ref (sh_r a0 0)), none, none]) (av := [.ref (sh_r a0 0)]) (vo := fun v => some (.int v)) (mo := fun _ => m) (s2 := fun v => .int v :: []) (by decide +kernel) ⟨rfl, rfl, rfl, rfl, rfl, rfl⟩ (fun _ => rfl) (t_94 hN (h0 := (o_7_0 hN h0))) (fun v1 => ?_)
  exact i_ri (by decide +kernel) rfl

/-! 93 LanternChess$Sending.allLooks()I -/
noncomputable def d_93 (a0 : Nat) (m : Mm) : Option Int32 := (d_94 (sh_r a0 1) m).bind fun v1 => some v1
theorem t_93 {L nx : Nat} (hN : okn nx) {b z : Nat} {m : Mm} {a0 : Nat} (h0 : ok nx a0 7)   : Im (d_93 a0 m) (kI L nx m) (ev_dn b z 93 0 [some (.ref a0)] [] (nx, mem L nx m)) := by
  unfold d_93
  refine i_bl (pc' := 1) [(.aload_n 0, 1)] [some (.ref a0)] [.ref a0] (by decide +kernel) rfl ?_
  refine i_gr (idx := 15) (ci := 7) (k := 1) (t := 2) (p := 12018) (pc' := 4) (by decide +kernel) h0 ?_
  refine i_cs (t := 94) (na := 1) (ml := 3) (idx := 64) (pc' := 7) (st' := []) (en := [some (.ref (sh_r a0 1)), none, none]) (av := [.ref (sh_r a0 1)]) (vo := fun v => some (.int v)) (mo := fun _ => m) (s2 := fun v => .int v :: []) (by decide +kernel) ⟨rfl, rfl, rfl, rfl, rfl, rfl⟩ (fun _ => rfl) (t_94 hN (h0 := (o_7_1 hN h0))) (fun v1 => ?_)
  exact i_ri (by decide +kernel) rfl

/-! 61 LanternChess$Game.noteSending(LLanternChess$Sending;I)V -/
noncomputable def d_61_107 (s0 : Nat) (s1 : Int32) (s2 : Bool) (m : Mm) : Option Mm := (d_71 s0 s1 (bi s2) m).bind fun m12 => some m12
theorem t_61_107 {L nx : Nat} (hN : okn nx) {b z : Nat} {m : Mm} {s0 : Nat} (hs0 : ok nx s0 5) {s1 : Int32} {s2 : Bool} {o0 : Option Value} {o1 : Option Value} {o2 : Option Value} : Im (d_61_107 s0 s1 s2 m) (wV L nx) (ev_dn b z 61 107 [o0, o1, o2] [.int (bi s2), .int s1, .ref s0] (nx, mem L nx m)) := by
  unfold d_61_107
  refine i_cv (ci := 5) (t := 71) (na := 3) (ml := 4) (idx := 210) (pc' := 110) (st' := []) (en := [some (.ref s0), some (.int s1), some (.int (bi s2)), none]) (av := [.int s1, .int (bi s2)]) (vo := fun _ => none) (mo := fun m => m) (s2 := fun _ => []) (by decide +kernel) (by decide +kernel) hs0 ⟨rfl, rfl, rfl, rfl, rfl, rfl⟩ (fun _ => rfl) (t_71 hN (h0 := hs0)) (fun m12 => ?_)
  exact i_rv (by decide +kernel) rfl

noncomputable def d_61 (a0 : Nat) (a1 : Nat) (x2 : Int32) (m : Mm) : Option Mm := (d_70 (sh_r a0 3) m).bind fun m1 => (d_71 (sh_r a0 3) 0 x2 m1).bind fun m2 => (d_71 (sh_r a0 3) 1 (m2 a0 6) m2).bind fun m3 => (d_92 a1 m3).bind fun v4 => (d_71 (sh_r a0 3) 2 v4 m3).bind fun m5 => (d_93 a1 m5).bind fun v6 => (d_71 (sh_r a0 3) 3 v6 m5).bind fun m7 => (d_71 (sh_r a0 3) 4 (m7 a1 3) m7).bind fun m8 => (d_71 (sh_r a0 3) 5 (m8 a1 4) m8).bind fun m9 => (d_71 (sh_r a0 3) 6 (m9 a1 5) m9).bind fun m10 => zb (m10 a1 6) fun B11 => if B11 = true then (d_61_107 (sh_r a0 3) 7 true m10) else (d_61_107 (sh_r a0 3) 7 false m10)
theorem t_61 {L nx : Nat} (hN : okn nx) {b z : Nat} {m : Mm} {a0 : Nat} (h0 : ok nx a0 3) {a1 : Nat} (h1 : ok nx a1 7) {x2 : Int32}  : Im (d_61 a0 a1 x2 m) (wV L nx) (ev_dn b z 61 0 [some (.ref a0), some (.ref a1), some (.int x2)] [] (nx, mem L nx m)) := by
  unfold d_61
  refine i_bl (pc' := 1) [(.aload_n 0, 1)] [some (.ref a0), some (.ref a1), some (.int x2)] [.ref a0] (by decide +kernel) rfl ?_
  refine i_gr (idx := 31) (ci := 3) (k := 3) (t := 2) (p := 11183) (pc' := 4) (by decide +kernel) h0 ?_
  refine i_cv (ci := 5) (t := 70) (na := 1) (ml := 1) (idx := 207) (pc' := 7) (st' := []) (en := [some (.ref (sh_r a0 3))]) (av := []) (vo := fun _ => none) (mo := fun m => m) (s2 := fun _ => []) (by decide +kernel) (by decide +kernel) (o_3_3 hN h0) ⟨rfl, rfl, rfl, rfl, rfl, rfl⟩ (fun _ => rfl) (t_70 hN (h0 := (o_3_3 hN h0))) (fun m1 => ?_)
  refine i_bl (pc' := 8) [(.aload_n 0, 1)] [some (.ref a0), some (.ref a1), some (.int x2)] [.ref a0] (by decide +kernel) rfl ?_
  refine i_gr (idx := 31) (ci := 3) (k := 3) (t := 2) (p := 11183) (pc' := 11) (by decide +kernel) h0 ?_
  refine i_bl (pc' := 13) [(.iconst 0, 1), (.iload_n 2, 1)] [some (.ref a0), some (.ref a1), some (.int x2)] [.int x2, .int 0, .ref (sh_r a0 3)] (by decide +kernel) rfl ?_
  refine i_cv (ci := 5) (t := 71) (na := 3) (ml := 4) (idx := 210) (pc' := 16) (st' := []) (en := [some (.ref (sh_r a0 3)), some (.int 0), some (.int x2), none]) (av := [.int 0, .int x2]) (vo := fun _ => none) (mo := fun m => m) (s2 := fun _ => []) (by decide +kernel) (by decide +kernel) (o_3_3 hN h0) ⟨rfl, rfl, rfl, rfl, rfl, rfl⟩ (fun _ => rfl) (t_71 hN (h0 := (o_3_3 hN h0))) (fun m2 => ?_)
  refine i_bl (pc' := 17) [(.aload_n 0, 1)] [some (.ref a0), some (.ref a1), some (.int x2)] [.ref a0] (by decide +kernel) rfl ?_
  refine i_gr (idx := 31) (ci := 3) (k := 3) (t := 2) (p := 11183) (pc' := 20) (by decide +kernel) h0 ?_
  refine i_bl (pc' := 22) [(.iconst 1, 1), (.aload_n 0, 1)] [some (.ref a0), some (.ref a1), some (.int x2)] [.ref a0, .int 1, .ref (sh_r a0 3)] (by decide +kernel) rfl ?_
  refine i_gf (idx := 42) (ci := 3) (k := 6) (t := 0) (p := 11189) (pc' := 25) (by decide +kernel) h0 ?_
  refine i_cv (ci := 5) (t := 71) (na := 3) (ml := 4) (idx := 210) (pc' := 28) (st' := []) (en := [some (.ref (sh_r a0 3)), some (.int 1), some (.int (m2 a0 6)), none]) (av := [.int 1, .int (m2 a0 6)]) (vo := fun _ => none) (mo := fun m => m) (s2 := fun _ => []) (by decide +kernel) (by decide +kernel) (o_3_3 hN h0) ⟨rfl, rfl, rfl, rfl, rfl, rfl⟩ (fun _ => rfl) (t_71 hN (h0 := (o_3_3 hN h0))) (fun m3 => ?_)
  refine i_bl (pc' := 29) [(.aload_n 0, 1)] [some (.ref a0), some (.ref a1), some (.int x2)] [.ref a0] (by decide +kernel) rfl ?_
  refine i_gr (idx := 31) (ci := 3) (k := 3) (t := 2) (p := 11183) (pc' := 32) (by decide +kernel) h0 ?_
  refine i_bl (pc' := 34) [(.iconst 2, 1), (.aload_n 1, 1)] [some (.ref a0), some (.ref a1), some (.int x2)] [.ref a1, .int 2, .ref (sh_r a0 3)] (by decide +kernel) rfl ?_
  refine i_cv (ci := 7) (t := 92) (na := 1) (ml := 1) (idx := 213) (pc' := 37) (st' := [.int 2, .ref (sh_r a0 3)]) (en := [some (.ref a1)]) (av := []) (vo := fun v => some (.int v)) (mo := fun _ => m3) (s2 := fun v => .int v :: [.int 2, .ref (sh_r a0 3)]) (by decide +kernel) (by decide +kernel) h1 ⟨rfl, rfl, rfl, rfl, rfl, rfl⟩ (fun _ => rfl) (t_92 hN (h0 := h1)) (fun v4 => ?_)
  refine i_cv (ci := 5) (t := 71) (na := 3) (ml := 4) (idx := 210) (pc' := 40) (st' := []) (en := [some (.ref (sh_r a0 3)), some (.int 2), some (.int v4), none]) (av := [.int 2, .int v4]) (vo := fun _ => none) (mo := fun m => m) (s2 := fun _ => []) (by decide +kernel) (by decide +kernel) (o_3_3 hN h0) ⟨rfl, rfl, rfl, rfl, rfl, rfl⟩ (fun _ => rfl) (t_71 hN (h0 := (o_3_3 hN h0))) (fun m5 => ?_)
  refine i_bl (pc' := 41) [(.aload_n 0, 1)] [some (.ref a0), some (.ref a1), some (.int x2)] [.ref a0] (by decide +kernel) rfl ?_
  refine i_gr (idx := 31) (ci := 3) (k := 3) (t := 2) (p := 11183) (pc' := 44) (by decide +kernel) h0 ?_
  refine i_bl (pc' := 46) [(.iconst 3, 1), (.aload_n 1, 1)] [some (.ref a0), some (.ref a1), some (.int x2)] [.ref a1, .int 3, .ref (sh_r a0 3)] (by decide +kernel) rfl ?_
  refine i_cv (ci := 7) (t := 93) (na := 1) (ml := 1) (idx := 216) (pc' := 49) (st' := [.int 3, .ref (sh_r a0 3)]) (en := [some (.ref a1)]) (av := []) (vo := fun v => some (.int v)) (mo := fun _ => m5) (s2 := fun v => .int v :: [.int 3, .ref (sh_r a0 3)]) (by decide +kernel) (by decide +kernel) h1 ⟨rfl, rfl, rfl, rfl, rfl, rfl⟩ (fun _ => rfl) (t_93 hN (h0 := h1)) (fun v6 => ?_)
  refine i_cv (ci := 5) (t := 71) (na := 3) (ml := 4) (idx := 210) (pc' := 52) (st' := []) (en := [some (.ref (sh_r a0 3)), some (.int 3), some (.int v6), none]) (av := [.int 3, .int v6]) (vo := fun _ => none) (mo := fun m => m) (s2 := fun _ => []) (by decide +kernel) (by decide +kernel) (o_3_3 hN h0) ⟨rfl, rfl, rfl, rfl, rfl, rfl⟩ (fun _ => rfl) (t_71 hN (h0 := (o_3_3 hN h0))) (fun m7 => ?_)
  refine i_bl (pc' := 53) [(.aload_n 0, 1)] [some (.ref a0), some (.ref a1), some (.int x2)] [.ref a0] (by decide +kernel) rfl ?_
  refine i_gr (idx := 31) (ci := 3) (k := 3) (t := 2) (p := 11183) (pc' := 56) (by decide +kernel) h0 ?_
  refine i_bl (pc' := 58) [(.iconst 4, 1), (.aload_n 1, 1)] [some (.ref a0), some (.ref a1), some (.int x2)] [.ref a1, .int 4, .ref (sh_r a0 3)] (by decide +kernel) rfl ?_
  refine i_gf (idx := 138) (ci := 7) (k := 3) (t := 0) (p := 12023) (pc' := 61) (by decide +kernel) h1 ?_
  refine i_cv (ci := 5) (t := 71) (na := 3) (ml := 4) (idx := 210) (pc' := 64) (st' := []) (en := [some (.ref (sh_r a0 3)), some (.int 4), some (.int (m7 a1 3)), none]) (av := [.int 4, .int (m7 a1 3)]) (vo := fun _ => none) (mo := fun m => m) (s2 := fun _ => []) (by decide +kernel) (by decide +kernel) (o_3_3 hN h0) ⟨rfl, rfl, rfl, rfl, rfl, rfl⟩ (fun _ => rfl) (t_71 hN (h0 := (o_3_3 hN h0))) (fun m8 => ?_)
  refine i_bl (pc' := 65) [(.aload_n 0, 1)] [some (.ref a0), some (.ref a1), some (.int x2)] [.ref a0] (by decide +kernel) rfl ?_
  refine i_gr (idx := 31) (ci := 3) (k := 3) (t := 2) (p := 11183) (pc' := 68) (by decide +kernel) h0 ?_
  refine i_bl (pc' := 70) [(.iconst 5, 1), (.aload_n 1, 1)] [some (.ref a0), some (.ref a1), some (.int x2)] [.ref a1, .int 5, .ref (sh_r a0 3)] (by decide +kernel) rfl ?_
  refine i_gf (idx := 158) (ci := 7) (k := 4) (t := 0) (p := 12026) (pc' := 73) (by decide +kernel) h1 ?_
  refine i_cv (ci := 5) (t := 71) (na := 3) (ml := 4) (idx := 210) (pc' := 76) (st' := []) (en := [some (.ref (sh_r a0 3)), some (.int 5), some (.int (m8 a1 4)), none]) (av := [.int 5, .int (m8 a1 4)]) (vo := fun _ => none) (mo := fun m => m) (s2 := fun _ => []) (by decide +kernel) (by decide +kernel) (o_3_3 hN h0) ⟨rfl, rfl, rfl, rfl, rfl, rfl⟩ (fun _ => rfl) (t_71 hN (h0 := (o_3_3 hN h0))) (fun m9 => ?_)
  refine i_bl (pc' := 77) [(.aload_n 0, 1)] [some (.ref a0), some (.ref a1), some (.int x2)] [.ref a0] (by decide +kernel) rfl ?_
  refine i_gr (idx := 31) (ci := 3) (k := 3) (t := 2) (p := 11183) (pc' := 80) (by decide +kernel) h0 ?_
  refine i_bl (pc' := 83) [(.bipush (6), 2), (.aload_n 1, 1)] [some (.ref a0), some (.ref a1), some (.int x2)] [.ref a1, .int 6, .ref (sh_r a0 3)] (by decide +kernel) rfl ?_
  refine i_gf (idx := 171) (ci := 7) (k := 5) (t := 0) (p := 12028) (pc' := 86) (by decide +kernel) h1 ?_
  refine i_cv (ci := 5) (t := 71) (na := 3) (ml := 4) (idx := 210) (pc' := 89) (st' := []) (en := [some (.ref (sh_r a0 3)), some (.int 6), some (.int (m9 a1 5)), none]) (av := [.int 6, .int (m9 a1 5)]) (vo := fun _ => none) (mo := fun m => m) (s2 := fun _ => []) (by decide +kernel) (by decide +kernel) (o_3_3 hN h0) ⟨rfl, rfl, rfl, rfl, rfl, rfl⟩ (fun _ => rfl) (t_71 hN (h0 := (o_3_3 hN h0))) (fun m10 => ?_)
  refine i_bl (pc' := 90) [(.aload_n 0, 1)] [some (.ref a0), some (.ref a1), some (.int x2)] [.ref a0] (by decide +kernel) rfl ?_
  refine i_gr (idx := 31) (ci := 3) (k := 3) (t := 2) (p := 11183) (pc' := 93) (by decide +kernel) h0 ?_
  refine i_bl (pc' := 96) [(.bipush (7), 2), (.aload_n 1, 1)] [some (.ref a0), some (.ref a1), some (.int x2)] [.ref a1, .int 7, .ref (sh_r a0 3)] (by decide +kernel) rfl ?_
  refine i_gz (idx := 177) (ci := 7) (k := 6) (t := 1) (p := 12030) (pc' := 99) (by decide +kernel) h1 (fun B11 => ?_)
  refine i_bz (off := 7) (t := 106) (pc' := 102) (by decide +kernel) ?_ ?_
  · refine i_bl (pc' := 103) [(.iconst 1, 1)] [some (.ref a0), some (.ref a1), some (.int x2)] [.int 1, .int 7, .ref (sh_r a0 3)] (by decide +kernel) rfl ?_
    refine i_go (t := 107) (off := 4) (by decide +kernel) ?_
    exact t_61_107 hN (hs0 := (o_3_3 hN h0))
  · refine i_bl (pc' := 107) [(.iconst 0, 1)] [some (.ref a0), some (.ref a1), some (.int x2)] [.int 0, .int 7, .ref (sh_r a0 3)] (by decide +kernel) rfl ?_
    exact t_61_107 hN (hs0 := (o_3_3 hN h0))

/-! 62 LanternChess$Game.finishMove(III)V -/
noncomputable def d_62_130 (a0 : Nat) (m : Mm) : Option Mm := wb (wr m a0 6 (1 - (m a0 6))) fun m12 => some m12
theorem t_62_130 {L nx : Nat} (hN : okn nx) {b z : Nat} {m : Mm} {a0 : Nat} (h0 : ok nx a0 3)  {o1 : Option Value} {o2 : Option Value} {o3 : Option Value} {o4 : Option Value} {o5 : Option Value} {o6 : Option Value} : Im (d_62_130 a0 m) (wV L nx) (ev_dn b z 62 130 [some (.ref a0), o1, o2, o3, o4, o5, o6] [] (nx, mem L nx m)) := by
  unfold d_62_130
  refine i_bl (pc' := 133) [(.aload_n 0, 1), (.iconst 1, 1), (.aload_n 0, 1)] [some (.ref a0), o1, o2, o3, o4, o5, o6] [.ref a0, .int 1, .ref a0] (by decide +kernel) rfl ?_
  refine i_gf (idx := 42) (ci := 3) (k := 6) (t := 0) (p := 11189) (pc' := 136) (by decide +kernel) h0 ?_
  refine i_bl (pc' := 137) [(.isub, 1)] [some (.ref a0), o1, o2, o3, o4, o5, o6] [.int (1 - (m a0 6)), .ref a0] (by decide +kernel) rfl ?_
  refine i_pf (x := (1 - (m a0 6))) (idx := 42) (ci := 3) (k := 6) (p := 11189) (pc' := 140) (by decide +kernel) h0 (fun m12 => ?_)
  exact i_rv (by decide +kernel) rfl

noncomputable def d_62_36 (a0 : Nat) (x1 : Int32) (x2 : Int32) (x3 : Int32) (a4 : Nat) (s0 : Int32) (m : Mm) : Option Mm := (d_3 a4 (m a0 6) x1 x2 m).bind fun m4 => (d_70 (sh_r a0 4) m4).bind fun m5 => (d_71 (sh_r a0 4) 0 (m5 a0 6) m5).bind fun m6 => (d_71 (sh_r a0 4) 1 x1 m6).bind fun m7 => (d_71 (sh_r a0 4) 2 x2 m7).bind fun m8 => (d_71 (sh_r a0 4) 3 s0 m8).bind fun m9 => (d_71 (sh_r a0 4) 4 x3 m9).bind fun m10 => (d_71 (sh_r a0 4) 5 (m10 a0 5) m10).bind fun m11 => if ¬ s0 = 0 then (d_62_130 a0 m11) else ((d_57 a0 (m11 a0 6) m11).bind fun m13 => d_62_130 a0 m13)
theorem t_62_36 {L nx : Nat} (hN : okn nx) {b z : Nat} {m : Mm} {a0 : Nat} (h0 : ok nx a0 3) {a4 : Nat} (h4 : ok nx a4 0) {x1 : Int32} {x2 : Int32} {x3 : Int32} {s0 : Int32} {o5 : Option Value} : Im (d_62_36 a0 x1 x2 x3 a4 s0 m) (wV L nx) (ev_dn b z 62 36 [some (.ref a0), some (.int x1), some (.int x2), some (.int x3), some (.ref a4), o5, none] [.int s0] (nx, mem L nx m)) := by
  unfold d_62_36
  refine i_bl (pc' := 41) [(.istore 6, 2), (.aload 4, 2), (.aload_n 0, 1)] [some (.ref a0), some (.int x1), some (.int x2), some (.int x3), some (.ref a4), (ev_kl o5), some (.int s0)] [.ref a0, .ref a4] (by decide +kernel) rfl ?_
  refine i_gf (idx := 42) (ci := 3) (k := 6) (t := 0) (p := 11189) (pc' := 44) (by decide +kernel) h0 ?_
  refine i_bl (pc' := 46) [(.iload_n 1, 1), (.iload_n 2, 1)] [some (.ref a0), some (.int x1), some (.int x2), some (.int x3), some (.ref a4), (ev_kl o5), some (.int s0)] [.int x2, .int x1, .int (m a0 6), .ref a4] (by decide +kernel) rfl ?_
  refine i_cv (ci := 0) (t := 3) (na := 4) (ml := 4) (idx := 222) (pc' := 49) (st' := []) (en := [some (.ref a4), some (.int (m a0 6)), some (.int x1), some (.int x2)]) (av := [.int (m a0 6), .int x1, .int x2]) (vo := fun _ => none) (mo := fun m => m) (s2 := fun _ => []) (by decide +kernel) (by decide +kernel) h4 ⟨rfl, rfl, rfl, rfl, rfl, rfl⟩ (fun _ => rfl) (t_3 hN (h0 := h4)) (fun m4 => ?_)
  refine i_bl (pc' := 50) [(.aload_n 0, 1)] [some (.ref a0), some (.int x1), some (.int x2), some (.int x3), some (.ref a4), (ev_kl o5), some (.int s0)] [.ref a0] (by decide +kernel) rfl ?_
  refine i_gr (idx := 35) (ci := 3) (k := 4) (t := 2) (p := 11185) (pc' := 53) (by decide +kernel) h0 ?_
  refine i_cv (ci := 5) (t := 70) (na := 1) (ml := 1) (idx := 207) (pc' := 56) (st' := []) (en := [some (.ref (sh_r a0 4))]) (av := []) (vo := fun _ => none) (mo := fun m => m) (s2 := fun _ => []) (by decide +kernel) (by decide +kernel) (o_3_4 hN h0) ⟨rfl, rfl, rfl, rfl, rfl, rfl⟩ (fun _ => rfl) (t_70 hN (h0 := (o_3_4 hN h0))) (fun m5 => ?_)
  refine i_bl (pc' := 57) [(.aload_n 0, 1)] [some (.ref a0), some (.int x1), some (.int x2), some (.int x3), some (.ref a4), (ev_kl o5), some (.int s0)] [.ref a0] (by decide +kernel) rfl ?_
  refine i_gr (idx := 35) (ci := 3) (k := 4) (t := 2) (p := 11185) (pc' := 60) (by decide +kernel) h0 ?_
  refine i_bl (pc' := 62) [(.iconst 0, 1), (.aload_n 0, 1)] [some (.ref a0), some (.int x1), some (.int x2), some (.int x3), some (.ref a4), (ev_kl o5), some (.int s0)] [.ref a0, .int 0, .ref (sh_r a0 4)] (by decide +kernel) rfl ?_
  refine i_gf (idx := 42) (ci := 3) (k := 6) (t := 0) (p := 11189) (pc' := 65) (by decide +kernel) h0 ?_
  refine i_cv (ci := 5) (t := 71) (na := 3) (ml := 4) (idx := 210) (pc' := 68) (st' := []) (en := [some (.ref (sh_r a0 4)), some (.int 0), some (.int (m5 a0 6)), none]) (av := [.int 0, .int (m5 a0 6)]) (vo := fun _ => none) (mo := fun m => m) (s2 := fun _ => []) (by decide +kernel) (by decide +kernel) (o_3_4 hN h0) ⟨rfl, rfl, rfl, rfl, rfl, rfl⟩ (fun _ => rfl) (t_71 hN (h0 := (o_3_4 hN h0))) (fun m6 => ?_)
  refine i_bl (pc' := 69) [(.aload_n 0, 1)] [some (.ref a0), some (.int x1), some (.int x2), some (.int x3), some (.ref a4), (ev_kl o5), some (.int s0)] [.ref a0] (by decide +kernel) rfl ?_
  refine i_gr (idx := 35) (ci := 3) (k := 4) (t := 2) (p := 11185) (pc' := 72) (by decide +kernel) h0 ?_
  refine i_bl (pc' := 74) [(.iconst 1, 1), (.iload_n 1, 1)] [some (.ref a0), some (.int x1), some (.int x2), some (.int x3), some (.ref a4), (ev_kl o5), some (.int s0)] [.int x1, .int 1, .ref (sh_r a0 4)] (by decide +kernel) rfl ?_
  refine i_cv (ci := 5) (t := 71) (na := 3) (ml := 4) (idx := 210) (pc' := 77) (st' := []) (en := [some (.ref (sh_r a0 4)), some (.int 1), some (.int x1), none]) (av := [.int 1, .int x1]) (vo := fun _ => none) (mo := fun m => m) (s2 := fun _ => []) (by decide +kernel) (by decide +kernel) (o_3_4 hN h0) ⟨rfl, rfl, rfl, rfl, rfl, rfl⟩ (fun _ => rfl) (t_71 hN (h0 := (o_3_4 hN h0))) (fun m7 => ?_)
  refine i_bl (pc' := 78) [(.aload_n 0, 1)] [some (.ref a0), some (.int x1), some (.int x2), some (.int x3), some (.ref a4), (ev_kl o5), some (.int s0)] [.ref a0] (by decide +kernel) rfl ?_
  refine i_gr (idx := 35) (ci := 3) (k := 4) (t := 2) (p := 11185) (pc' := 81) (by decide +kernel) h0 ?_
  refine i_bl (pc' := 83) [(.iconst 2, 1), (.iload_n 2, 1)] [some (.ref a0), some (.int x1), some (.int x2), some (.int x3), some (.ref a4), (ev_kl o5), some (.int s0)] [.int x2, .int 2, .ref (sh_r a0 4)] (by decide +kernel) rfl ?_
  refine i_cv (ci := 5) (t := 71) (na := 3) (ml := 4) (idx := 210) (pc' := 86) (st' := []) (en := [some (.ref (sh_r a0 4)), some (.int 2), some (.int x2), none]) (av := [.int 2, .int x2]) (vo := fun _ => none) (mo := fun m => m) (s2 := fun _ => []) (by decide +kernel) (by decide +kernel) (o_3_4 hN h0) ⟨rfl, rfl, rfl, rfl, rfl, rfl⟩ (fun _ => rfl) (t_71 hN (h0 := (o_3_4 hN h0))) (fun m8 => ?_)
  refine i_bl (pc' := 87) [(.aload_n 0, 1)] [some (.ref a0), some (.int x1), some (.int x2), some (.int x3), some (.ref a4), (ev_kl o5), some (.int s0)] [.ref a0] (by decide +kernel) rfl ?_
  refine i_gr (idx := 35) (ci := 3) (k := 4) (t := 2) (p := 11185) (pc' := 90) (by decide +kernel) h0 ?_
  refine i_bl (pc' := 93) [(.iconst 3, 1), (.iload 6, 2)] [some (.ref a0), some (.int x1), some (.int x2), some (.int x3), some (.ref a4), (ev_kl o5), some (.int s0)] [.int s0, .int 3, .ref (sh_r a0 4)] (by decide +kernel) rfl ?_
  refine i_cv (ci := 5) (t := 71) (na := 3) (ml := 4) (idx := 210) (pc' := 96) (st' := []) (en := [some (.ref (sh_r a0 4)), some (.int 3), some (.int s0), none]) (av := [.int 3, .int s0]) (vo := fun _ => none) (mo := fun m => m) (s2 := fun _ => []) (by decide +kernel) (by decide +kernel) (o_3_4 hN h0) ⟨rfl, rfl, rfl, rfl, rfl, rfl⟩ (fun _ => rfl) (t_71 hN (h0 := (o_3_4 hN h0))) (fun m9 => ?_)
  refine i_bl (pc' := 97) [(.aload_n 0, 1)] [some (.ref a0), some (.int x1), some (.int x2), some (.int x3), some (.ref a4), (ev_kl o5), some (.int s0)] [.ref a0] (by decide +kernel) rfl ?_
  refine i_gr (idx := 35) (ci := 3) (k := 4) (t := 2) (p := 11185) (pc' := 100) (by decide +kernel) h0 ?_
  refine i_bl (pc' := 102) [(.iconst 4, 1), (.iload_n 3, 1)] [some (.ref a0), some (.int x1), some (.int x2), some (.int x3), some (.ref a4), (ev_kl o5), some (.int s0)] [.int x3, .int 4, .ref (sh_r a0 4)] (by decide +kernel) rfl ?_
  refine i_cv (ci := 5) (t := 71) (na := 3) (ml := 4) (idx := 210) (pc' := 105) (st' := []) (en := [some (.ref (sh_r a0 4)), some (.int 4), some (.int x3), none]) (av := [.int 4, .int x3]) (vo := fun _ => none) (mo := fun m => m) (s2 := fun _ => []) (by decide +kernel) (by decide +kernel) (o_3_4 hN h0) ⟨rfl, rfl, rfl, rfl, rfl, rfl⟩ (fun _ => rfl) (t_71 hN (h0 := (o_3_4 hN h0))) (fun m10 => ?_)
  refine i_bl (pc' := 106) [(.aload_n 0, 1)] [some (.ref a0), some (.int x1), some (.int x2), some (.int x3), some (.ref a4), (ev_kl o5), some (.int s0)] [.ref a0] (by decide +kernel) rfl ?_
  refine i_gr (idx := 35) (ci := 3) (k := 4) (t := 2) (p := 11185) (pc' := 109) (by decide +kernel) h0 ?_
  refine i_bl (pc' := 111) [(.iconst 5, 1), (.aload_n 0, 1)] [some (.ref a0), some (.int x1), some (.int x2), some (.int x3), some (.ref a4), (ev_kl o5), some (.int s0)] [.ref a0, .int 5, .ref (sh_r a0 4)] (by decide +kernel) rfl ?_
  refine i_gf (idx := 38) (ci := 3) (k := 5) (t := 0) (p := 11187) (pc' := 114) (by decide +kernel) h0 ?_
  refine i_cv (ci := 5) (t := 71) (na := 3) (ml := 4) (idx := 210) (pc' := 117) (st' := []) (en := [some (.ref (sh_r a0 4)), some (.int 5), some (.int (m10 a0 5)), none]) (av := [.int 5, .int (m10 a0 5)]) (vo := fun _ => none) (mo := fun m => m) (s2 := fun _ => []) (by decide +kernel) (by decide +kernel) (o_3_4 hN h0) ⟨rfl, rfl, rfl, rfl, rfl, rfl⟩ (fun _ => rfl) (t_71 hN (h0 := (o_3_4 hN h0))) (fun m11 => ?_)
  refine i_bl (pc' := 119) [(.iload 6, 2)] [some (.ref a0), some (.int x1), some (.int x2), some (.int x3), some (.ref a4), (ev_kl o5), some (.int s0)] [.int s0] (by decide +kernel) rfl ?_
  refine i_if (c := .ne) (off := 11) (t := 130) (pc' := 122) (p := ¬ s0 = 0) (by decide +kernel) rfl ?_ ?_
  · exact t_62_130 hN (h0 := h0)
  · refine i_bl (pc' := 124) [(.aload_n 0, 1), (.aload_n 0, 1)] [some (.ref a0), some (.int x1), some (.int x2), some (.int x3), some (.ref a4), (ev_kl o5), some (.int s0)] [.ref a0, .ref a0] (by decide +kernel) rfl ?_
    refine i_gf (idx := 42) (ci := 3) (k := 6) (t := 0) (p := 11189) (pc' := 127) (by decide +kernel) h0 ?_
    refine i_cv (ci := 3) (t := 57) (na := 2) (ml := 2) (idx := 120) (pc' := 130) (st' := []) (en := [some (.ref a0), some (.int (m11 a0 6))]) (av := [.int (m11 a0 6)]) (vo := fun _ => none) (mo := fun m => m) (s2 := fun _ => []) (by decide +kernel) (by decide +kernel) h0 ⟨rfl, rfl, rfl, rfl, rfl, rfl⟩ (fun _ => rfl) (t_57 hN (h0 := h0)) (fun m13 => ?_)
    exact t_62_130 hN (h0 := h0)

noncomputable def d_62 (a0 : Nat) (x1 : Int32) (x2 : Int32) (x3 : Int32) (m : Mm) : Option Mm := (d_51 a0 (m a0 6)).bind fun v1 => (d_17 (sh_r v1 0) x2 m).bind fun v3 => if ¬ v3 = (-1) then (d_62_36 a0 x1 x2 x3 v1 (v3 - v3 / 6 * 6) m) else (d_62_36 a0 x1 x2 x3 v1 (-1) m)
theorem t_62 {L nx : Nat} (hN : okn nx) {b z : Nat} {m : Mm} {a0 : Nat} (h0 : ok nx a0 3) {x1 : Int32} {x2 : Int32} {x3 : Int32}  : Im (d_62 a0 x1 x2 x3 m) (wV L nx) (ev_dn b z 62 0 [some (.ref a0), some (.int x1), some (.int x2), some (.int x3), none, none, none] [] (nx, mem L nx m)) := by
  unfold d_62
  refine i_bl (pc' := 2) [(.aload_n 0, 1), (.aload_n 0, 1)] [some (.ref a0), some (.int x1), some (.int x2), some (.int x3), none, none, none] [.ref a0, .ref a0] (by decide +kernel) rfl ?_
  refine i_gf (idx := 42) (ci := 3) (k := 6) (t := 0) (p := 11189) (pc' := 5) (by decide +kernel) h0 ?_
  refine i_cA (cr := 0) (ci := 3) (t := 51) (na := 2) (ml := 2) (idx := 99) (pc' := 8) (st' := []) (en := [some (.ref a0), some (.int (m a0 6))]) (av := [.int (m a0 6)]) (s2 := fun v => .ref v :: []) (by decide +kernel) (by decide +kernel) h0 ⟨rfl, rfl, rfl, rfl, rfl, rfl⟩ (fun _ => rfl) (t_51 hN (h0 := h0)) (fun v1 hr2 => ?_)
  refine i_bl (pc' := 12) [(.astore 4, 2), (.aload 4, 2)] [some (.ref a0), some (.int x1), some (.int x2), some (.int x3), some (.ref v1), none, none] [.ref v1] (by decide +kernel) rfl ?_
  refine i_gr (idx := 83) (ci := 0) (k := 0) (t := 2) (p := 11114) (pc' := 15) (by decide +kernel) hr2 ?_
  refine i_bl (pc' := 16) [(.iload_n 2, 1)] [some (.ref a0), some (.int x1), some (.int x2), some (.int x3), some (.ref v1), none, none] [.int x2, .ref (sh_r v1 0)] (by decide +kernel) rfl ?_
  refine i_cv (ci := 1) (t := 17) (na := 2) (ml := 2) (idx := 219) (pc' := 19) (st' := []) (en := [some (.ref (sh_r v1 0)), some (.int x2)]) (av := [.int x2]) (vo := fun v => some (.int v)) (mo := fun _ => m) (s2 := fun v => .int v :: []) (by decide +kernel) (by decide +kernel) (o_0_0 hN hr2) ⟨rfl, rfl, rfl, rfl, rfl, rfl⟩ (fun _ => rfl) (t_17 hN (h0 := (o_0_0 hN hr2))) (fun v3 => ?_)
  refine i_bl (pc' := 24) [(.istore 5, 2), (.iload 5, 2), (.iconst (-1), 1)] [some (.ref a0), some (.int x1), some (.int x2), some (.int x3), some (.ref v1), some (.int v3), none] [.int (-1), .int v3] (by decide +kernel) rfl ?_
  refine i_ic (c := .ne) (off := 7) (t := 31) (pc' := 27) (p := ¬ v3 = (-1)) (by decide +kernel) rfl ?_ ?_
  · refine i_bl (pc' := 35) [(.iload 5, 2), (.bipush (6), 2)] [some (.ref a0), some (.int x1), some (.int x2), some (.int x3), some (.ref v1), some (.int v3), none] [.int 6, .int v3] (by decide +kernel) rfl ?_
    refine i_rem0 (pc' := 36) (by decide +kernel) (by decide) ?_
    exact t_62_36 hN (h0 := h0) (h4 := hr2)
  · refine i_bl (pc' := 28) [(.iconst (-1), 1)] [some (.ref a0), some (.int x1), some (.int x2), some (.int x3), some (.ref v1), some (.int v3), none] [.int (-1)] (by decide +kernel) rfl ?_
    refine i_go (t := 36) (off := 8) (by decide +kernel) ?_
    exact t_62_36 hN (h0 := h0) (h4 := hr2)

/-! 60 LanternChess$Game.tell(LLanternChess$Sending;II)I -/
noncomputable def E_60_15 (L nx b z : Nat) (a0 : Nat) (a1 : Nat) (x2 : Int32) (x3 : Int32) (d : Option Value × Option Value) (s : (Int32 × Mm)) : ev_Q := ev_dn b z 60 15 [some (.ref a0), some (.ref a1), some (.int x2), some (.int x3), some (.int s.1), d.1, d.2] [] (nx, mem L nx s.2)
noncomputable def d_60_117 (a0 : Nat) (x2 : Int32) (x3 : Int32) (x4 : Int32) (m : Mm) : Option (Int32 × Mm) := (d_62 a0 x2 x3 x4 m).bind fun m13 => some (x4, m13)
theorem t_60_117 {L nx : Nat} (hN : okn nx) {b z : Nat} {m : Mm} {a0 : Nat} (h0 : ok nx a0 3) {x2 : Int32} {x3 : Int32} {x4 : Int32} {o1 : Option Value} {o5 : Option Value} {o6 : Option Value} : Im (d_60_117 a0 x2 x3 x4 m) (wI L nx) (ev_dn b z 60 117 [some (.ref a0), o1, some (.int x2), some (.int x3), some (.int x4), o5, o6] [] (nx, mem L nx m)) := by
  unfold d_60_117
  refine i_bl (pc' := 122) [(.aload_n 0, 1), (.iload_n 2, 1), (.iload_n 3, 1), (.iload 4, 2)] [some (.ref a0), o1, some (.int x2), some (.int x3), some (.int x4), o5, o6] [.int x4, .int x3, .int x2, .ref a0] (by decide +kernel) rfl ?_
  refine i_cv (ci := 3) (t := 62) (na := 4) (ml := 7) (idx := 204) (pc' := 125) (st' := []) (en := [some (.ref a0), some (.int x2), some (.int x3), some (.int x4), none, none, none]) (av := [.int x2, .int x3, .int x4]) (vo := fun _ => none) (mo := fun m => m) (s2 := fun _ => []) (by decide +kernel) (by decide +kernel) h0 ⟨rfl, rfl, rfl, rfl, rfl, rfl⟩ (fun _ => rfl) (t_62 hN (h0 := h0)) (fun m13 => ?_)
  refine i_bl (pc' := 127) [(.iload 4, 2)] [some (.ref a0), o1, some (.int x2), some (.int x3), some (.int x4), o5, o6] [.int x4] (by decide +kernel) rfl ?_
  exact i_ri (by decide +kernel) rfl

noncomputable def d_60_38 (a0 : Nat) (a1 : Nat) (x2 : Int32) (x3 : Int32) (x4 : Int32) (s0 : Int32) (m : Mm) : Option ((Int32 × Mm) ⊕ (Int32 × Mm)) := wb ((m a0 5) + s0) fun y2 => (d_59 a0 a1 x2 x3 y2 m).bind fun m3 => (d_58 a0 (s0 + (m3 a1 7)) m3).bind fun r4 => if r4.1 = true then ((d_61 a0 a1 y2 r4.2).bind fun m5 => (d_51 a0 (1 - (m5 a0 6))).bind fun v6 => (d_90 a1 m5).bind fun v8 => (d_91 a1 m5).bind fun v9 => (d_8 v6 (m5 a1 3) (m5 a0 6) v8 v9 m5).bind fun m10 => zb (m10 a1 6) fun B11 => if B11 = true then ((d_60_117 a0 x2 x3 x4 m10).map Sum.inr) else (wb (x4 + 1) fun y12 => some (.inl (y12, m10)))) else (some (.inr ((-1), r4.2)))
theorem t_60_38 {L nx : Nat} (hN : okn nx) {b z : Nat} {m : Mm} {a0 : Nat} (h0 : ok nx a0 3) {a1 : Nat} (h1 : ok nx a1 7) {x2 : Int32} {x3 : Int32} {x4 : Int32} {s0 : Int32} {o5 : Option Value} {o6 : Option Value} : Im (d_60_38 a0 a1 x2 x3 x4 s0 m) (kL (wI L nx) (E_60_15 L nx b z a0 a1 x2 x3)) (ev_dn b z 60 38 [some (.ref a0), some (.ref a1), some (.int x2), some (.int x3), some (.int x4), o5, o6] [.int s0] (nx, mem L nx m)) := by
  unfold d_60_38
  refine i_bl (pc' := 41) [(.istore 5, 2), (.aload_n 0, 1)] [some (.ref a0), some (.ref a1), some (.int x2), some (.int x3), some (.int x4), some (.int s0), o6] [.ref a0] (by decide +kernel) rfl ?_
  refine i_gf (idx := 38) (ci := 3) (k := 5) (t := 0) (p := 11187) (pc' := 44) (by decide +kernel) h0 ?_
  refine i_bl (pc' := 49) [(.iload 5, 2), (.iadd, 1), (.istore 6, 2)] [some (.ref a0), some (.ref a1), some (.int x2), some (.int x3), some (.int x4), some (.int s0), some (.int ((m a0 5) + s0))] [] (by decide +kernel) rfl ?_
  refine i_wb (fun y2 => ev_dn b z 60 49 [some (.ref a0), some (.ref a1), some (.int x2), some (.int x3), some (.int x4), some (.int s0), some (.int y2)] [] (nx, mem L nx m)) (fun y2 => ?_)
  refine i_bl (pc' := 55) [(.aload_n 0, 1), (.aload_n 1, 1), (.iload_n 2, 1), (.iload_n 3, 1), (.iload 6, 2)] [some (.ref a0), some (.ref a1), some (.int x2), some (.int x3), some (.int x4), some (.int s0), some (.int y2)] [.int y2, .int x3, .int x2, .ref a1, .ref a0] (by decide +kernel) rfl ?_
  refine i_cv (ci := 3) (t := 59) (na := 5) (ml := 8) (idx := 188) (pc' := 58) (st' := []) (en := [some (.ref a0), some (.ref a1), some (.int x2), some (.int x3), some (.int y2), none, none, none]) (av := [.ref a1, .int x2, .int x3, .int y2]) (vo := fun _ => none) (mo := fun m => m) (s2 := fun _ => []) (by decide +kernel) (by decide +kernel) h0 ⟨rfl, rfl, rfl, rfl, rfl, rfl⟩ (fun _ => rfl) (t_59 hN (h0 := h0) (h1 := h1)) (fun m3 => ?_)
  refine i_bl (pc' := 62) [(.aload_n 0, 1), (.iload 5, 2), (.aload_n 1, 1)] [some (.ref a0), some (.ref a1), some (.int x2), some (.int x3), some (.int x4), some (.int s0), some (.int y2)] [.ref a1, .int s0, .ref a0] (by decide +kernel) rfl ?_
  refine i_gf (idx := 181) (ci := 7) (k := 7) (t := 0) (p := 12033) (pc' := 65) (by decide +kernel) h1 ?_
  refine i_bl (pc' := 66) [(.iadd, 1)] [some (.ref a0), some (.ref a1), some (.int x2), some (.int x3), some (.int x4), some (.int s0), some (.int y2)] [.int (s0 + (m3 a1 7)), .ref a0] (by decide +kernel) rfl ?_
  refine i_cv (ci := 3) (t := 58) (na := 2) (ml := 4) (idx := 192) (pc' := 69) (st' := []) (en := [some (.ref a0), some (.int (s0 + (m3 a1 7))), none, none]) (av := [.int (s0 + (m3 a1 7))]) (vo := fun v => some (.int (bi v.1))) (mo := fun v => v.2) (s2 := fun v => .int (bi v.1) :: []) (by decide +kernel) (by decide +kernel) h0 ⟨rfl, rfl, rfl, rfl, rfl, rfl⟩ (fun _ => rfl) (t_58 hN (h0 := h0)) (fun r4 => ?_)
  refine i_bn (off := 5) (t := 74) (pc' := 72) (by decide +kernel) ?_ ?_
  · refine i_bl (pc' := 78) [(.aload_n 0, 1), (.aload_n 1, 1), (.iload 6, 2)] [some (.ref a0), some (.ref a1), some (.int x2), some (.int x3), some (.int x4), some (.int s0), some (.int y2)] [.int y2, .ref a1, .ref a0] (by decide +kernel) rfl ?_
    refine i_cv (ci := 3) (t := 61) (na := 3) (ml := 3) (idx := 196) (pc' := 81) (st' := []) (en := [some (.ref a0), some (.ref a1), some (.int y2)]) (av := [.ref a1, .int y2]) (vo := fun _ => none) (mo := fun m => m) (s2 := fun _ => []) (by decide +kernel) (by decide +kernel) h0 ⟨rfl, rfl, rfl, rfl, rfl, rfl⟩ (fun _ => rfl) (t_61 hN (h0 := h0) (h1 := h1)) (fun m5 => ?_)
    refine i_bl (pc' := 84) [(.aload_n 0, 1), (.iconst 1, 1), (.aload_n 0, 1)] [some (.ref a0), some (.ref a1), some (.int x2), some (.int x3), some (.int x4), some (.int s0), some (.int y2)] [.ref a0, .int 1, .ref a0] (by decide +kernel) rfl ?_
    refine i_gf (idx := 42) (ci := 3) (k := 6) (t := 0) (p := 11189) (pc' := 87) (by decide +kernel) h0 ?_
    refine i_bl (pc' := 88) [(.isub, 1)] [some (.ref a0), some (.ref a1), some (.int x2), some (.int x3), some (.int x4), some (.int s0), some (.int y2)] [.int (1 - (m5 a0 6)), .ref a0] (by decide +kernel) rfl ?_
    refine i_cA (cr := 0) (ci := 3) (t := 51) (na := 2) (ml := 2) (idx := 99) (pc' := 91) (st' := []) (en := [some (.ref a0), some (.int (1 - (m5 a0 6)))]) (av := [.int (1 - (m5 a0 6))]) (s2 := fun v => .ref v :: []) (by decide +kernel) (by decide +kernel) h0 ⟨rfl, rfl, rfl, rfl, rfl, rfl⟩ (fun _ => rfl) (t_51 hN (h0 := h0)) (fun v6 hr7 => ?_)
    refine i_bl (pc' := 92) [(.aload_n 1, 1)] [some (.ref a0), some (.ref a1), some (.int x2), some (.int x3), some (.int x4), some (.int s0), some (.int y2)] [.ref a1, .ref v6] (by decide +kernel) rfl ?_
    refine i_gf (idx := 138) (ci := 7) (k := 3) (t := 0) (p := 12023) (pc' := 95) (by decide +kernel) h1 ?_
    refine i_bl (pc' := 96) [(.aload_n 0, 1)] [some (.ref a0), some (.ref a1), some (.int x2), some (.int x3), some (.int x4), some (.int s0), some (.int y2)] [.ref a0, .int (m5 a1 3), .ref v6] (by decide +kernel) rfl ?_
    refine i_gf (idx := 42) (ci := 3) (k := 6) (t := 0) (p := 11189) (pc' := 99) (by decide +kernel) h0 ?_
    refine i_bl (pc' := 100) [(.aload_n 1, 1)] [some (.ref a0), some (.ref a1), some (.int x2), some (.int x3), some (.int x4), some (.int s0), some (.int y2)] [.ref a1, .int (m5 a0 6), .int (m5 a1 3), .ref v6] (by decide +kernel) rfl ?_
    refine i_cv (ci := 7) (t := 90) (na := 1) (ml := 1) (idx := 148) (pc' := 103) (st' := [.int (m5 a0 6), .int (m5 a1 3), .ref v6]) (en := [some (.ref a1)]) (av := []) (vo := fun v => some (.int v)) (mo := fun _ => m5) (s2 := fun v => .int v :: [.int (m5 a0 6), .int (m5 a1 3), .ref v6]) (by decide +kernel) (by decide +kernel) h1 ⟨rfl, rfl, rfl, rfl, rfl, rfl⟩ (fun _ => rfl) (t_90 hN (h0 := h1)) (fun v8 => ?_)
    refine i_bl (pc' := 104) [(.aload_n 1, 1)] [some (.ref a0), some (.ref a1), some (.int x2), some (.int x3), some (.int x4), some (.int s0), some (.int y2)] [.ref a1, .int v8, .int (m5 a0 6), .int (m5 a1 3), .ref v6] (by decide +kernel) rfl ?_
    refine i_cv (ci := 7) (t := 91) (na := 1) (ml := 1) (idx := 151) (pc' := 107) (st' := [.int v8, .int (m5 a0 6), .int (m5 a1 3), .ref v6]) (en := [some (.ref a1)]) (av := []) (vo := fun v => some (.int v)) (mo := fun _ => m5) (s2 := fun v => .int v :: [.int v8, .int (m5 a0 6), .int (m5 a1 3), .ref v6]) (by decide +kernel) (by decide +kernel) h1 ⟨rfl, rfl, rfl, rfl, rfl, rfl⟩ (fun _ => rfl) (t_91 hN (h0 := h1)) (fun v9 => ?_)
    refine i_cv (ci := 0) (t := 8) (na := 5) (ml := 5) (idx := 200) (pc' := 110) (st' := []) (en := [some (.ref v6), some (.int (m5 a1 3)), some (.int (m5 a0 6)), some (.int v8), some (.int v9)]) (av := [.int (m5 a1 3), .int (m5 a0 6), .int v8, .int v9]) (vo := fun _ => none) (mo := fun m => m) (s2 := fun _ => []) (by decide +kernel) (by decide +kernel) hr7 ⟨rfl, rfl, rfl, rfl, rfl, rfl⟩ (fun _ => rfl) (t_8 hN (h0 := hr7)) (fun m10 => ?_)
    refine i_bl (pc' := 111) [(.aload_n 1, 1)] [some (.ref a0), some (.ref a1), some (.int x2), some (.int x3), some (.int x4), some (.int s0), some (.int y2)] [.ref a1] (by decide +kernel) rfl ?_
    refine i_gz (idx := 177) (ci := 7) (k := 6) (t := 1) (p := 12030) (pc' := 114) (by decide +kernel) h1 (fun B11 => ?_)
    refine i_bz (off := 14) (t := 128) (pc' := 117) (by decide +kernel) ?_ ?_
    · exact i_mr (t_60_117 hN (h0 := h0))
    · refine i_bl (pc' := 131) [(.iinc 4 (1), 3)] [some (.ref a0), some (.ref a1), some (.int x2), some (.int x3), some (.int (x4 + 1)), some (.int s0), some (.int y2)] [] (by decide +kernel) rfl ?_
      refine i_wb (fun y12 => ev_dn b z 60 131 [some (.ref a0), some (.ref a1), some (.int x2), some (.int x3), some (.int y12), some (.int s0), some (.int y2)] [] (nx, mem L nx m10)) (fun y12 => ?_)
      refine i_go (t := 15) (off := -116) (by decide +kernel) ?_
      exact i_co (some (.int s0), some (.int y2)) rfl
  · refine i_bl (pc' := 73) [(.iconst (-1), 1)] [some (.ref a0), some (.ref a1), some (.int x2), some (.int x3), some (.int x4), some (.int s0), some (.int y2)] [.int (-1)] (by decide +kernel) rfl ?_
    exact i_ir (i_ri (by decide +kernel) rfl)

noncomputable def s_60_15 (a0 : Nat) (a1 : Nat) (x2 : Int32) (x3 : Int32) (x4 : Int32) (m : Mm) : Option ((Int32 × Mm) ⊕ (Int32 × Mm)) := if (m a0 10) < x4 then (some (.inr (0, m))) else (if ¬ x4 = 1 then (d_60_38 a0 a1 x2 x3 x4 (m a0 9) m) else (d_60_38 a0 a1 x2 x3 x4 0 m))
noncomputable def d_60_15 (a0 : Nat) (a1 : Nat) (x2 : Int32) (x3 : Int32) (x4 : Int32) (m : Mm) : Option (Int32 × Mm) := it (fun s => s_60_15 a0 a1 x2 x3 s.1 s.2) (x4, m)
theorem e_60_15 (a0 : Nat) (a1 : Nat) (x2 : Int32) (x3 : Int32) (x4 : Int32) (m : Mm) : d_60_15 a0 a1 x2 x3 x4 m = oi (s_60_15 a0 a1 x2 x3 x4 m) (fun s => d_60_15 a0 a1 x2 x3 s.1 s.2) := it_eq _
theorem u_60_15 {L nx : Nat} (hN : okn nx) {b z : Nat} {m : Mm} {a0 : Nat} (h0 : ok nx a0 3) {a1 : Nat} (h1 : ok nx a1 7) {x2 : Int32} {x3 : Int32} {x4 : Int32} {o5 : Option Value} {o6 : Option Value} : Im (s_60_15 a0 a1 x2 x3 x4 m) (kL (wI L nx) (E_60_15 L nx b z a0 a1 x2 x3)) (ev_dn b z 60 15 [some (.ref a0), some (.ref a1), some (.int x2), some (.int x3), some (.int x4), o5, o6] [] (nx, mem L nx m)) := by
  unfold s_60_15
  refine i_bl (pc' := 18) [(.iload 4, 2), (.aload_n 0, 1)] [some (.ref a0), some (.ref a1), some (.int x2), some (.int x3), some (.int x4), o5, o6] [.ref a0, .int x4] (by decide +kernel) rfl ?_
  refine i_gf (idx := 54) (ci := 3) (k := 10) (t := 0) (p := 11199) (pc' := 21) (by decide +kernel) h0 ?_
  refine i_ic (c := .gt) (off := 113) (t := 134) (pc' := 24) (p := (m a0 10) < x4) (by decide +kernel) rfl ?_ ?_
  · refine i_bl (pc' := 135) [(.iconst 0, 1)] [some (.ref a0), some (.ref a1), some (.int x2), some (.int x3), some (.int x4), o5, o6] [.int 0] (by decide +kernel) rfl ?_
    exact i_ir (i_ri (by decide +kernel) rfl)
  · refine i_bl (pc' := 27) [(.iload 4, 2), (.iconst 1, 1)] [some (.ref a0), some (.ref a1), some (.int x2), some (.int x3), some (.int x4), o5, o6] [.int 1, .int x4] (by decide +kernel) rfl ?_
    refine i_ic (c := .ne) (off := 7) (t := 34) (pc' := 30) (p := ¬ x4 = 1) (by decide +kernel) rfl ?_ ?_
    · refine i_bl (pc' := 35) [(.aload_n 0, 1)] [some (.ref a0), some (.ref a1), some (.int x2), some (.int x3), some (.int x4), o5, o6] [.ref a0] (by decide +kernel) rfl ?_
      refine i_gf (idx := 51) (ci := 3) (k := 9) (t := 0) (p := 11196) (pc' := 38) (by decide +kernel) h0 ?_
      exact t_60_38 hN (h0 := h0) (h1 := h1)
    · refine i_bl (pc' := 31) [(.iconst 0, 1)] [some (.ref a0), some (.ref a1), some (.int x2), some (.int x3), some (.int x4), o5, o6] [.int 0] (by decide +kernel) rfl ?_
      refine i_go (t := 38) (off := 7) (by decide +kernel) ?_
      exact t_60_38 hN (h0 := h0) (h1 := h1)

theorem t_60_15 {L nx : Nat} (hN : okn nx) {b z : Nat} {m : Mm} {a0 : Nat} (h0 : ok nx a0 3) {a1 : Nat} (h1 : ok nx a1 7) {x2 : Int32} {x3 : Int32} {x4 : Int32} {o5 : Option Value} {o6 : Option Value} : Im (d_60_15 a0 a1 x2 x3 x4 m) (wI L nx) (ev_dn b z 60 15 [some (.ref a0), some (.ref a1), some (.int x2), some (.int x3), some (.int x4), o5, o6] [] (nx, mem L nx m)) := by
  exact i_it (f := fun s => s_60_15 a0 a1 x2 x3 s.1 s.2) (E := E_60_15 L nx b z a0 a1 x2 x3) (K := (wI L nx)) (fun d s => u_60_15 hN (h0 := h0) (h1 := h1)) (o5, o6) (x4, m)
noncomputable def d_60 (a0 : Nat) (a1 : Nat) (x2 : Int32) (x3 : Int32) (m : Mm) : Option (Int32 × Mm) := (d_56 a0 x2 x3 m).bind fun v1 => if v1 = true then (d_60_15 a0 a1 x2 x3 1 m) else (some ((-2), m))
theorem t_60 {L nx : Nat} (hN : okn nx) {b z : Nat} {m : Mm} {a0 : Nat} (h0 : ok nx a0 3) {a1 : Nat} (h1 : ok nx a1 7) {x2 : Int32} {x3 : Int32}  : Im (d_60 a0 a1 x2 x3 m) (wI L nx) (ev_dn b z 60 0 [some (.ref a0), some (.ref a1), some (.int x2), some (.int x3), none, none, none] [] (nx, mem L nx m)) := by
  unfold d_60
  refine i_bl (pc' := 3) [(.aload_n 0, 1), (.iload_n 2, 1), (.iload_n 3, 1)] [some (.ref a0), some (.ref a1), some (.int x2), some (.int x3), none, none, none] [.int x3, .int x2, .ref a0] (by decide +kernel) rfl ?_
  refine i_cv (ci := 3) (t := 56) (na := 3) (ml := 3) (idx := 184) (pc' := 6) (st' := []) (en := [some (.ref a0), some (.int x2), some (.int x3)]) (av := [.int x2, .int x3]) (vo := fun v => some (.int (bi v))) (mo := fun _ => m) (s2 := fun v => .int (bi v) :: []) (by decide +kernel) (by decide +kernel) h0 ⟨rfl, rfl, rfl, rfl, rfl, rfl⟩ (fun _ => rfl) (t_56 hN (h0 := h0)) (fun v1 => ?_)
  refine i_bn (off := 6) (t := 12) (pc' := 9) (by decide +kernel) ?_ ?_
  · refine i_bl (pc' := 15) [(.iconst 1, 1), (.istore 4, 2)] [some (.ref a0), some (.ref a1), some (.int x2), some (.int x3), some (.int 1), none, none] [] (by decide +kernel) rfl ?_
    exact t_60_15 hN (h0 := h0) (h1 := h1)
  · refine i_bl (pc' := 11) [(.bipush (-2), 2)] [some (.ref a0), some (.ref a1), some (.int x2), some (.int x3), none, none, none] [.int (-2)] (by decide +kernel) rfl ?_
    exact i_ri (by decide +kernel) rfl

/-! 64 LanternChess$History.forget()V -/
noncomputable def d_64 (a0 : Nat) (m : Mm) : Option Mm := wb (wr m a0 2 0) fun m1 => some m1
theorem t_64 {L nx : Nat} (hN : okn nx) {b z : Nat} {m : Mm} {a0 : Nat} (h0 : ok nx a0 4)   : Im (d_64 a0 m) (wV L nx) (ev_dn b z 64 0 [some (.ref a0)] [] (nx, mem L nx m)) := by
  unfold d_64
  refine i_bl (pc' := 2) [(.aload_n 0, 1), (.iconst 0, 1)] [some (.ref a0)] [.int 0, .ref a0] (by decide +kernel) rfl ?_
  refine i_pf (x := 0) (idx := 21) (ci := 4) (k := 2) (p := 12002) (pc' := 5) (by decide +kernel) h0 (fun m1 => ?_)
  exact i_rv (by decide +kernel) rfl

/-! 65 LanternChess$History.keep(LLanternChess$Game;)V -/
noncomputable def d_65_22 (a0 : Nat) (m : Mm) : Option Mm := wb (wr m a0 1 (((m a0 1) + 1) &&& (7 : Int32))) fun m3 => wb (wr m3 a0 2 (jmin ((m3 a0 2) + 1) 8)) fun m4 => some m4
theorem t_65_22 {L nx : Nat} (hN : okn nx) {b z : Nat} {m : Mm} {a0 : Nat} (h0 : ok nx a0 4)  {o1 : Option Value} {o2 : Option Value} : Im (d_65_22 a0 m) (wV L nx) (ev_dn b z 65 22 [some (.ref a0), o1, o2] [] (nx, mem L nx m)) := by
  unfold d_65_22
  refine i_bl (pc' := 24) [(.aload_n 0, 1), (.aload_n 0, 1)] [some (.ref a0), o1, o2] [.ref a0, .ref a0] (by decide +kernel) rfl ?_
  refine i_gf (idx := 17) (ci := 4) (k := 1) (t := 0) (p := 12001) (pc' := 27) (by decide +kernel) h0 ?_
  refine i_bl (pc' := 32) [(.iconst 1, 1), (.iadd, 1), (.bipush (7), 2), (.iand, 1)] [some (.ref a0), o1, o2] [.int (((m a0 1) + 1) &&& (7 : Int32)), .ref a0] (by decide +kernel) rfl ?_
  refine i_pf (x := (((m a0 1) + 1) &&& (7 : Int32))) (idx := 17) (ci := 4) (k := 1) (p := 12001) (pc' := 35) (by decide +kernel) h0 (fun m3 => ?_)
  refine i_bl (pc' := 37) [(.aload_n 0, 1), (.aload_n 0, 1)] [some (.ref a0), o1, o2] [.ref a0, .ref a0] (by decide +kernel) rfl ?_
  refine i_gf (idx := 21) (ci := 4) (k := 2) (t := 0) (p := 12002) (pc' := 40) (by decide +kernel) h0 ?_
  refine i_bl (pc' := 44) [(.iconst 1, 1), (.iadd, 1), (.bipush (8), 2)] [some (.ref a0), o1, o2] [.int 8, .int ((m3 a0 2) + 1), .ref a0] (by decide +kernel) rfl ?_
  refine i_min (x := ((m3 a0 2) + 1)) (y := 8) (idx := 29) (pc' := 47) (by decide +kernel) rfl ?_
  refine i_pf (x := (jmin ((m3 a0 2) + 1) 8)) (idx := 21) (ci := 4) (k := 2) (p := 12002) (pc' := 50) (by decide +kernel) h0 (fun m4 => ?_)
  exact i_rv (by decide +kernel) rfl

noncomputable def d_65 (a0 : Nat) (a1 : Nat) (m : Mm) : Option Mm := if ev_in ((m a0 1) &&& (7 : Int32)) (sh_n (sh_r a0 0)) = true then ((d_49 (sh_r (sh_r a0 0) (ix ((m a0 1) &&& (7 : Int32)))) a1 m).bind fun m2 => d_65_22 a0 m2) else none
theorem t_65 {L nx : Nat} (hN : okn nx) {b z : Nat} {m : Mm} {a0 : Nat} (h0 : ok nx a0 4) {a1 : Nat} (h1 : ok nx a1 3)   : Im (d_65 a0 a1 m) (wV L nx) (ev_dn b z 65 0 [some (.ref a0), some (.ref a1), none] [] (nx, mem L nx m)) := by
  unfold d_65
  refine i_bl (pc' := 1) [(.aload_n 0, 1)] [some (.ref a0), some (.ref a1), none] [.ref a0] (by decide +kernel) rfl ?_
  refine i_gr (idx := 11) (ci := 4) (k := 0) (t := 2) (p := 12000) (pc' := 4) (by decide +kernel) h0 ?_
  refine i_bl (pc' := 5) [(.aload_n 0, 1)] [some (.ref a0), some (.ref a1), none] [.ref a0, .ref (sh_r a0 0)] (by decide +kernel) rfl ?_
  refine i_gf (idx := 17) (ci := 4) (k := 1) (t := 0) (p := 12001) (pc' := 8) (by decide +kernel) h0 ?_
  refine i_bl (pc' := 11) [(.bipush (7), 2), (.iand, 1)] [some (.ref a0), some (.ref a1), none] [.int ((m a0 1) &&& (7 : Int32)), .ref (sh_r a0 0)] (by decide +kernel) rfl ?_
  refine i_rl (pc' := 12) (by decide +kernel) (o_4_0 hN h0) (fun hi1 => ?_)
  refine i_bl (pc' := 14) [(.astore_n 2, 1), (.aload_n 2, 1)] [some (.ref a0), some (.ref a1), some (.ref (sh_r (sh_r a0 0) (ix ((m a0 1) &&& (7 : Int32)))))] [.ref (sh_r (sh_r a0 0) (ix ((m a0 1) &&& (7 : Int32))))] (by decide +kernel) rfl ?_
  refine i_nn (off := 8) (pc' := 17) (by decide +kernel) ?_
  refine i_bl (pc' := 19) [(.aload_n 2, 1), (.aload_n 1, 1)] [some (.ref a0), some (.ref a1), some (.ref (sh_r (sh_r a0 0) (ix ((m a0 1) &&& (7 : Int32)))))] [.ref a1, .ref (sh_r (sh_r a0 0) (ix ((m a0 1) &&& (7 : Int32))))] (by decide +kernel) rfl ?_
  refine i_cv (ci := 3) (t := 49) (na := 2) (ml := 2) (idx := 25) (pc' := 22) (st' := []) (en := [some (.ref (sh_r (sh_r a0 0) (ix ((m a0 1) &&& (7 : Int32))))), some (.ref a1)]) (av := [.ref a1]) (vo := fun _ => none) (mo := fun m => m) (s2 := fun _ => []) (by decide +kernel) (by decide +kernel) (o_ge hN (o_4_0 hN h0) hi1) ⟨rfl, rfl, rfl, rfl, rfl, rfl⟩ (fun _ => rfl) (t_49 hN (h0 := (o_ge hN (o_4_0 hN h0) hi1)) (h1 := h1)) (fun m2 => ?_)
  exact t_65_22 hN (h0 := h0)

/-! 66 LanternChess$History.takeBack(LLanternChess$Game;)V -/
noncomputable def d_66 (a0 : Nat) (a1 : Nat) (m : Mm) : Option Mm := wb (wr m a0 1 (((m a0 1) - 1) &&& (7 : Int32))) fun m1 => wb (wr m1 a0 2 ((m1 a0 2) - 1)) fun m2 => if ev_in ((m2 a0 1) &&& (7 : Int32)) (sh_n (sh_r a0 0)) = true then ((d_49 a1 (sh_r (sh_r a0 0) (ix ((m2 a0 1) &&& (7 : Int32)))) m2).bind fun m4 => some m4) else none
theorem t_66 {L nx : Nat} (hN : okn nx) {b z : Nat} {m : Mm} {a0 : Nat} (h0 : ok nx a0 4) {a1 : Nat} (h1 : ok nx a1 3)   : Im (d_66 a0 a1 m) (wV L nx) (ev_dn b z 66 0 [some (.ref a0), some (.ref a1), none] [] (nx, mem L nx m)) := by
  unfold d_66
  refine i_bl (pc' := 2) [(.aload_n 0, 1), (.aload_n 0, 1)] [some (.ref a0), some (.ref a1), none] [.ref a0, .ref a0] (by decide +kernel) rfl ?_
  refine i_gf (idx := 17) (ci := 4) (k := 1) (t := 0) (p := 12001) (pc' := 5) (by decide +kernel) h0 ?_
  refine i_bl (pc' := 10) [(.iconst 1, 1), (.isub, 1), (.bipush (7), 2), (.iand, 1)] [some (.ref a0), some (.ref a1), none] [.int (((m a0 1) - 1) &&& (7 : Int32)), .ref a0] (by decide +kernel) rfl ?_
  refine i_pf (x := (((m a0 1) - 1) &&& (7 : Int32))) (idx := 17) (ci := 4) (k := 1) (p := 12001) (pc' := 13) (by decide +kernel) h0 (fun m1 => ?_)
  refine i_bl (pc' := 15) [(.aload_n 0, 1), (.dup, 1)] [some (.ref a0), some (.ref a1), none] [.ref a0, .ref a0] (by decide +kernel) rfl ?_
  refine i_gf (idx := 21) (ci := 4) (k := 2) (t := 0) (p := 12002) (pc' := 18) (by decide +kernel) h0 ?_
  refine i_bl (pc' := 20) [(.iconst 1, 1), (.isub, 1)] [some (.ref a0), some (.ref a1), none] [.int ((m1 a0 2) - 1), .ref a0] (by decide +kernel) rfl ?_
  refine i_pf (x := ((m1 a0 2) - 1)) (idx := 21) (ci := 4) (k := 2) (p := 12002) (pc' := 23) (by decide +kernel) h0 (fun m2 => ?_)
  refine i_bl (pc' := 24) [(.aload_n 0, 1)] [some (.ref a0), some (.ref a1), none] [.ref a0] (by decide +kernel) rfl ?_
  refine i_gr (idx := 11) (ci := 4) (k := 0) (t := 2) (p := 12000) (pc' := 27) (by decide +kernel) h0 ?_
  refine i_bl (pc' := 28) [(.aload_n 0, 1)] [some (.ref a0), some (.ref a1), none] [.ref a0, .ref (sh_r a0 0)] (by decide +kernel) rfl ?_
  refine i_gf (idx := 17) (ci := 4) (k := 1) (t := 0) (p := 12001) (pc' := 31) (by decide +kernel) h0 ?_
  refine i_bl (pc' := 34) [(.bipush (7), 2), (.iand, 1)] [some (.ref a0), some (.ref a1), none] [.int ((m2 a0 1) &&& (7 : Int32)), .ref (sh_r a0 0)] (by decide +kernel) rfl ?_
  refine i_rl (pc' := 35) (by decide +kernel) (o_4_0 hN h0) (fun hi3 => ?_)
  refine i_bl (pc' := 37) [(.astore_n 2, 1), (.aload_n 2, 1)] [some (.ref a0), some (.ref a1), some (.ref (sh_r (sh_r a0 0) (ix ((m2 a0 1) &&& (7 : Int32)))))] [.ref (sh_r (sh_r a0 0) (ix ((m2 a0 1) &&& (7 : Int32))))] (by decide +kernel) rfl ?_
  refine i_nn (off := 8) (pc' := 40) (by decide +kernel) ?_
  refine i_bl (pc' := 42) [(.aload_n 1, 1), (.aload_n 2, 1)] [some (.ref a0), some (.ref a1), some (.ref (sh_r (sh_r a0 0) (ix ((m2 a0 1) &&& (7 : Int32)))))] [.ref (sh_r (sh_r a0 0) (ix ((m2 a0 1) &&& (7 : Int32)))), .ref a1] (by decide +kernel) rfl ?_
  refine i_cv (ci := 3) (t := 49) (na := 2) (ml := 2) (idx := 25) (pc' := 45) (st' := []) (en := [some (.ref a1), some (.ref (sh_r (sh_r a0 0) (ix ((m2 a0 1) &&& (7 : Int32)))))]) (av := [.ref (sh_r (sh_r a0 0) (ix ((m2 a0 1) &&& (7 : Int32))))]) (vo := fun _ => none) (mo := fun m => m) (s2 := fun _ => []) (by decide +kernel) (by decide +kernel) h1 ⟨rfl, rfl, rfl, rfl, rfl, rfl⟩ (fun _ => rfl) (t_49 hN (h0 := h1) (h1 := (o_ge hN (o_4_0 hN h0) hi3))) (fun m4 => ?_)
  exact i_rv (by decide +kernel) rfl

/-! 72 LanternChess$Log.partOf(II)I -/
noncomputable def d_72 (a0 : Nat) (x1 : Int32) (x2 : Int32) (m : Mm) : Option Int32 := wb ((x1 * 8) + x2) fun y1 => if y1 < 0 then (some (-1)) else (if (Int32.ofNat (sh_n (sh_r a0 0))) ≤ y1 then (some (-1)) else (if ev_in y1 (sh_n (sh_r a0 0)) = true then (some (m (sh_r a0 0) (ix y1))) else none))
theorem t_72 {L nx : Nat} (hN : okn nx) {b z : Nat} {m : Mm} {a0 : Nat} (h0 : ok nx a0 5) {x1 : Int32} {x2 : Int32}  : Im (d_72 a0 x1 x2 m) (kI L nx m) (ev_dn b z 72 0 [some (.ref a0), some (.int x1), some (.int x2), none] [] (nx, mem L nx m)) := by
  unfold d_72
  refine i_bl (pc' := 7) [(.iload_n 1, 1), (.bipush (8), 2), (.imul, 1), (.iload_n 2, 1), (.iadd, 1), (.istore_n 3, 1)] [some (.ref a0), some (.int x1), some (.int x2), some (.int ((x1 * 8) + x2))] [] (by decide +kernel) rfl ?_
  refine i_wb (fun y1 => ev_dn b z 72 7 [some (.ref a0), some (.int x1), some (.int x2), some (.int y1)] [] (nx, mem L nx m)) (fun y1 => ?_)
  refine i_bl (pc' := 8) [(.iload_n 3, 1)] [some (.ref a0), some (.int x1), some (.int x2), some (.int y1)] [.int y1] (by decide +kernel) rfl ?_
  refine i_if (c := .lt) (off := 21) (t := 29) (pc' := 11) (p := y1 < 0) (by decide +kernel) rfl ?_ ?_
  · refine i_bl (pc' := 30) [(.iconst (-1), 1)] [some (.ref a0), some (.int x1), some (.int x2), some (.int y1)] [.int (-1)] (by decide +kernel) rfl ?_
    exact i_ri (by decide +kernel) rfl
  · refine i_bl (pc' := 13) [(.iload_n 3, 1), (.aload_n 0, 1)] [some (.ref a0), some (.int x1), some (.int x2), some (.int y1)] [.ref a0, .int y1] (by decide +kernel) rfl ?_
    refine i_gr (idx := 9) (ci := 5) (k := 0) (t := 2) (p := 11163) (pc' := 16) (by decide +kernel) h0 ?_
    refine i_ln (c := 100) (pc' := 17) (by decide +kernel) (o_5_0 hN h0) ?_
    refine i_ic (c := .ge) (off := 12) (t := 29) (pc' := 20) (p := (Int32.ofNat (sh_n (sh_r a0 0))) ≤ y1) (by decide +kernel) rfl ?_ ?_
    · refine i_bl (pc' := 30) [(.iconst (-1), 1)] [some (.ref a0), some (.int x1), some (.int x2), some (.int y1)] [.int (-1)] (by decide +kernel) rfl ?_
      exact i_ri (by decide +kernel) rfl
    · refine i_bl (pc' := 21) [(.aload_n 0, 1)] [some (.ref a0), some (.int x1), some (.int x2), some (.int y1)] [.ref a0] (by decide +kernel) rfl ?_
      refine i_gr (idx := 9) (ci := 5) (k := 0) (t := 2) (p := 11163) (pc' := 24) (by decide +kernel) h0 ?_
      refine i_bl (pc' := 25) [(.iload_n 3, 1)] [some (.ref a0), some (.int x1), some (.int x2), some (.int y1)] [.int y1, .ref (sh_r a0 0)] (by decide +kernel) rfl ?_
      refine i_al (pc' := 26) (by decide +kernel) (o_5_0 hN h0) ?_
      refine i_go (t := 30) (off := 4) (by decide +kernel) ?_
      exact i_ri (by decide +kernel) rfl

/-! 73 LanternChess$Log.partSum(I)I -/
noncomputable def E_73_4 (L nx b z : Nat) (a0 : Nat) (x1 : Int32) (m : Mm) (d : Unit) (s : (Int32 × Int32)) : ev_Q := ev_dn b z 73 4 [some (.ref a0), some (.int x1), some (.int s.1), some (.int s.2)] [] (nx, mem L nx m)
noncomputable def s_73_4 (a0 : Nat) (x1 : Int32) (m : Mm) (x2 : Int32) (x3 : Int32) : Option ((Int32 × Int32) ⊕ Int32) := if (m a0 1) ≤ x3 then (some (.inr x2)) else ((d_72 a0 x3 x1 m).bind fun v1 => wb (x2 + v1) fun y2 => wb (x3 + 1) fun y3 => some (.inl (y2, y3)))
noncomputable def d_73_4 (a0 : Nat) (x1 : Int32) (m : Mm) (x2 : Int32) (x3 : Int32) : Option Int32 := it (fun s => s_73_4 a0 x1 m s.1 s.2) (x2, x3)
theorem e_73_4 (a0 : Nat) (x1 : Int32) (m : Mm) (x2 : Int32) (x3 : Int32) : d_73_4 a0 x1 m x2 x3 = oi (s_73_4 a0 x1 m x2 x3) (fun s => d_73_4 a0 x1 m s.1 s.2) := it_eq _
theorem u_73_4 {L nx : Nat} (hN : okn nx) {b z : Nat} {m : Mm} {a0 : Nat} (h0 : ok nx a0 5) {x1 : Int32} {x2 : Int32} {x3 : Int32}  : Im (s_73_4 a0 x1 m x2 x3) (kL (kI L nx m) (E_73_4 L nx b z a0 x1 m)) (ev_dn b z 73 4 [some (.ref a0), some (.int x1), some (.int x2), some (.int x3)] [] (nx, mem L nx m)) := by
  unfold s_73_4
  refine i_bl (pc' := 6) [(.iload_n 3, 1), (.aload_n 0, 1)] [some (.ref a0), some (.int x1), some (.int x2), some (.int x3)] [.ref a0, .int x3] (by decide +kernel) rfl ?_
  refine i_gf (idx := 15) (ci := 5) (k := 1) (t := 0) (p := 11164) (pc' := 9) (by decide +kernel) h0 ?_
  refine i_ic (c := .ge) (off := 18) (t := 27) (pc' := 12) (p := (m a0 1) ≤ x3) (by decide +kernel) rfl ?_ ?_
  · refine i_bl (pc' := 28) [(.iload_n 2, 1)] [some (.ref a0), some (.int x1), some (.int x2), some (.int x3)] [.int x2] (by decide +kernel) rfl ?_
    exact i_ir (i_ri (by decide +kernel) rfl)
  · refine i_bl (pc' := 16) [(.iload_n 2, 1), (.aload_n 0, 1), (.iload_n 3, 1), (.iload_n 1, 1)] [some (.ref a0), some (.int x1), some (.int x2), some (.int x3)] [.int x1, .int x3, .ref a0, .int x2] (by decide +kernel) rfl ?_
    refine i_cv (ci := 5) (t := 72) (na := 3) (ml := 4) (idx := 28) (pc' := 19) (st' := [.int x2]) (en := [some (.ref a0), some (.int x3), some (.int x1), none]) (av := [.int x3, .int x1]) (vo := fun v => some (.int v)) (mo := fun _ => m) (s2 := fun v => .int v :: [.int x2]) (by decide +kernel) (by decide +kernel) h0 ⟨rfl, rfl, rfl, rfl, rfl, rfl⟩ (fun _ => rfl) (t_72 hN (h0 := h0)) (fun v1 => ?_)
    refine i_bl (pc' := 21) [(.iadd, 1), (.istore_n 2, 1)] [some (.ref a0), some (.int x1), some (.int (x2 + v1)), some (.int x3)] [] (by decide +kernel) rfl ?_
    refine i_wb (fun y2 => ev_dn b z 73 21 [some (.ref a0), some (.int x1), some (.int y2), some (.int x3)] [] (nx, mem L nx m)) (fun y2 => ?_)
    refine i_bl (pc' := 24) [(.iinc 3 (1), 3)] [some (.ref a0), some (.int x1), some (.int y2), some (.int (x3 + 1))] [] (by decide +kernel) rfl ?_
    refine i_wb (fun y3 => ev_dn b z 73 24 [some (.ref a0), some (.int x1), some (.int y2), some (.int y3)] [] (nx, mem L nx m)) (fun y3 => ?_)
    refine i_go (t := 4) (off := -20) (by decide +kernel) ?_
    exact i_co () rfl

theorem t_73_4 {L nx : Nat} (hN : okn nx) {b z : Nat} {m : Mm} {a0 : Nat} (h0 : ok nx a0 5) {x1 : Int32} {x2 : Int32} {x3 : Int32}  : Im (d_73_4 a0 x1 m x2 x3) (kI L nx m) (ev_dn b z 73 4 [some (.ref a0), some (.int x1), some (.int x2), some (.int x3)] [] (nx, mem L nx m)) := by
  exact i_it (f := fun s => s_73_4 a0 x1 m s.1 s.2) (E := E_73_4 L nx b z a0 x1 m) (K := (kI L nx m)) (fun d s => u_73_4 hN (h0 := h0)) () (x2, x3)
noncomputable def d_73 (a0 : Nat) (x1 : Int32) (m : Mm) : Option Int32 := d_73_4 a0 x1 m 0 0
theorem t_73 {L nx : Nat} (hN : okn nx) {b z : Nat} {m : Mm} {a0 : Nat} (h0 : ok nx a0 5) {x1 : Int32}  : Im (d_73 a0 x1 m) (kI L nx m) (ev_dn b z 73 0 [some (.ref a0), some (.int x1), none, none] [] (nx, mem L nx m)) := by
  unfold d_73
  refine i_bl (pc' := 4) [(.iconst 0, 1), (.istore_n 2, 1), (.iconst 0, 1), (.istore_n 3, 1)] [some (.ref a0), some (.int x1), some (.int 0), some (.int 0)] [] (by decide +kernel) rfl ?_
  exact t_73_4 hN (h0 := h0)

/-! 76 LanternChess$MoveList.fillFrom(LLanternChess$Field;II)V -/
noncomputable def E_76_3 (L nx b z : Nat) (a0 : Nat) (a1 : Nat) (x2 : Int32) (x3 : Int32) (d : Unit) (s : (Int32 × Mm)) : ev_Q := ev_dn b z 76 3 [some (.ref a0), some (.ref a1), some (.int x2), some (.int x3), some (.int s.1)] [] (nx, mem L nx s.2)
noncomputable def s_76_3 (a0 : Nat) (a1 : Nat) (x2 : Int32) (x3 : Int32) (x4 : Int32) (m : Mm) : Option ((Int32 × Mm) ⊕ Mm) := if 64 ≤ x4 then (some (.inr m)) else (if 837 ≤ (m a0 4) then (wb (x4 + 1) fun y1 => some (.inl (y1, m))) else ((d_21 a1 x2 x3 x4 m).bind fun v2 => if v2 = true then (if ev_in (m a0 4) (sh_n (sh_r a0 0)) = true then (wb (wr m (sh_r a0 0) (ix (m a0 4)) x3) fun m4 => if ev_in (m4 a0 4) (sh_n (sh_r a0 1)) = true then (wb (wr m4 (sh_r a0 1) (ix (m4 a0 4)) x4) fun m5 => wb (wr m5 a0 4 ((m5 a0 4) + 1)) fun m6 => wb (x4 + 1) fun y7 => some (.inl (y7, m6))) else none) else none) else (wb (x4 + 1) fun y3 => some (.inl (y3, m)))))
noncomputable def d_76_3 (a0 : Nat) (a1 : Nat) (x2 : Int32) (x3 : Int32) (x4 : Int32) (m : Mm) : Option Mm := it (fun s => s_76_3 a0 a1 x2 x3 s.1 s.2) (x4, m)
theorem e_76_3 (a0 : Nat) (a1 : Nat) (x2 : Int32) (x3 : Int32) (x4 : Int32) (m : Mm) : d_76_3 a0 a1 x2 x3 x4 m = oi (s_76_3 a0 a1 x2 x3 x4 m) (fun s => d_76_3 a0 a1 x2 x3 s.1 s.2) := it_eq _
theorem u_76_3 {L nx : Nat} (hN : okn nx) {b z : Nat} {m : Mm} {a0 : Nat} (h0 : ok nx a0 6) {a1 : Nat} (h1 : ok nx a1 1) {x2 : Int32} {x3 : Int32} {x4 : Int32}  : Im (s_76_3 a0 a1 x2 x3 x4 m) (kL (wV L nx) (E_76_3 L nx b z a0 a1 x2 x3)) (ev_dn b z 76 3 [some (.ref a0), some (.ref a1), some (.int x2), some (.int x3), some (.int x4)] [] (nx, mem L nx m)) := by
  unfold s_76_3
  refine i_bl (pc' := 7) [(.iload 4, 2), (.bipush (64), 2)] [some (.ref a0), some (.ref a1), some (.int x2), some (.int x3), some (.int x4)] [.int 64, .int x4] (by decide +kernel) rfl ?_
  refine i_ic (c := .ge) (off := 61) (t := 68) (pc' := 10) (p := 64 ≤ x4) (by decide +kernel) rfl ?_ ?_
  · exact i_ir (i_rv (by decide +kernel) rfl)
  · refine i_bl (pc' := 11) [(.aload_n 0, 1)] [some (.ref a0), some (.ref a1), some (.int x2), some (.int x3), some (.int x4)] [.ref a0] (by decide +kernel) rfl ?_
    refine i_gf (idx := 28) (ci := 6) (k := 4) (t := 0) (p := 12064) (pc' := 14) (by decide +kernel) h0 ?_
    refine i_bl (pc' := 17) [(.sipush (837), 3)] [some (.ref a0), some (.ref a1), some (.int x2), some (.int x3), some (.int x4)] [.int 837, .int (m a0 4)] (by decide +kernel) rfl ?_
    refine i_ic (c := .ge) (off := 45) (t := 62) (pc' := 20) (p := 837 ≤ (m a0 4)) (by decide +kernel) rfl ?_ ?_
    · refine i_bl (pc' := 65) [(.iinc 4 (1), 3)] [some (.ref a0), some (.ref a1), some (.int x2), some (.int x3), some (.int (x4 + 1))] [] (by decide +kernel) rfl ?_
      refine i_wb (fun y1 => ev_dn b z 76 65 [some (.ref a0), some (.ref a1), some (.int x2), some (.int x3), some (.int y1)] [] (nx, mem L nx m)) (fun y1 => ?_)
      refine i_go (t := 3) (off := -62) (by decide +kernel) ?_
      exact i_co () rfl
    · refine i_bl (pc' := 25) [(.aload_n 1, 1), (.iload_n 2, 1), (.iload_n 3, 1), (.iload 4, 2)] [some (.ref a0), some (.ref a1), some (.int x2), some (.int x3), some (.int x4)] [.int x4, .int x3, .int x2, .ref a1] (by decide +kernel) rfl ?_
      refine i_cv (ci := 1) (t := 21) (na := 4) (ml := 6) (idx := 44) (pc' := 28) (st' := []) (en := [some (.ref a1), some (.int x2), some (.int x3), some (.int x4), none, none]) (av := [.int x2, .int x3, .int x4]) (vo := fun v => some (.int (bi v))) (mo := fun _ => m) (s2 := fun v => .int (bi v) :: []) (by decide +kernel) (by decide +kernel) h1 ⟨rfl, rfl, rfl, rfl, rfl, rfl⟩ (fun _ => rfl) (t_21 hN (h0 := h1)) (fun v2 => ?_)
      refine i_bz (off := 34) (t := 62) (pc' := 31) (by decide +kernel) ?_ ?_
      · refine i_bl (pc' := 32) [(.aload_n 0, 1)] [some (.ref a0), some (.ref a1), some (.int x2), some (.int x3), some (.int x4)] [.ref a0] (by decide +kernel) rfl ?_
        refine i_gr (idx := 9) (ci := 6) (k := 0) (t := 2) (p := 12060) (pc' := 35) (by decide +kernel) h0 ?_
        refine i_bl (pc' := 36) [(.aload_n 0, 1)] [some (.ref a0), some (.ref a1), some (.int x2), some (.int x3), some (.int x4)] [.ref a0, .ref (sh_r a0 0)] (by decide +kernel) rfl ?_
        refine i_gf (idx := 28) (ci := 6) (k := 4) (t := 0) (p := 12064) (pc' := 39) (by decide +kernel) h0 ?_
        refine i_bl (pc' := 40) [(.iload_n 3, 1)] [some (.ref a0), some (.ref a1), some (.int x2), some (.int x3), some (.int x4)] [.int x3, .int (m a0 4), .ref (sh_r a0 0)] (by decide +kernel) rfl ?_
        refine i_as (y := x3) (pc' := 41) (by decide +kernel) (o_6_0 hN h0) (fun m4 => ?_)
        refine i_bl (pc' := 42) [(.aload_n 0, 1)] [some (.ref a0), some (.ref a1), some (.int x2), some (.int x3), some (.int x4)] [.ref a0] (by decide +kernel) rfl ?_
        refine i_gr (idx := 15) (ci := 6) (k := 1) (t := 2) (p := 12061) (pc' := 45) (by decide +kernel) h0 ?_
        refine i_bl (pc' := 46) [(.aload_n 0, 1)] [some (.ref a0), some (.ref a1), some (.int x2), some (.int x3), some (.int x4)] [.ref a0, .ref (sh_r a0 1)] (by decide +kernel) rfl ?_
        refine i_gf (idx := 28) (ci := 6) (k := 4) (t := 0) (p := 12064) (pc' := 49) (by decide +kernel) h0 ?_
        refine i_bl (pc' := 51) [(.iload 4, 2)] [some (.ref a0), some (.ref a1), some (.int x2), some (.int x3), some (.int x4)] [.int x4, .int (m4 a0 4), .ref (sh_r a0 1)] (by decide +kernel) rfl ?_
        refine i_as (y := x4) (pc' := 52) (by decide +kernel) (o_6_1 hN h0) (fun m5 => ?_)
        refine i_bl (pc' := 54) [(.aload_n 0, 1), (.dup, 1)] [some (.ref a0), some (.ref a1), some (.int x2), some (.int x3), some (.int x4)] [.ref a0, .ref a0] (by decide +kernel) rfl ?_
        refine i_gf (idx := 28) (ci := 6) (k := 4) (t := 0) (p := 12064) (pc' := 57) (by decide +kernel) h0 ?_
        refine i_bl (pc' := 59) [(.iconst 1, 1), (.iadd, 1)] [some (.ref a0), some (.ref a1), some (.int x2), some (.int x3), some (.int x4)] [.int ((m5 a0 4) + 1), .ref a0] (by decide +kernel) rfl ?_
        refine i_pf (x := ((m5 a0 4) + 1)) (idx := 28) (ci := 6) (k := 4) (p := 12064) (pc' := 62) (by decide +kernel) h0 (fun m6 => ?_)
        refine i_bl (pc' := 65) [(.iinc 4 (1), 3)] [some (.ref a0), some (.ref a1), some (.int x2), some (.int x3), some (.int (x4 + 1))] [] (by decide +kernel) rfl ?_
        refine i_wb (fun y7 => ev_dn b z 76 65 [some (.ref a0), some (.ref a1), some (.int x2), some (.int x3), some (.int y7)] [] (nx, mem L nx m6)) (fun y7 => ?_)
        refine i_go (t := 3) (off := -62) (by decide +kernel) ?_
        exact i_co () rfl
      · refine i_bl (pc' := 65) [(.iinc 4 (1), 3)] [some (.ref a0), some (.ref a1), some (.int x2), some (.int x3), some (.int (x4 + 1))] [] (by decide +kernel) rfl ?_
        refine i_wb (fun y3 => ev_dn b z 76 65 [some (.ref a0), some (.ref a1), some (.int x2), some (.int x3), some (.int y3)] [] (nx, mem L nx m)) (fun y3 => ?_)
        refine i_go (t := 3) (off := -62) (by decide +kernel) ?_
        exact i_co () rfl

theorem t_76_3 {L nx : Nat} (hN : okn nx) {b z : Nat} {m : Mm} {a0 : Nat} (h0 : ok nx a0 6) {a1 : Nat} (h1 : ok nx a1 1) {x2 : Int32} {x3 : Int32} {x4 : Int32}  : Im (d_76_3 a0 a1 x2 x3 x4 m) (wV L nx) (ev_dn b z 76 3 [some (.ref a0), some (.ref a1), some (.int x2), some (.int x3), some (.int x4)] [] (nx, mem L nx m)) := by
  exact i_it (f := fun s => s_76_3 a0 a1 x2 x3 s.1 s.2) (E := E_76_3 L nx b z a0 a1 x2 x3) (K := (wV L nx)) (fun d s => u_76_3 hN (h0 := h0) (h1 := h1)) () (x4, m)
noncomputable def d_76 (a0 : Nat) (a1 : Nat) (x2 : Int32) (x3 : Int32) (m : Mm) : Option Mm := d_76_3 a0 a1 x2 x3 0 m
theorem t_76 {L nx : Nat} (hN : okn nx) {b z : Nat} {m : Mm} {a0 : Nat} (h0 : ok nx a0 6) {a1 : Nat} (h1 : ok nx a1 1) {x2 : Int32} {x3 : Int32}  : Im (d_76 a0 a1 x2 x3 m) (wV L nx) (ev_dn b z 76 0 [some (.ref a0), some (.ref a1), some (.int x2), some (.int x3), none] [] (nx, mem L nx m)) := by
  unfold d_76
  refine i_bl (pc' := 3) [(.iconst 0, 1), (.istore 4, 2)] [some (.ref a0), some (.ref a1), some (.int x2), some (.int x3), some (.int 0)] [] (by decide +kernel) rfl ?_
  exact t_76_3 hN (h0 := h0) (h1 := h1)

/-! 75 LanternChess$MoveList.fill(LLanternChess$Field;I)V -/
noncomputable def E_75_7 (L nx b z : Nat) (a0 : Nat) (a1 : Nat) (x2 : Int32) (d : Unit) (s : (Int32 × Mm)) : ev_Q := ev_dn b z 75 7 [some (.ref a0), some (.ref a1), some (.int x2), some (.int s.1)] [] (nx, mem L nx s.2)
noncomputable def s_75_7 (a0 : Nat) (a1 : Nat) (x2 : Int32) (x3 : Int32) (m : Mm) : Option ((Int32 × Mm) ⊕ Mm) := if 64 ≤ x3 then (some (.inr m)) else ((d_17 a1 x3 m).bind fun v2 => (d_19 v2 x2).bind fun v3 => if v3 = true then ((d_76 a0 a1 x2 x3 m).bind fun m5 => wb (x3 + 1) fun y6 => some (.inl (y6, m5))) else (wb (x3 + 1) fun y4 => some (.inl (y4, m))))
noncomputable def d_75_7 (a0 : Nat) (a1 : Nat) (x2 : Int32) (x3 : Int32) (m : Mm) : Option Mm := it (fun s => s_75_7 a0 a1 x2 s.1 s.2) (x3, m)
theorem e_75_7 (a0 : Nat) (a1 : Nat) (x2 : Int32) (x3 : Int32) (m : Mm) : d_75_7 a0 a1 x2 x3 m = oi (s_75_7 a0 a1 x2 x3 m) (fun s => d_75_7 a0 a1 x2 s.1 s.2) := it_eq _
theorem u_75_7 {L nx : Nat} (hN : okn nx) {b z : Nat} {m : Mm} {a0 : Nat} (h0 : ok nx a0 6) {a1 : Nat} (h1 : ok nx a1 1) {x2 : Int32} {x3 : Int32}  : Im (s_75_7 a0 a1 x2 x3 m) (kL (wV L nx) (E_75_7 L nx b z a0 a1 x2)) (ev_dn b z 75 7 [some (.ref a0), some (.ref a1), some (.int x2), some (.int x3)] [] (nx, mem L nx m)) := by
  unfold s_75_7
  refine i_bl (pc' := 10) [(.iload_n 3, 1), (.bipush (64), 2)] [some (.ref a0), some (.ref a1), some (.int x2), some (.int x3)] [.int 64, .int x3] (by decide +kernel) rfl ?_
  refine i_ic (c := .ge) (off := 28) (t := 38) (pc' := 13) (p := 64 ≤ x3) (by decide +kernel) rfl ?_ ?_
  · exact i_ir (i_rv (by decide +kernel) rfl)
  · refine i_bl (pc' := 15) [(.aload_n 1, 1), (.iload_n 3, 1)] [some (.ref a0), some (.ref a1), some (.int x2), some (.int x3)] [.int x3, .ref a1] (by decide +kernel) rfl ?_
    refine i_cv (ci := 1) (t := 17) (na := 2) (ml := 2) (idx := 32) (pc' := 18) (st' := []) (en := [some (.ref a1), some (.int x3)]) (av := [.int x3]) (vo := fun v => some (.int v)) (mo := fun _ => m) (s2 := fun v => .int v :: []) (by decide +kernel) (by decide +kernel) h1 ⟨rfl, rfl, rfl, rfl, rfl, rfl⟩ (fun _ => rfl) (t_17 hN (h0 := h1)) (fun v2 => ?_)
    refine i_bl (pc' := 19) [(.iload_n 2, 1)] [some (.ref a0), some (.ref a1), some (.int x2), some (.int x3)] [.int x2, .int v2] (by decide +kernel) rfl ?_
    refine i_cs (t := 19) (na := 2) (ml := 2) (idx := 36) (pc' := 22) (st' := []) (en := [some (.int v2), some (.int x2)]) (av := [.int v2, .int x2]) (vo := fun v => some (.int (bi v))) (mo := fun _ => m) (s2 := fun v => .int (bi v) :: []) (by decide +kernel) ⟨rfl, rfl, rfl, rfl, rfl, rfl⟩ (fun _ => rfl) (t_19 hN ) (fun v3 => ?_)
    refine i_bz (off := 10) (t := 32) (pc' := 25) (by decide +kernel) ?_ ?_
    · refine i_bl (pc' := 29) [(.aload_n 0, 1), (.aload_n 1, 1), (.iload_n 2, 1), (.iload_n 3, 1)] [some (.ref a0), some (.ref a1), some (.int x2), some (.int x3)] [.int x3, .int x2, .ref a1, .ref a0] (by decide +kernel) rfl ?_
      refine i_cv (ci := 6) (t := 76) (na := 4) (ml := 5) (idx := 40) (pc' := 32) (st' := []) (en := [some (.ref a0), some (.ref a1), some (.int x2), some (.int x3), none]) (av := [.ref a1, .int x2, .int x3]) (vo := fun _ => none) (mo := fun m => m) (s2 := fun _ => []) (by decide +kernel) (by decide +kernel) h0 ⟨rfl, rfl, rfl, rfl, rfl, rfl⟩ (fun _ => rfl) (t_76 hN (h0 := h0) (h1 := h1)) (fun m5 => ?_)
      refine i_bl (pc' := 35) [(.iinc 3 (1), 3)] [some (.ref a0), some (.ref a1), some (.int x2), some (.int (x3 + 1))] [] (by decide +kernel) rfl ?_
      refine i_wb (fun y6 => ev_dn b z 75 35 [some (.ref a0), some (.ref a1), some (.int x2), some (.int y6)] [] (nx, mem L nx m5)) (fun y6 => ?_)
      refine i_go (t := 7) (off := -28) (by decide +kernel) ?_
      exact i_co () rfl
    · refine i_bl (pc' := 35) [(.iinc 3 (1), 3)] [some (.ref a0), some (.ref a1), some (.int x2), some (.int (x3 + 1))] [] (by decide +kernel) rfl ?_
      refine i_wb (fun y4 => ev_dn b z 75 35 [some (.ref a0), some (.ref a1), some (.int x2), some (.int y4)] [] (nx, mem L nx m)) (fun y4 => ?_)
      refine i_go (t := 7) (off := -28) (by decide +kernel) ?_
      exact i_co () rfl

theorem t_75_7 {L nx : Nat} (hN : okn nx) {b z : Nat} {m : Mm} {a0 : Nat} (h0 : ok nx a0 6) {a1 : Nat} (h1 : ok nx a1 1) {x2 : Int32} {x3 : Int32}  : Im (d_75_7 a0 a1 x2 x3 m) (wV L nx) (ev_dn b z 75 7 [some (.ref a0), some (.ref a1), some (.int x2), some (.int x3)] [] (nx, mem L nx m)) := by
  exact i_it (f := fun s => s_75_7 a0 a1 x2 s.1 s.2) (E := E_75_7 L nx b z a0 a1 x2) (K := (wV L nx)) (fun d s => u_75_7 hN (h0 := h0) (h1 := h1)) () (x3, m)
noncomputable def d_75 (a0 : Nat) (a1 : Nat) (x2 : Int32) (m : Mm) : Option Mm := wb (wr m a0 4 0) fun m1 => d_75_7 a0 a1 x2 0 m1
theorem t_75 {L nx : Nat} (hN : okn nx) {b z : Nat} {m : Mm} {a0 : Nat} (h0 : ok nx a0 6) {a1 : Nat} (h1 : ok nx a1 1) {x2 : Int32}  : Im (d_75 a0 a1 x2 m) (wV L nx) (ev_dn b z 75 0 [some (.ref a0), some (.ref a1), some (.int x2), none] [] (nx, mem L nx m)) := by
  unfold d_75
  refine i_bl (pc' := 2) [(.aload_n 0, 1), (.iconst 0, 1)] [some (.ref a0), some (.ref a1), some (.int x2), none] [.int 0, .ref a0] (by decide +kernel) rfl ?_
  refine i_pf (x := 0) (idx := 28) (ci := 6) (k := 4) (p := 12064) (pc' := 5) (by decide +kernel) h0 (fun m1 => ?_)
  refine i_bl (pc' := 7) [(.iconst 0, 1), (.istore_n 3, 1)] [some (.ref a0), some (.ref a1), some (.int x2), some (.int 0)] [] (by decide +kernel) rfl ?_
  exact t_75_7 hN (h0 := h0) (h1 := h1)

/-! 77 LanternChess$MoveList.fromOf(I)I -/
noncomputable def d_77 (a0 : Nat) (x1 : Int32) (m : Mm) : Option Int32 := if x1 < 0 then (some (-1)) else (if 837 ≤ x1 then (some (-1)) else (if ev_in x1 (sh_n (sh_r a0 0)) = true then (some (m (sh_r a0 0) (ix x1))) else none))
theorem t_77 {L nx : Nat} (hN : okn nx) {b z : Nat} {m : Mm} {a0 : Nat} (h0 : ok nx a0 6) {x1 : Int32}  : Im (d_77 a0 x1 m) (kI L nx m) (ev_dn b z 77 0 [some (.ref a0), some (.int x1)] [] (nx, mem L nx m)) := by
  unfold d_77
  refine i_bl (pc' := 1) [(.iload_n 1, 1)] [some (.ref a0), some (.int x1)] [.int x1] (by decide +kernel) rfl ?_
  refine i_if (c := .lt) (off := 19) (t := 20) (pc' := 4) (p := x1 < 0) (by decide +kernel) rfl ?_ ?_
  · refine i_bl (pc' := 21) [(.iconst (-1), 1)] [some (.ref a0), some (.int x1)] [.int (-1)] (by decide +kernel) rfl ?_
    exact i_ri (by decide +kernel) rfl
  · refine i_bl (pc' := 8) [(.iload_n 1, 1), (.sipush (837), 3)] [some (.ref a0), some (.int x1)] [.int 837, .int x1] (by decide +kernel) rfl ?_
    refine i_ic (c := .ge) (off := 12) (t := 20) (pc' := 11) (p := 837 ≤ x1) (by decide +kernel) rfl ?_ ?_
    · refine i_bl (pc' := 21) [(.iconst (-1), 1)] [some (.ref a0), some (.int x1)] [.int (-1)] (by decide +kernel) rfl ?_
      exact i_ri (by decide +kernel) rfl
    · refine i_bl (pc' := 12) [(.aload_n 0, 1)] [some (.ref a0), some (.int x1)] [.ref a0] (by decide +kernel) rfl ?_
      refine i_gr (idx := 9) (ci := 6) (k := 0) (t := 2) (p := 12060) (pc' := 15) (by decide +kernel) h0 ?_
      refine i_bl (pc' := 16) [(.iload_n 1, 1)] [some (.ref a0), some (.int x1)] [.int x1, .ref (sh_r a0 0)] (by decide +kernel) rfl ?_
      refine i_al (pc' := 17) (by decide +kernel) (o_6_0 hN h0) ?_
      refine i_go (t := 21) (off := 4) (by decide +kernel) ?_
      exact i_ri (by decide +kernel) rfl

/-! 78 LanternChess$MoveList.toOf(I)I -/
noncomputable def d_78 (a0 : Nat) (x1 : Int32) (m : Mm) : Option Int32 := if x1 < 0 then (some (-1)) else (if 837 ≤ x1 then (some (-1)) else (if ev_in x1 (sh_n (sh_r a0 1)) = true then (some (m (sh_r a0 1) (ix x1))) else none))
theorem t_78 {L nx : Nat} (hN : okn nx) {b z : Nat} {m : Mm} {a0 : Nat} (h0 : ok nx a0 6) {x1 : Int32}  : Im (d_78 a0 x1 m) (kI L nx m) (ev_dn b z 78 0 [some (.ref a0), some (.int x1)] [] (nx, mem L nx m)) := by
  unfold d_78
  refine i_bl (pc' := 1) [(.iload_n 1, 1)] [some (.ref a0), some (.int x1)] [.int x1] (by decide +kernel) rfl ?_
  refine i_if (c := .lt) (off := 19) (t := 20) (pc' := 4) (p := x1 < 0) (by decide +kernel) rfl ?_ ?_
  · refine i_bl (pc' := 21) [(.iconst (-1), 1)] [some (.ref a0), some (.int x1)] [.int (-1)] (by decide +kernel) rfl ?_
    exact i_ri (by decide +kernel) rfl
  · refine i_bl (pc' := 8) [(.iload_n 1, 1), (.sipush (837), 3)] [some (.ref a0), some (.int x1)] [.int 837, .int x1] (by decide +kernel) rfl ?_
    refine i_ic (c := .ge) (off := 12) (t := 20) (pc' := 11) (p := 837 ≤ x1) (by decide +kernel) rfl ?_ ?_
    · refine i_bl (pc' := 21) [(.iconst (-1), 1)] [some (.ref a0), some (.int x1)] [.int (-1)] (by decide +kernel) rfl ?_
      exact i_ri (by decide +kernel) rfl
    · refine i_bl (pc' := 12) [(.aload_n 0, 1)] [some (.ref a0), some (.int x1)] [.ref a0] (by decide +kernel) rfl ?_
      refine i_gr (idx := 15) (ci := 6) (k := 1) (t := 2) (p := 12061) (pc' := 15) (by decide +kernel) h0 ?_
      refine i_bl (pc' := 16) [(.iload_n 1, 1)] [some (.ref a0), some (.int x1)] [.int x1, .ref (sh_r a0 1)] (by decide +kernel) rfl ?_
      refine i_al (pc' := 17) (by decide +kernel) (o_6_1 hN h0) ?_
      refine i_go (t := 21) (off := 4) (by decide +kernel) ?_
      exact i_ri (by decide +kernel) rfl

/-! 79 LanternChess$MoveList.worthOf(LLanternChess$Field;III)I -/
noncomputable def d_79 (a0 : Nat) (a1 : Nat) (x2 : Int32) (x3 : Int32) (x4 : Int32) (m : Mm) : Option (Int32 × Mm) := (d_27 a1 x3 x4 m).bind fun v1 => (d_17 a1 x4 m).bind fun v2 => if ¬ v2 = (0 + (6 * (1 - x2))) then ((d_11 (sh_r a0 3) a1 m).bind fun m3 => (d_26 (sh_r a0 3) x3 x4 m3).bind fun m4 => (d_28 (sh_r a0 3) (1 - x2) m4).bind fun v5 => some (v1 - v5, m4)) else (some (v1, m))
theorem t_79 {L nx : Nat} (hN : okn nx) {b z : Nat} {m : Mm} {a0 : Nat} (h0 : ok nx a0 6) {a1 : Nat} (h1 : ok nx a1 1) {x2 : Int32} {x3 : Int32} {x4 : Int32}  : Im (d_79 a0 a1 x2 x3 x4 m) (wI L nx) (ev_dn b z 79 0 [some (.ref a0), some (.ref a1), some (.int x2), some (.int x3), some (.int x4), none] [] (nx, mem L nx m)) := by
  unfold d_79
  refine i_bl (pc' := 4) [(.aload_n 1, 1), (.iload_n 3, 1), (.iload 4, 2)] [some (.ref a0), some (.ref a1), some (.int x2), some (.int x3), some (.int x4), none] [.int x4, .int x3, .ref a1] (by decide +kernel) rfl ?_
  refine i_cv (ci := 1) (t := 27) (na := 3) (ml := 3) (idx := 48) (pc' := 7) (st' := []) (en := [some (.ref a1), some (.int x3), some (.int x4)]) (av := [.int x3, .int x4]) (vo := fun v => some (.int v)) (mo := fun _ => m) (s2 := fun v => .int v :: []) (by decide +kernel) (by decide +kernel) h1 ⟨rfl, rfl, rfl, rfl, rfl, rfl⟩ (fun _ => rfl) (t_27 hN (h0 := h1)) (fun v1 => ?_)
  refine i_bl (pc' := 12) [(.istore 5, 2), (.aload_n 1, 1), (.iload 4, 2)] [some (.ref a0), some (.ref a1), some (.int x2), some (.int x3), some (.int x4), some (.int v1)] [.int x4, .ref a1] (by decide +kernel) rfl ?_
  refine i_cv (ci := 1) (t := 17) (na := 2) (ml := 2) (idx := 32) (pc' := 15) (st' := []) (en := [some (.ref a1), some (.int x4)]) (av := [.int x4]) (vo := fun v => some (.int v)) (mo := fun _ => m) (s2 := fun v => .int v :: []) (by decide +kernel) (by decide +kernel) h1 ⟨rfl, rfl, rfl, rfl, rfl, rfl⟩ (fun _ => rfl) (t_17 hN (h0 := h1)) (fun v2 => ?_)
  refine i_bl (pc' := 23) [(.iconst 0, 1), (.bipush (6), 2), (.iconst 1, 1), (.iload_n 2, 1), (.isub, 1), (.imul, 1), (.iadd, 1)] [some (.ref a0), some (.ref a1), some (.int x2), some (.int x3), some (.int x4), some (.int v1)] [.int (0 + (6 * (1 - x2))), .int v2] (by decide +kernel) rfl ?_
  refine i_ic (c := .ne) (off := 6) (t := 29) (pc' := 26) (p := ¬ v2 = (0 + (6 * (1 - x2)))) (by decide +kernel) rfl ?_ ?_
  · refine i_bl (pc' := 30) [(.aload_n 0, 1)] [some (.ref a0), some (.ref a1), some (.int x2), some (.int x3), some (.int x4), some (.int v1)] [.ref a0] (by decide +kernel) rfl ?_
    refine i_gr (idx := 24) (ci := 6) (k := 3) (t := 2) (p := 12063) (pc' := 33) (by decide +kernel) h0 ?_
    refine i_bl (pc' := 34) [(.aload_n 1, 1)] [some (.ref a0), some (.ref a1), some (.int x2), some (.int x3), some (.int x4), some (.int v1)] [.ref a1, .ref (sh_r a0 3)] (by decide +kernel) rfl ?_
    refine i_cv (ci := 1) (t := 11) (na := 2) (ml := 2) (idx := 52) (pc' := 37) (st' := []) (en := [some (.ref (sh_r a0 3)), some (.ref a1)]) (av := [.ref a1]) (vo := fun _ => none) (mo := fun m => m) (s2 := fun _ => []) (by decide +kernel) (by decide +kernel) (o_6_3 hN h0) ⟨rfl, rfl, rfl, rfl, rfl, rfl⟩ (fun _ => rfl) (t_11 hN (h0 := (o_6_3 hN h0)) (h1 := h1)) (fun m3 => ?_)
    refine i_bl (pc' := 38) [(.aload_n 0, 1)] [some (.ref a0), some (.ref a1), some (.int x2), some (.int x3), some (.int x4), some (.int v1)] [.ref a0] (by decide +kernel) rfl ?_
    refine i_gr (idx := 24) (ci := 6) (k := 3) (t := 2) (p := 12063) (pc' := 41) (by decide +kernel) h0 ?_
    refine i_bl (pc' := 44) [(.iload_n 3, 1), (.iload 4, 2)] [some (.ref a0), some (.ref a1), some (.int x2), some (.int x3), some (.int x4), some (.int v1)] [.int x4, .int x3, .ref (sh_r a0 3)] (by decide +kernel) rfl ?_
    refine i_cv (ci := 1) (t := 26) (na := 3) (ml := 4) (idx := 56) (pc' := 47) (st' := []) (en := [some (.ref (sh_r a0 3)), some (.int x3), some (.int x4), none]) (av := [.int x3, .int x4]) (vo := fun _ => none) (mo := fun m => m) (s2 := fun _ => []) (by decide +kernel) (by decide +kernel) (o_6_3 hN h0) ⟨rfl, rfl, rfl, rfl, rfl, rfl⟩ (fun _ => rfl) (t_26 hN (h0 := (o_6_3 hN h0))) (fun m4 => ?_)
    refine i_bl (pc' := 50) [(.iload 5, 2), (.aload_n 0, 1)] [some (.ref a0), some (.ref a1), some (.int x2), some (.int x3), some (.int x4), some (.int v1)] [.ref a0, .int v1] (by decide +kernel) rfl ?_
    refine i_gr (idx := 24) (ci := 6) (k := 3) (t := 2) (p := 12063) (pc' := 53) (by decide +kernel) h0 ?_
    refine i_bl (pc' := 56) [(.iconst 1, 1), (.iload_n 2, 1), (.isub, 1)] [some (.ref a0), some (.ref a1), some (.int x2), some (.int x3), some (.int x4), some (.int v1)] [.int (1 - x2), .ref (sh_r a0 3), .int v1] (by decide +kernel) rfl ?_
    refine i_cv (ci := 1) (t := 28) (na := 2) (ml := 6) (idx := 60) (pc' := 59) (st' := [.int v1]) (en := [some (.ref (sh_r a0 3)), some (.int (1 - x2)), none, none, none, none]) (av := [.int (1 - x2)]) (vo := fun v => some (.int v)) (mo := fun _ => m4) (s2 := fun v => .int v :: [.int v1]) (by decide +kernel) (by decide +kernel) (o_6_3 hN h0) ⟨rfl, rfl, rfl, rfl, rfl, rfl⟩ (fun _ => rfl) (t_28 hN (h0 := (o_6_3 hN h0))) (fun v5 => ?_)
    refine i_bl (pc' := 60) [(.isub, 1)] [some (.ref a0), some (.ref a1), some (.int x2), some (.int x3), some (.int x4), some (.int v1)] [.int (v1 - v5)] (by decide +kernel) rfl ?_
    exact i_ri (by decide +kernel) rfl
  · refine i_bl (pc' := 28) [(.iload 5, 2)] [some (.ref a0), some (.ref a1), some (.int x2), some (.int x3), some (.int x4), some (.int v1)] [.int v1] (by decide +kernel) rfl ?_
    exact i_ri (by decide +kernel) rfl

/-! 80 LanternChess$MoveList.weigh(LLanternChess$Field;I)V -/
noncomputable def E_80_2 (L nx b z : Nat) (a0 : Nat) (a1 : Nat) (x2 : Int32) (d : Unit) (s : (Int32 × Mm)) : ev_Q := ev_dn b z 80 2 [some (.ref a0), some (.ref a1), some (.int x2), some (.int s.1)] [] (nx, mem L nx s.2)
noncomputable def s_80_2 (a0 : Nat) (a1 : Nat) (x2 : Int32) (x3 : Int32) (m : Mm) : Option ((Int32 × Mm) ⊕ Mm) := if (m a0 4) ≤ x3 then (some (.inr m)) else (if 837 ≤ x3 then (some (.inr m)) else (if ev_in x3 (sh_n (sh_r a0 0)) = true then (if ev_in x3 (sh_n (sh_r a0 1)) = true then ((d_79 a0 a1 x2 (m (sh_r a0 0) (ix x3)) (m (sh_r a0 1) (ix x3)) m).bind fun r1 => if ev_in x3 (sh_n (sh_r a0 2)) = true then (wb (wr r1.2 (sh_r a0 2) (ix x3) r1.1) fun m2 => wb (x3 + 1) fun y3 => some (.inl (y3, m2))) else none) else none) else none))
noncomputable def d_80_2 (a0 : Nat) (a1 : Nat) (x2 : Int32) (x3 : Int32) (m : Mm) : Option Mm := it (fun s => s_80_2 a0 a1 x2 s.1 s.2) (x3, m)
theorem e_80_2 (a0 : Nat) (a1 : Nat) (x2 : Int32) (x3 : Int32) (m : Mm) : d_80_2 a0 a1 x2 x3 m = oi (s_80_2 a0 a1 x2 x3 m) (fun s => d_80_2 a0 a1 x2 s.1 s.2) := it_eq _
theorem u_80_2 {L nx : Nat} (hN : okn nx) {b z : Nat} {m : Mm} {a0 : Nat} (h0 : ok nx a0 6) {a1 : Nat} (h1 : ok nx a1 1) {x2 : Int32} {x3 : Int32}  : Im (s_80_2 a0 a1 x2 x3 m) (kL (wV L nx) (E_80_2 L nx b z a0 a1 x2)) (ev_dn b z 80 2 [some (.ref a0), some (.ref a1), some (.int x2), some (.int x3)] [] (nx, mem L nx m)) := by
  unfold s_80_2
  refine i_bl (pc' := 4) [(.iload_n 3, 1), (.aload_n 0, 1)] [some (.ref a0), some (.ref a1), some (.int x2), some (.int x3)] [.ref a0, .int x3] (by decide +kernel) rfl ?_
  refine i_gf (idx := 28) (ci := 6) (k := 4) (t := 0) (p := 12064) (pc' := 7) (by decide +kernel) h0 ?_
  refine i_ic (c := .ge) (off := 40) (t := 47) (pc' := 10) (p := (m a0 4) ≤ x3) (by decide +kernel) rfl ?_ ?_
  · exact i_ir (i_rv (by decide +kernel) rfl)
  · refine i_bl (pc' := 14) [(.iload_n 3, 1), (.sipush (837), 3)] [some (.ref a0), some (.ref a1), some (.int x2), some (.int x3)] [.int 837, .int x3] (by decide +kernel) rfl ?_
    refine i_ic (c := .ge) (off := 33) (t := 47) (pc' := 17) (p := 837 ≤ x3) (by decide +kernel) rfl ?_ ?_
    · exact i_ir (i_rv (by decide +kernel) rfl)
    · refine i_bl (pc' := 18) [(.aload_n 0, 1)] [some (.ref a0), some (.ref a1), some (.int x2), some (.int x3)] [.ref a0] (by decide +kernel) rfl ?_
      refine i_gr (idx := 18) (ci := 6) (k := 2) (t := 2) (p := 12062) (pc' := 21) (by decide +kernel) h0 ?_
      refine i_bl (pc' := 26) [(.iload_n 3, 1), (.aload_n 0, 1), (.aload_n 1, 1), (.iload_n 2, 1), (.aload_n 0, 1)] [some (.ref a0), some (.ref a1), some (.int x2), some (.int x3)] [.ref a0, .int x2, .ref a1, .ref a0, .int x3, .ref (sh_r a0 2)] (by decide +kernel) rfl ?_
      refine i_gr (idx := 9) (ci := 6) (k := 0) (t := 2) (p := 12060) (pc' := 29) (by decide +kernel) h0 ?_
      refine i_bl (pc' := 30) [(.iload_n 3, 1)] [some (.ref a0), some (.ref a1), some (.int x2), some (.int x3)] [.int x3, .ref (sh_r a0 0), .int x2, .ref a1, .ref a0, .int x3, .ref (sh_r a0 2)] (by decide +kernel) rfl ?_
      refine i_al (pc' := 31) (by decide +kernel) (o_6_0 hN h0) ?_
      refine i_bl (pc' := 32) [(.aload_n 0, 1)] [some (.ref a0), some (.ref a1), some (.int x2), some (.int x3)] [.ref a0, .int (m (sh_r a0 0) (ix x3)), .int x2, .ref a1, .ref a0, .int x3, .ref (sh_r a0 2)] (by decide +kernel) rfl ?_
      refine i_gr (idx := 15) (ci := 6) (k := 1) (t := 2) (p := 12061) (pc' := 35) (by decide +kernel) h0 ?_
      refine i_bl (pc' := 36) [(.iload_n 3, 1)] [some (.ref a0), some (.ref a1), some (.int x2), some (.int x3)] [.int x3, .ref (sh_r a0 1), .int (m (sh_r a0 0) (ix x3)), .int x2, .ref a1, .ref a0, .int x3, .ref (sh_r a0 2)] (by decide +kernel) rfl ?_
      refine i_al (pc' := 37) (by decide +kernel) (o_6_1 hN h0) ?_
      refine i_cv (ci := 6) (t := 79) (na := 5) (ml := 6) (idx := 63) (pc' := 40) (st' := [.int x3, .ref (sh_r a0 2)]) (en := [some (.ref a0), some (.ref a1), some (.int x2), some (.int (m (sh_r a0 0) (ix x3))), some (.int (m (sh_r a0 1) (ix x3))), none]) (av := [.ref a1, .int x2, .int (m (sh_r a0 0) (ix x3)), .int (m (sh_r a0 1) (ix x3))]) (vo := fun v => some (.int v.1)) (mo := fun v => v.2) (s2 := fun v => .int v.1 :: [.int x3, .ref (sh_r a0 2)]) (by decide +kernel) (by decide +kernel) h0 ⟨rfl, rfl, rfl, rfl, rfl, rfl⟩ (fun _ => rfl) (t_79 hN (h0 := h0) (h1 := h1)) (fun r1 => ?_)
      refine i_as (y := r1.1) (pc' := 41) (by decide +kernel) (o_6_2 hN h0) (fun m2 => ?_)
      refine i_bl (pc' := 44) [(.iinc 3 (1), 3)] [some (.ref a0), some (.ref a1), some (.int x2), some (.int (x3 + 1))] [] (by decide +kernel) rfl ?_
      refine i_wb (fun y3 => ev_dn b z 80 44 [some (.ref a0), some (.ref a1), some (.int x2), some (.int y3)] [] (nx, mem L nx m2)) (fun y3 => ?_)
      refine i_go (t := 2) (off := -42) (by decide +kernel) ?_
      exact i_co () rfl

theorem t_80_2 {L nx : Nat} (hN : okn nx) {b z : Nat} {m : Mm} {a0 : Nat} (h0 : ok nx a0 6) {a1 : Nat} (h1 : ok nx a1 1) {x2 : Int32} {x3 : Int32}  : Im (d_80_2 a0 a1 x2 x3 m) (wV L nx) (ev_dn b z 80 2 [some (.ref a0), some (.ref a1), some (.int x2), some (.int x3)] [] (nx, mem L nx m)) := by
  exact i_it (f := fun s => s_80_2 a0 a1 x2 s.1 s.2) (E := E_80_2 L nx b z a0 a1 x2) (K := (wV L nx)) (fun d s => u_80_2 hN (h0 := h0) (h1 := h1)) () (x3, m)
noncomputable def d_80 (a0 : Nat) (a1 : Nat) (x2 : Int32) (m : Mm) : Option Mm := d_80_2 a0 a1 x2 0 m
theorem t_80 {L nx : Nat} (hN : okn nx) {b z : Nat} {m : Mm} {a0 : Nat} (h0 : ok nx a0 6) {a1 : Nat} (h1 : ok nx a1 1) {x2 : Int32}  : Im (d_80 a0 a1 x2 m) (wV L nx) (ev_dn b z 80 0 [some (.ref a0), some (.ref a1), some (.int x2), none] [] (nx, mem L nx m)) := by
  unfold d_80
  refine i_bl (pc' := 2) [(.iconst 0, 1), (.istore_n 3, 1)] [some (.ref a0), some (.ref a1), some (.int x2), some (.int 0)] [] (by decide +kernel) rfl ?_
  exact t_80_2 hN (h0 := h0) (h1 := h1)

/-! 82 LanternChess$MoveList.rankOf(I)I -/
noncomputable def E_82_17 (L nx b z : Nat) (a0 : Nat) (x1 : Int32) (m : Mm) (d : Unit) (s : (Int32 × Int32)) : ev_Q := ev_dn b z 82 17 [some (.ref a0), some (.int x1), some (.int s.1), some (.int s.2)] [] (nx, mem L nx m)
noncomputable def s_82_17 (a0 : Nat) (x1 : Int32) (m : Mm) (x2 : Int32) (x3 : Int32) : Option ((Int32 × Int32) ⊕ Int32) := if (m a0 4) ≤ x3 then (some (.inr x2)) else (if 837 ≤ x3 then (some (.inr x2)) else (if ev_in x3 (sh_n (sh_r a0 2)) = true then (if ev_in x1 (sh_n (sh_r a0 2)) = true then (if (m (sh_r a0 2) (ix x1)) < (m (sh_r a0 2) (ix x3)) then (wb (x2 + 1) fun y1 => wb (x3 + 1) fun y2 => some (.inl (y1, y2))) else (if ev_in x3 (sh_n (sh_r a0 2)) = true then (if ev_in x1 (sh_n (sh_r a0 2)) = true then (if ¬ (m (sh_r a0 2) (ix x3)) = (m (sh_r a0 2) (ix x1)) then (wb (x3 + 1) fun y3 => some (.inl (x2, y3))) else (if x1 ≤ x3 then (wb (x3 + 1) fun y4 => some (.inl (x2, y4))) else (wb (x2 + 1) fun y5 => wb (x3 + 1) fun y6 => some (.inl (y5, y6))))) else none) else none)) else none) else none))
noncomputable def d_82_17 (a0 : Nat) (x1 : Int32) (m : Mm) (x2 : Int32) (x3 : Int32) : Option Int32 := it (fun s => s_82_17 a0 x1 m s.1 s.2) (x2, x3)
theorem e_82_17 (a0 : Nat) (x1 : Int32) (m : Mm) (x2 : Int32) (x3 : Int32) : d_82_17 a0 x1 m x2 x3 = oi (s_82_17 a0 x1 m x2 x3) (fun s => d_82_17 a0 x1 m s.1 s.2) := it_eq _
theorem u_82_17 {L nx : Nat} (hN : okn nx) {b z : Nat} {m : Mm} {a0 : Nat} (h0 : ok nx a0 6) {x1 : Int32} {x2 : Int32} {x3 : Int32}  : Im (s_82_17 a0 x1 m x2 x3) (kL (kI L nx m) (E_82_17 L nx b z a0 x1 m)) (ev_dn b z 82 17 [some (.ref a0), some (.int x1), some (.int x2), some (.int x3)] [] (nx, mem L nx m)) := by
  unfold s_82_17
  refine i_bl (pc' := 19) [(.iload_n 3, 1), (.aload_n 0, 1)] [some (.ref a0), some (.int x1), some (.int x2), some (.int x3)] [.ref a0, .int x3] (by decide +kernel) rfl ?_
  refine i_gf (idx := 28) (ci := 6) (k := 4) (t := 0) (p := 12064) (pc' := 22) (by decide +kernel) h0 ?_
  refine i_ic (c := .ge) (off := 54) (t := 76) (pc' := 25) (p := (m a0 4) ≤ x3) (by decide +kernel) rfl ?_ ?_
  · refine i_bl (pc' := 77) [(.iload_n 2, 1)] [some (.ref a0), some (.int x1), some (.int x2), some (.int x3)] [.int x2] (by decide +kernel) rfl ?_
    exact i_ir (i_ri (by decide +kernel) rfl)
  · refine i_bl (pc' := 29) [(.iload_n 3, 1), (.sipush (837), 3)] [some (.ref a0), some (.int x1), some (.int x2), some (.int x3)] [.int 837, .int x3] (by decide +kernel) rfl ?_
    refine i_ic (c := .ge) (off := 47) (t := 76) (pc' := 32) (p := 837 ≤ x3) (by decide +kernel) rfl ?_ ?_
    · refine i_bl (pc' := 77) [(.iload_n 2, 1)] [some (.ref a0), some (.int x1), some (.int x2), some (.int x3)] [.int x2] (by decide +kernel) rfl ?_
      exact i_ir (i_ri (by decide +kernel) rfl)
    · refine i_bl (pc' := 33) [(.aload_n 0, 1)] [some (.ref a0), some (.int x1), some (.int x2), some (.int x3)] [.ref a0] (by decide +kernel) rfl ?_
      refine i_gr (idx := 18) (ci := 6) (k := 2) (t := 2) (p := 12062) (pc' := 36) (by decide +kernel) h0 ?_
      refine i_bl (pc' := 37) [(.iload_n 3, 1)] [some (.ref a0), some (.int x1), some (.int x2), some (.int x3)] [.int x3, .ref (sh_r a0 2)] (by decide +kernel) rfl ?_
      refine i_al (pc' := 38) (by decide +kernel) (o_6_2 hN h0) ?_
      refine i_bl (pc' := 39) [(.aload_n 0, 1)] [some (.ref a0), some (.int x1), some (.int x2), some (.int x3)] [.ref a0, .int (m (sh_r a0 2) (ix x3))] (by decide +kernel) rfl ?_
      refine i_gr (idx := 18) (ci := 6) (k := 2) (t := 2) (p := 12062) (pc' := 42) (by decide +kernel) h0 ?_
      refine i_bl (pc' := 43) [(.iload_n 1, 1)] [some (.ref a0), some (.int x1), some (.int x2), some (.int x3)] [.int x1, .ref (sh_r a0 2), .int (m (sh_r a0 2) (ix x3))] (by decide +kernel) rfl ?_
      refine i_al (pc' := 44) (by decide +kernel) (o_6_2 hN h0) ?_
      refine i_ic (c := .gt) (off := 23) (t := 67) (pc' := 47) (p := (m (sh_r a0 2) (ix x1)) < (m (sh_r a0 2) (ix x3))) (by decide +kernel) rfl ?_ ?_
      · refine i_bl (pc' := 70) [(.iinc 2 (1), 3)] [some (.ref a0), some (.int x1), some (.int (x2 + 1)), some (.int x3)] [] (by decide +kernel) rfl ?_
        refine i_wb (fun y1 => ev_dn b z 82 70 [some (.ref a0), some (.int x1), some (.int y1), some (.int x3)] [] (nx, mem L nx m)) (fun y1 => ?_)
        refine i_bl (pc' := 73) [(.iinc 3 (1), 3)] [some (.ref a0), some (.int x1), some (.int y1), some (.int (x3 + 1))] [] (by decide +kernel) rfl ?_
        refine i_wb (fun y2 => ev_dn b z 82 73 [some (.ref a0), some (.int x1), some (.int y1), some (.int y2)] [] (nx, mem L nx m)) (fun y2 => ?_)
        refine i_go (t := 17) (off := -56) (by decide +kernel) ?_
        exact i_co () rfl
      · refine i_bl (pc' := 48) [(.aload_n 0, 1)] [some (.ref a0), some (.int x1), some (.int x2), some (.int x3)] [.ref a0] (by decide +kernel) rfl ?_
        refine i_gr (idx := 18) (ci := 6) (k := 2) (t := 2) (p := 12062) (pc' := 51) (by decide +kernel) h0 ?_
        refine i_bl (pc' := 52) [(.iload_n 3, 1)] [some (.ref a0), some (.int x1), some (.int x2), some (.int x3)] [.int x3, .ref (sh_r a0 2)] (by decide +kernel) rfl ?_
        refine i_al (pc' := 53) (by decide +kernel) (o_6_2 hN h0) ?_
        refine i_bl (pc' := 54) [(.aload_n 0, 1)] [some (.ref a0), some (.int x1), some (.int x2), some (.int x3)] [.ref a0, .int (m (sh_r a0 2) (ix x3))] (by decide +kernel) rfl ?_
        refine i_gr (idx := 18) (ci := 6) (k := 2) (t := 2) (p := 12062) (pc' := 57) (by decide +kernel) h0 ?_
        refine i_bl (pc' := 58) [(.iload_n 1, 1)] [some (.ref a0), some (.int x1), some (.int x2), some (.int x3)] [.int x1, .ref (sh_r a0 2), .int (m (sh_r a0 2) (ix x3))] (by decide +kernel) rfl ?_
        refine i_al (pc' := 59) (by decide +kernel) (o_6_2 hN h0) ?_
        refine i_ic (c := .ne) (off := 11) (t := 70) (pc' := 62) (p := ¬ (m (sh_r a0 2) (ix x3)) = (m (sh_r a0 2) (ix x1))) (by decide +kernel) rfl ?_ ?_
        · refine i_bl (pc' := 73) [(.iinc 3 (1), 3)] [some (.ref a0), some (.int x1), some (.int x2), some (.int (x3 + 1))] [] (by decide +kernel) rfl ?_
          refine i_wb (fun y3 => ev_dn b z 82 73 [some (.ref a0), some (.int x1), some (.int x2), some (.int y3)] [] (nx, mem L nx m)) (fun y3 => ?_)
          refine i_go (t := 17) (off := -56) (by decide +kernel) ?_
          exact i_co () rfl
        · refine i_bl (pc' := 64) [(.iload_n 3, 1), (.iload_n 1, 1)] [some (.ref a0), some (.int x1), some (.int x2), some (.int x3)] [.int x1, .int x3] (by decide +kernel) rfl ?_
          refine i_ic (c := .ge) (off := 6) (t := 70) (pc' := 67) (p := x1 ≤ x3) (by decide +kernel) rfl ?_ ?_
          · refine i_bl (pc' := 73) [(.iinc 3 (1), 3)] [some (.ref a0), some (.int x1), some (.int x2), some (.int (x3 + 1))] [] (by decide +kernel) rfl ?_
            refine i_wb (fun y4 => ev_dn b z 82 73 [some (.ref a0), some (.int x1), some (.int x2), some (.int y4)] [] (nx, mem L nx m)) (fun y4 => ?_)
            refine i_go (t := 17) (off := -56) (by decide +kernel) ?_
            exact i_co () rfl
          · refine i_bl (pc' := 70) [(.iinc 2 (1), 3)] [some (.ref a0), some (.int x1), some (.int (x2 + 1)), some (.int x3)] [] (by decide +kernel) rfl ?_
            refine i_wb (fun y5 => ev_dn b z 82 70 [some (.ref a0), some (.int x1), some (.int y5), some (.int x3)] [] (nx, mem L nx m)) (fun y5 => ?_)
            refine i_bl (pc' := 73) [(.iinc 3 (1), 3)] [some (.ref a0), some (.int x1), some (.int y5), some (.int (x3 + 1))] [] (by decide +kernel) rfl ?_
            refine i_wb (fun y6 => ev_dn b z 82 73 [some (.ref a0), some (.int x1), some (.int y5), some (.int y6)] [] (nx, mem L nx m)) (fun y6 => ?_)
            refine i_go (t := 17) (off := -56) (by decide +kernel) ?_
            exact i_co () rfl

theorem t_82_17 {L nx : Nat} (hN : okn nx) {b z : Nat} {m : Mm} {a0 : Nat} (h0 : ok nx a0 6) {x1 : Int32} {x2 : Int32} {x3 : Int32}  : Im (d_82_17 a0 x1 m x2 x3) (kI L nx m) (ev_dn b z 82 17 [some (.ref a0), some (.int x1), some (.int x2), some (.int x3)] [] (nx, mem L nx m)) := by
  exact i_it (f := fun s => s_82_17 a0 x1 m s.1 s.2) (E := E_82_17 L nx b z a0 x1 m) (K := (kI L nx m)) (fun d s => u_82_17 hN (h0 := h0)) () (x2, x3)
noncomputable def d_82 (a0 : Nat) (x1 : Int32) (m : Mm) : Option Int32 := if x1 < 0 then (some (-1)) else (if x1 < 837 then (d_82_17 a0 x1 m 0 0) else (some (-1)))
theorem t_82 {L nx : Nat} (hN : okn nx) {b z : Nat} {m : Mm} {a0 : Nat} (h0 : ok nx a0 6) {x1 : Int32}  : Im (d_82 a0 x1 m) (kI L nx m) (ev_dn b z 82 0 [some (.ref a0), some (.int x1), none, none] [] (nx, mem L nx m)) := by
  unfold d_82
  refine i_bl (pc' := 1) [(.iload_n 1, 1)] [some (.ref a0), some (.int x1), none, none] [.int x1] (by decide +kernel) rfl ?_
  refine i_if (c := .lt) (off := 10) (t := 11) (pc' := 4) (p := x1 < 0) (by decide +kernel) rfl ?_ ?_
  · refine i_bl (pc' := 12) [(.iconst (-1), 1)] [some (.ref a0), some (.int x1), none, none] [.int (-1)] (by decide +kernel) rfl ?_
    exact i_ri (by decide +kernel) rfl
  · refine i_bl (pc' := 8) [(.iload_n 1, 1), (.sipush (837), 3)] [some (.ref a0), some (.int x1), none, none] [.int 837, .int x1] (by decide +kernel) rfl ?_
    refine i_ic (c := .lt) (off := 5) (t := 13) (pc' := 11) (p := x1 < 837) (by decide +kernel) rfl ?_ ?_
    · refine i_bl (pc' := 17) [(.iconst 0, 1), (.istore_n 2, 1), (.iconst 0, 1), (.istore_n 3, 1)] [some (.ref a0), some (.int x1), some (.int 0), some (.int 0)] [] (by decide +kernel) rfl ?_
      exact t_82_17 hN (h0 := h0)
    · refine i_bl (pc' := 12) [(.iconst (-1), 1)] [some (.ref a0), some (.int x1), none, none] [.int (-1)] (by decide +kernel) rfl ?_
      exact i_ri (by decide +kernel) rfl

/-! 81 LanternChess$MoveList.placeOf(I)I -/
noncomputable def E_81_2 (L nx b z : Nat) (a0 : Nat) (x1 : Int32) (m : Mm) (d : Unit) (s : (Int32)) : ev_Q := ev_dn b z 81 2 [some (.ref a0), some (.int x1), some (.int s)] [] (nx, mem L nx m)
noncomputable def s_81_2 (a0 : Nat) (x1 : Int32) (m : Mm) (x2 : Int32) : Option ((Int32) ⊕ Int32) := if (m a0 4) ≤ x2 then (some (.inr (-1))) else (if 837 ≤ x2 then (some (.inr (-1))) else ((d_82 a0 x2 m).bind fun v1 => if ¬ v1 = x1 then (wb (x2 + 1) fun y2 => some (.inl (y2))) else (some (.inr x2))))
noncomputable def d_81_2 (a0 : Nat) (x1 : Int32) (m : Mm) (x2 : Int32) : Option Int32 := it (fun s => s_81_2 a0 x1 m s) (x2)
theorem e_81_2 (a0 : Nat) (x1 : Int32) (m : Mm) (x2 : Int32) : d_81_2 a0 x1 m x2 = oi (s_81_2 a0 x1 m x2) (fun s => d_81_2 a0 x1 m s) := it_eq _
theorem u_81_2 {L nx : Nat} (hN : okn nx) {b z : Nat} {m : Mm} {a0 : Nat} (h0 : ok nx a0 6) {x1 : Int32} {x2 : Int32}  : Im (s_81_2 a0 x1 m x2) (kL (kI L nx m) (E_81_2 L nx b z a0 x1 m)) (ev_dn b z 81 2 [some (.ref a0), some (.int x1), some (.int x2)] [] (nx, mem L nx m)) := by
  unfold s_81_2
  refine i_bl (pc' := 4) [(.iload_n 2, 1), (.aload_n 0, 1)] [some (.ref a0), some (.int x1), some (.int x2)] [.ref a0, .int x2] (by decide +kernel) rfl ?_
  refine i_gf (idx := 28) (ci := 6) (k := 4) (t := 0) (p := 12064) (pc' := 7) (by decide +kernel) h0 ?_
  refine i_ic (c := .ge) (off := 27) (t := 34) (pc' := 10) (p := (m a0 4) ≤ x2) (by decide +kernel) rfl ?_ ?_
  · refine i_bl (pc' := 35) [(.iconst (-1), 1)] [some (.ref a0), some (.int x1), some (.int x2)] [.int (-1)] (by decide +kernel) rfl ?_
    exact i_ir (i_ri (by decide +kernel) rfl)
  · refine i_bl (pc' := 14) [(.iload_n 2, 1), (.sipush (837), 3)] [some (.ref a0), some (.int x1), some (.int x2)] [.int 837, .int x2] (by decide +kernel) rfl ?_
    refine i_ic (c := .ge) (off := 20) (t := 34) (pc' := 17) (p := 837 ≤ x2) (by decide +kernel) rfl ?_ ?_
    · refine i_bl (pc' := 35) [(.iconst (-1), 1)] [some (.ref a0), some (.int x1), some (.int x2)] [.int (-1)] (by decide +kernel) rfl ?_
      exact i_ir (i_ri (by decide +kernel) rfl)
    · refine i_bl (pc' := 19) [(.aload_n 0, 1), (.iload_n 2, 1)] [some (.ref a0), some (.int x1), some (.int x2)] [.int x2, .ref a0] (by decide +kernel) rfl ?_
      refine i_cv (ci := 6) (t := 82) (na := 2) (ml := 4) (idx := 67) (pc' := 22) (st' := []) (en := [some (.ref a0), some (.int x2), none, none]) (av := [.int x2]) (vo := fun v => some (.int v)) (mo := fun _ => m) (s2 := fun v => .int v :: []) (by decide +kernel) (by decide +kernel) h0 ⟨rfl, rfl, rfl, rfl, rfl, rfl⟩ (fun _ => rfl) (t_82 hN (h0 := h0)) (fun v1 => ?_)
      refine i_bl (pc' := 23) [(.iload_n 1, 1)] [some (.ref a0), some (.int x1), some (.int x2)] [.int x1, .int v1] (by decide +kernel) rfl ?_
      refine i_ic (c := .ne) (off := 5) (t := 28) (pc' := 26) (p := ¬ v1 = x1) (by decide +kernel) rfl ?_ ?_
      · refine i_bl (pc' := 31) [(.iinc 2 (1), 3)] [some (.ref a0), some (.int x1), some (.int (x2 + 1))] [] (by decide +kernel) rfl ?_
        refine i_wb (fun y2 => ev_dn b z 81 31 [some (.ref a0), some (.int x1), some (.int y2)] [] (nx, mem L nx m)) (fun y2 => ?_)
        refine i_go (t := 2) (off := -29) (by decide +kernel) ?_
        exact i_co () rfl
      · refine i_bl (pc' := 27) [(.iload_n 2, 1)] [some (.ref a0), some (.int x1), some (.int x2)] [.int x2] (by decide +kernel) rfl ?_
        exact i_ir (i_ri (by decide +kernel) rfl)

theorem t_81_2 {L nx : Nat} (hN : okn nx) {b z : Nat} {m : Mm} {a0 : Nat} (h0 : ok nx a0 6) {x1 : Int32} {x2 : Int32}  : Im (d_81_2 a0 x1 m x2) (kI L nx m) (ev_dn b z 81 2 [some (.ref a0), some (.int x1), some (.int x2)] [] (nx, mem L nx m)) := by
  exact i_it (f := fun s => s_81_2 a0 x1 m s) (E := E_81_2 L nx b z a0 x1 m) (K := (kI L nx m)) (fun d s => u_81_2 hN (h0 := h0)) () (x2)
noncomputable def d_81 (a0 : Nat) (x1 : Int32) (m : Mm) : Option Int32 := d_81_2 a0 x1 m 0
theorem t_81 {L nx : Nat} (hN : okn nx) {b z : Nat} {m : Mm} {a0 : Nat} (h0 : ok nx a0 6) {x1 : Int32}  : Im (d_81 a0 x1 m) (kI L nx m) (ev_dn b z 81 0 [some (.ref a0), some (.int x1), none] [] (nx, mem L nx m)) := by
  unfold d_81
  refine i_bl (pc' := 2) [(.iconst 0, 1), (.istore_n 2, 1)] [some (.ref a0), some (.int x1), some (.int 0)] [] (by decide +kernel) rfl ?_
  exact t_81_2 hN (h0 := h0)

/-! 84 LanternChess$Sending.flashesOf(I)I -/
noncomputable def d_84 (a0 : Nat) (x1 : Int32) (m : Mm) : Option Int32 := if x1 < 0 then (some 0) else (if 6 ≤ x1 then (some 0) else (if ev_in x1 (sh_n (sh_r a0 0)) = true then (some (m (sh_r a0 0) (ix x1))) else none))
theorem t_84 {L nx : Nat} (hN : okn nx) {b z : Nat} {m : Mm} {a0 : Nat} (h0 : ok nx a0 7) {x1 : Int32}  : Im (d_84 a0 x1 m) (kI L nx m) (ev_dn b z 84 0 [some (.ref a0), some (.int x1)] [] (nx, mem L nx m)) := by
  unfold d_84
  refine i_bl (pc' := 1) [(.iload_n 1, 1)] [some (.ref a0), some (.int x1)] [.int x1] (by decide +kernel) rfl ?_
  refine i_if (c := .lt) (off := 18) (t := 19) (pc' := 4) (p := x1 < 0) (by decide +kernel) rfl ?_ ?_
  · refine i_bl (pc' := 20) [(.iconst 0, 1)] [some (.ref a0), some (.int x1)] [.int 0] (by decide +kernel) rfl ?_
    exact i_ri (by decide +kernel) rfl
  · refine i_bl (pc' := 7) [(.iload_n 1, 1), (.bipush (6), 2)] [some (.ref a0), some (.int x1)] [.int 6, .int x1] (by decide +kernel) rfl ?_
    refine i_ic (c := .ge) (off := 12) (t := 19) (pc' := 10) (p := 6 ≤ x1) (by decide +kernel) rfl ?_ ?_
    · refine i_bl (pc' := 20) [(.iconst 0, 1)] [some (.ref a0), some (.int x1)] [.int 0] (by decide +kernel) rfl ?_
      exact i_ri (by decide +kernel) rfl
    · refine i_bl (pc' := 11) [(.aload_n 0, 1)] [some (.ref a0), some (.int x1)] [.ref a0] (by decide +kernel) rfl ?_
      refine i_gr (idx := 9) (ci := 7) (k := 0) (t := 2) (p := 12017) (pc' := 14) (by decide +kernel) h0 ?_
      refine i_bl (pc' := 15) [(.iload_n 1, 1)] [some (.ref a0), some (.int x1)] [.int x1, .ref (sh_r a0 0)] (by decide +kernel) rfl ?_
      refine i_al (pc' := 16) (by decide +kernel) (o_7_0 hN h0) ?_
      refine i_go (t := 20) (off := 4) (by decide +kernel) ?_
      exact i_ri (by decide +kernel) rfl

/-! 96 LanternChess$SetupText.hasRoom()Z -/
noncomputable def d_96 (a0 : Nat) (m : Mm) : Option Bool := if 600 < ((m a0 1) + 20) then (some false) else (some true)
theorem t_96 {L nx : Nat} (hN : okn nx) {b z : Nat} {m : Mm} {a0 : Nat} (h0 : ok nx a0 8)   : Im (d_96 a0 m) (kZ L nx m) (ev_dn b z 96 0 [some (.ref a0)] [] (nx, mem L nx m)) := by
  unfold d_96
  refine i_bl (pc' := 1) [(.aload_n 0, 1)] [some (.ref a0)] [.ref a0] (by decide +kernel) rfl ?_
  refine i_gf (idx := 15) (ci := 8) (k := 1) (t := 0) (p := 11046) (pc' := 4) (by decide +kernel) h0 ?_
  refine i_bl (pc' := 10) [(.bipush (20), 2), (.iadd, 1), (.sipush (600), 3)] [some (.ref a0)] [.int 600, .int ((m a0 1) + 20)] (by decide +kernel) rfl ?_
  refine i_ic (c := .gt) (off := 7) (t := 17) (pc' := 13) (p := 600 < ((m a0 1) + 20)) (by decide +kernel) rfl ?_ ?_
  · refine i_bl (pc' := 18) [(.iconst 0, 1)] [some (.ref a0)] [.int 0] (by decide +kernel) rfl ?_
    exact i_rz (B := false) (by decide +kernel) rfl
  · refine i_bl (pc' := 14) [(.iconst 1, 1)] [some (.ref a0)] [.int 1] (by decide +kernel) rfl ?_
    refine i_go (t := 18) (off := 4) (by decide +kernel) ?_
    exact i_rz (B := true) (by decide +kernel) rfl

/-! 97 LanternChess$SetupText.append(I)V -/
noncomputable def E_97_3 (L nx b z : Nat) (a0 : Nat) (x1 : Int32) (d : Unit) (s : (Int32 × Mm)) : ev_Q := ev_dn b z 97 3 [some (.ref a0), some (.int x1), some (.int s.1)] [] (nx, mem L nx s.2)
noncomputable def s_97_3 (a0 : Nat) (x1 : Int32) (x2 : Int32) (m : Mm) : Option ((Int32 × Mm) ⊕ Mm) := if x2 < 0 then (some (.inr m)) else (if (m a0 1) < 0 then (wb (x2 + (-8)) fun y1 => some (.inl (y1, m))) else (if 600 ≤ (m a0 1) then (wb (x2 + (-8)) fun y2 => some (.inl (y2, m))) else (if ev_in (m a0 1) (sh_n (sh_r a0 0)) = true then (wb (wr m (sh_r a0 0) (ix (m a0 1)) ((x1 >>> (x2 &&& (31 : Int32))).toInt8.toInt32).toInt8.toInt32) fun m3 => wb (wr m3 a0 1 ((m3 a0 1) + 1)) fun m4 => wb (x2 + (-8)) fun y5 => some (.inl (y5, m4))) else none)))
noncomputable def d_97_3 (a0 : Nat) (x1 : Int32) (x2 : Int32) (m : Mm) : Option Mm := it (fun s => s_97_3 a0 x1 s.1 s.2) (x2, m)
theorem e_97_3 (a0 : Nat) (x1 : Int32) (x2 : Int32) (m : Mm) : d_97_3 a0 x1 x2 m = oi (s_97_3 a0 x1 x2 m) (fun s => d_97_3 a0 x1 s.1 s.2) := it_eq _
theorem u_97_3 {L nx : Nat} (hN : okn nx) {b z : Nat} {m : Mm} {a0 : Nat} (h0 : ok nx a0 8) {x1 : Int32} {x2 : Int32}  : Im (s_97_3 a0 x1 x2 m) (kL (wV L nx) (E_97_3 L nx b z a0 x1)) (ev_dn b z 97 3 [some (.ref a0), some (.int x1), some (.int x2)] [] (nx, mem L nx m)) := by
  unfold s_97_3
  refine i_bl (pc' := 4) [(.iload_n 2, 1)] [some (.ref a0), some (.int x1), some (.int x2)] [.int x2] (by decide +kernel) rfl ?_
  refine i_if (c := .lt) (off := 49) (t := 53) (pc' := 7) (p := x2 < 0) (by decide +kernel) rfl ?_ ?_
  · exact i_ir (i_rv (by decide +kernel) rfl)
  · refine i_bl (pc' := 8) [(.aload_n 0, 1)] [some (.ref a0), some (.int x1), some (.int x2)] [.ref a0] (by decide +kernel) rfl ?_
    refine i_gf (idx := 15) (ci := 8) (k := 1) (t := 0) (p := 11046) (pc' := 11) (by decide +kernel) h0 ?_
    refine i_if (c := .lt) (off := 36) (t := 47) (pc' := 14) (p := (m a0 1) < 0) (by decide +kernel) rfl ?_ ?_
    · refine i_bl (pc' := 50) [(.iinc 2 (-8), 3)] [some (.ref a0), some (.int x1), some (.int (x2 + (-8)))] [] (by decide +kernel) rfl ?_
      refine i_wb (fun y1 => ev_dn b z 97 50 [some (.ref a0), some (.int x1), some (.int y1)] [] (nx, mem L nx m)) (fun y1 => ?_)
      refine i_go (t := 3) (off := -47) (by decide +kernel) ?_
      exact i_co () rfl
    · refine i_bl (pc' := 15) [(.aload_n 0, 1)] [some (.ref a0), some (.int x1), some (.int x2)] [.ref a0] (by decide +kernel) rfl ?_
      refine i_gf (idx := 15) (ci := 8) (k := 1) (t := 0) (p := 11046) (pc' := 18) (by decide +kernel) h0 ?_
      refine i_bl (pc' := 21) [(.sipush (600), 3)] [some (.ref a0), some (.int x1), some (.int x2)] [.int 600, .int (m a0 1)] (by decide +kernel) rfl ?_
      refine i_ic (c := .ge) (off := 26) (t := 47) (pc' := 24) (p := 600 ≤ (m a0 1)) (by decide +kernel) rfl ?_ ?_
      · refine i_bl (pc' := 50) [(.iinc 2 (-8), 3)] [some (.ref a0), some (.int x1), some (.int (x2 + (-8)))] [] (by decide +kernel) rfl ?_
        refine i_wb (fun y2 => ev_dn b z 97 50 [some (.ref a0), some (.int x1), some (.int y2)] [] (nx, mem L nx m)) (fun y2 => ?_)
        refine i_go (t := 3) (off := -47) (by decide +kernel) ?_
        exact i_co () rfl
      · refine i_bl (pc' := 25) [(.aload_n 0, 1)] [some (.ref a0), some (.int x1), some (.int x2)] [.ref a0] (by decide +kernel) rfl ?_
        refine i_gr (idx := 9) (ci := 8) (k := 0) (t := 2) (p := 11045) (pc' := 28) (by decide +kernel) h0 ?_
        refine i_bl (pc' := 29) [(.aload_n 0, 1)] [some (.ref a0), some (.int x1), some (.int x2)] [.ref a0, .ref (sh_r a0 0)] (by decide +kernel) rfl ?_
        refine i_gf (idx := 15) (ci := 8) (k := 1) (t := 0) (p := 11046) (pc' := 32) (by decide +kernel) h0 ?_
        refine i_bl (pc' := 36) [(.iload_n 1, 1), (.iload_n 2, 1), (.ishr, 1), (.i2b, 1)] [some (.ref a0), some (.int x1), some (.int x2)] [.int ((x1 >>> (x2 &&& (31 : Int32))).toInt8.toInt32), .int (m a0 1), .ref (sh_r a0 0)] (by decide +kernel) rfl ?_
        refine i_bs (y := ((x1 >>> (x2 &&& (31 : Int32))).toInt8.toInt32)) (pc' := 37) (by decide +kernel) (o_8_0 hN h0) (fun m3 => ?_)
        refine i_bl (pc' := 39) [(.aload_n 0, 1), (.dup, 1)] [some (.ref a0), some (.int x1), some (.int x2)] [.ref a0, .ref a0] (by decide +kernel) rfl ?_
        refine i_gf (idx := 15) (ci := 8) (k := 1) (t := 0) (p := 11046) (pc' := 42) (by decide +kernel) h0 ?_
        refine i_bl (pc' := 44) [(.iconst 1, 1), (.iadd, 1)] [some (.ref a0), some (.int x1), some (.int x2)] [.int ((m3 a0 1) + 1), .ref a0] (by decide +kernel) rfl ?_
        refine i_pf (x := ((m3 a0 1) + 1)) (idx := 15) (ci := 8) (k := 1) (p := 11046) (pc' := 47) (by decide +kernel) h0 (fun m4 => ?_)
        refine i_bl (pc' := 50) [(.iinc 2 (-8), 3)] [some (.ref a0), some (.int x1), some (.int (x2 + (-8)))] [] (by decide +kernel) rfl ?_
        refine i_wb (fun y5 => ev_dn b z 97 50 [some (.ref a0), some (.int x1), some (.int y5)] [] (nx, mem L nx m4)) (fun y5 => ?_)
        refine i_go (t := 3) (off := -47) (by decide +kernel) ?_
        exact i_co () rfl

theorem t_97_3 {L nx : Nat} (hN : okn nx) {b z : Nat} {m : Mm} {a0 : Nat} (h0 : ok nx a0 8) {x1 : Int32} {x2 : Int32}  : Im (d_97_3 a0 x1 x2 m) (wV L nx) (ev_dn b z 97 3 [some (.ref a0), some (.int x1), some (.int x2)] [] (nx, mem L nx m)) := by
  exact i_it (f := fun s => s_97_3 a0 x1 s.1 s.2) (E := E_97_3 L nx b z a0 x1) (K := (wV L nx)) (fun d s => u_97_3 hN (h0 := h0)) () (x2, m)
noncomputable def d_97 (a0 : Nat) (x1 : Int32) (m : Mm) : Option Mm := d_97_3 a0 x1 24 m
theorem t_97 {L nx : Nat} (hN : okn nx) {b z : Nat} {m : Mm} {a0 : Nat} (h0 : ok nx a0 8) {x1 : Int32}  : Im (d_97 a0 x1 m) (wV L nx) (ev_dn b z 97 0 [some (.ref a0), some (.int x1), none] [] (nx, mem L nx m)) := by
  unfold d_97
  refine i_bl (pc' := 3) [(.bipush (24), 2), (.istore_n 2, 1)] [some (.ref a0), some (.int x1), some (.int 24)] [] (by decide +kernel) rfl ?_
  exact t_97_3 hN (h0 := h0)

/-! 112 LanternChess$SetupText.byteAt(I)I -/
noncomputable def d_112 (a0 : Nat) (x1 : Int32) (m : Mm) : Option Int32 := if x1 < 0 then (some (-1)) else (if (m a0 1) ≤ x1 then (some (-1)) else (if 600 ≤ x1 then (some (-1)) else (if ev_in x1 (sh_n (sh_r a0 0)) = true then (some (m (sh_r a0 0) (ix x1))) else none)))
theorem t_112 {L nx : Nat} (hN : okn nx) {b z : Nat} {m : Mm} {a0 : Nat} (h0 : ok nx a0 8) {x1 : Int32}  : Im (d_112 a0 x1 m) (kI L nx m) (ev_dn b z 112 0 [some (.ref a0), some (.int x1)] [] (nx, mem L nx m)) := by
  unfold d_112
  refine i_bl (pc' := 1) [(.iload_n 1, 1)] [some (.ref a0), some (.int x1)] [.int x1] (by decide +kernel) rfl ?_
  refine i_if (c := .lt) (off := 27) (t := 28) (pc' := 4) (p := x1 < 0) (by decide +kernel) rfl ?_ ?_
  · refine i_bl (pc' := 29) [(.iconst (-1), 1)] [some (.ref a0), some (.int x1)] [.int (-1)] (by decide +kernel) rfl ?_
    exact i_ri (by decide +kernel) rfl
  · refine i_bl (pc' := 6) [(.iload_n 1, 1), (.aload_n 0, 1)] [some (.ref a0), some (.int x1)] [.ref a0, .int x1] (by decide +kernel) rfl ?_
    refine i_gf (idx := 15) (ci := 8) (k := 1) (t := 0) (p := 11046) (pc' := 9) (by decide +kernel) h0 ?_
    refine i_ic (c := .ge) (off := 19) (t := 28) (pc' := 12) (p := (m a0 1) ≤ x1) (by decide +kernel) rfl ?_ ?_
    · refine i_bl (pc' := 29) [(.iconst (-1), 1)] [some (.ref a0), some (.int x1)] [.int (-1)] (by decide +kernel) rfl ?_
      exact i_ri (by decide +kernel) rfl
    · refine i_bl (pc' := 16) [(.iload_n 1, 1), (.sipush (600), 3)] [some (.ref a0), some (.int x1)] [.int 600, .int x1] (by decide +kernel) rfl ?_
      refine i_ic (c := .ge) (off := 12) (t := 28) (pc' := 19) (p := 600 ≤ x1) (by decide +kernel) rfl ?_ ?_
      · refine i_bl (pc' := 29) [(.iconst (-1), 1)] [some (.ref a0), some (.int x1)] [.int (-1)] (by decide +kernel) rfl ?_
        exact i_ri (by decide +kernel) rfl
      · refine i_bl (pc' := 20) [(.aload_n 0, 1)] [some (.ref a0), some (.int x1)] [.ref a0] (by decide +kernel) rfl ?_
        refine i_gr (idx := 9) (ci := 8) (k := 0) (t := 2) (p := 11045) (pc' := 23) (by decide +kernel) h0 ?_
        refine i_bl (pc' := 24) [(.iload_n 1, 1)] [some (.ref a0), some (.int x1)] [.int x1, .ref (sh_r a0 0)] (by decide +kernel) rfl ?_
        refine i_ba (pc' := 25) (by decide +kernel) (o_8_0 hN h0) ?_
        refine i_go (t := 29) (off := 4) (by decide +kernel) ?_
        exact i_ri (by decide +kernel) rfl

/-! 113 LanternChess$SetupText.isLetter(I)Z -/
noncomputable def d_113 (x0 : Int32) : Option Bool := if x0 < 97 then (some false) else (if 122 < x0 then (some false) else (some true))
theorem t_113 {L nx : Nat} (hN : okn nx) {b z : Nat} {m : Mm}  {x0 : Int32}  : Im (d_113 x0) (kZ L nx m) (ev_dn b z 113 0 [some (.int x0)] [] (nx, mem L nx m)) := by
  unfold d_113
  refine i_bl (pc' := 3) [(.iload_n 0, 1), (.bipush (97), 2)] [some (.int x0)] [.int 97, .int x0] (by decide +kernel) rfl ?_
  refine i_ic (c := .lt) (off := 13) (t := 16) (pc' := 6) (p := x0 < 97) (by decide +kernel) rfl ?_ ?_
  · refine i_bl (pc' := 17) [(.iconst 0, 1)] [some (.int x0)] [.int 0] (by decide +kernel) rfl ?_
    exact i_rz (B := false) (by decide +kernel) rfl
  · refine i_bl (pc' := 9) [(.iload_n 0, 1), (.bipush (122), 2)] [some (.int x0)] [.int 122, .int x0] (by decide +kernel) rfl ?_
    refine i_ic (c := .gt) (off := 7) (t := 16) (pc' := 12) (p := 122 < x0) (by decide +kernel) rfl ?_ ?_
    · refine i_bl (pc' := 17) [(.iconst 0, 1)] [some (.int x0)] [.int 0] (by decide +kernel) rfl ?_
      exact i_rz (B := false) (by decide +kernel) rfl
    · refine i_bl (pc' := 13) [(.iconst 1, 1)] [some (.int x0)] [.int 1] (by decide +kernel) rfl ?_
      refine i_go (t := 17) (off := 4) (by decide +kernel) ?_
      exact i_rz (B := true) (by decide +kernel) rfl

/-! 114 LanternChess$SetupText.isDigit(I)Z -/
noncomputable def d_114 (x0 : Int32) : Option Bool := if x0 < 48 then (some false) else (if 57 < x0 then (some false) else (some true))
theorem t_114 {L nx : Nat} (hN : okn nx) {b z : Nat} {m : Mm}  {x0 : Int32}  : Im (d_114 x0) (kZ L nx m) (ev_dn b z 114 0 [some (.int x0)] [] (nx, mem L nx m)) := by
  unfold d_114
  refine i_bl (pc' := 3) [(.iload_n 0, 1), (.bipush (48), 2)] [some (.int x0)] [.int 48, .int x0] (by decide +kernel) rfl ?_
  refine i_ic (c := .lt) (off := 13) (t := 16) (pc' := 6) (p := x0 < 48) (by decide +kernel) rfl ?_ ?_
  · refine i_bl (pc' := 17) [(.iconst 0, 1)] [some (.int x0)] [.int 0] (by decide +kernel) rfl ?_
    exact i_rz (B := false) (by decide +kernel) rfl
  · refine i_bl (pc' := 9) [(.iload_n 0, 1), (.bipush (57), 2)] [some (.int x0)] [.int 57, .int x0] (by decide +kernel) rfl ?_
    refine i_ic (c := .gt) (off := 7) (t := 16) (pc' := 12) (p := 57 < x0) (by decide +kernel) rfl ?_ ?_
    · refine i_bl (pc' := 17) [(.iconst 0, 1)] [some (.int x0)] [.int 0] (by decide +kernel) rfl ?_
      exact i_rz (B := false) (by decide +kernel) rfl
    · refine i_bl (pc' := 13) [(.iconst 1, 1)] [some (.int x0)] [.int 1] (by decide +kernel) rfl ?_
      refine i_go (t := 17) (off := 4) (by decide +kernel) ?_
      exact i_rz (B := true) (by decide +kernel) rfl

/-! 111 LanternChess$SetupText.takeToken()V -/
noncomputable def E_111_8 (L nx b z : Nat) (a0 : Nat) (d : Unit) (s : (Mm)) : ev_Q := ev_dn b z 111 8 [some (.ref a0)] [] (nx, mem L nx s)
noncomputable def d_111_238 (a0 : Nat) (s0 : Nat) (s1 : Int32) (m : Mm) : Option Mm := wb (wr m s0 7 s1) fun m8 => wb (wr m8 a0 6 ((m8 a0 6) + 1)) fun m9 => some m9
theorem t_111_238 {L nx : Nat} (hN : okn nx) {b z : Nat} {m : Mm} {a0 : Nat} (h0 : ok nx a0 8) {s0 : Nat} (hs0 : ok nx s0 8) {s1 : Int32}  : Im (d_111_238 a0 s0 s1 m) (wV L nx) (ev_dn b z 111 238 [some (.ref a0)] [.int s1, .ref s0] (nx, mem L nx m)) := by
  unfold d_111_238
  refine i_pf (x := s1) (idx := 34) (ci := 8) (k := 7) (p := 11055) (pc' := 241) (by decide +kernel) hs0 (fun m8 => ?_)
  refine i_bl (pc' := 243) [(.aload_n 0, 1), (.dup, 1)] [some (.ref a0)] [.ref a0, .ref a0] (by decide +kernel) rfl ?_
  refine i_gf (idx := 31) (ci := 8) (k := 6) (t := 0) (p := 11054) (pc' := 246) (by decide +kernel) h0 ?_
  refine i_bl (pc' := 248) [(.iconst 1, 1), (.iadd, 1)] [some (.ref a0)] [.int ((m8 a0 6) + 1), .ref a0] (by decide +kernel) rfl ?_
  refine i_pf (x := ((m8 a0 6) + 1)) (idx := 31) (ci := 8) (k := 6) (p := 11054) (pc' := 251) (by decide +kernel) h0 (fun m9 => ?_)
  exact i_rv (by decide +kernel) rfl

noncomputable def E_111_156 (L nx b z : Nat) (a0 : Nat) (d : Unit) (s : (Mm)) : ev_Q := ev_dn b z 111 156 [some (.ref a0)] [] (nx, mem L nx s)
noncomputable def d_111_213 (s0 : Nat) (s1 : Int32) (m : Mm) : Option Mm := wb (wr m s0 7 s1) fun m10 => some m10
theorem t_111_213 {L nx : Nat} (hN : okn nx) {b z : Nat} {m : Mm} {s0 : Nat} (hs0 : ok nx s0 8) {s1 : Int32} {o0 : Option Value} : Im (d_111_213 s0 s1 m) (wV L nx) (ev_dn b z 111 213 [o0] [.int s1, .ref s0] (nx, mem L nx m)) := by
  unfold d_111_213
  refine i_pf (x := s1) (idx := 34) (ci := 8) (k := 7) (p := 11055) (pc' := 216) (by decide +kernel) hs0 (fun m10 => ?_)
  refine i_go (t := 251) (off := 35) (by decide +kernel) ?_
  exact i_rv (by decide +kernel) rfl

noncomputable def d_111_194 (a0 : Nat) (m : Mm) : Option Mm := if ((m a0 6) - (m a0 8)) ≤ 4 then (d_111_213 a0 2 m) else (d_111_213 a0 4 m)
theorem t_111_194 {L nx : Nat} (hN : okn nx) {b z : Nat} {m : Mm} {a0 : Nat} (h0 : ok nx a0 8)   : Im (d_111_194 a0 m) (wV L nx) (ev_dn b z 111 194 [some (.ref a0)] [] (nx, mem L nx m)) := by
  unfold d_111_194
  refine i_bl (pc' := 196) [(.aload_n 0, 1), (.aload_n 0, 1)] [some (.ref a0)] [.ref a0, .ref a0] (by decide +kernel) rfl ?_
  refine i_gf (idx := 31) (ci := 8) (k := 6) (t := 0) (p := 11054) (pc' := 199) (by decide +kernel) h0 ?_
  refine i_bl (pc' := 200) [(.aload_n 0, 1)] [some (.ref a0)] [.ref a0, .int (m a0 6), .ref a0] (by decide +kernel) rfl ?_
  refine i_gf (idx := 37) (ci := 8) (k := 8) (t := 0) (p := 11056) (pc' := 203) (by decide +kernel) h0 ?_
  refine i_bl (pc' := 205) [(.isub, 1), (.iconst 4, 1)] [some (.ref a0)] [.int 4, .int ((m a0 6) - (m a0 8)), .ref a0] (by decide +kernel) rfl ?_
  refine i_ic (c := .le) (off := 7) (t := 212) (pc' := 208) (p := ((m a0 6) - (m a0 8)) ≤ 4) (by decide +kernel) rfl ?_ ?_
  · refine i_bl (pc' := 213) [(.iconst 2, 1)] [some (.ref a0)] [.int 2, .ref a0] (by decide +kernel) rfl ?_
    exact t_111_213 hN (hs0 := h0)
  · refine i_bl (pc' := 209) [(.iconst 4, 1)] [some (.ref a0)] [.int 4, .ref a0] (by decide +kernel) rfl ?_
    refine i_go (t := 213) (off := 4) (by decide +kernel) ?_
    exact t_111_213 hN (hs0 := h0)

noncomputable def s_111_156 (a0 : Nat) (m : Mm) : Option ((Mm) ⊕ Mm) := if (m a0 1) ≤ (m a0 6) then ((d_111_194 a0 m).map Sum.inr) else ((d_112 a0 (m a0 6) m).bind fun v11 => (d_114 v11).bind fun v12 => if v12 = true then (wb (wr m a0 6 ((m a0 6) + 1)) fun m13 => some (.inl (m13))) else ((d_111_194 a0 m).map Sum.inr))
noncomputable def d_111_156 (a0 : Nat) (m : Mm) : Option Mm := it (fun s => s_111_156 a0 s) (m)
theorem e_111_156 (a0 : Nat) (m : Mm) : d_111_156 a0 m = oi (s_111_156 a0 m) (fun s => d_111_156 a0 s) := it_eq _
theorem u_111_156 {L nx : Nat} (hN : okn nx) {b z : Nat} {m : Mm} {a0 : Nat} (h0 : ok nx a0 8)   : Im (s_111_156 a0 m) (kL (wV L nx) (E_111_156 L nx b z a0)) (ev_dn b z 111 156 [some (.ref a0)] [] (nx, mem L nx m)) := by
  unfold s_111_156
  refine i_bl (pc' := 157) [(.aload_n 0, 1)] [some (.ref a0)] [.ref a0] (by decide +kernel) rfl ?_
  refine i_gf (idx := 31) (ci := 8) (k := 6) (t := 0) (p := 11054) (pc' := 160) (by decide +kernel) h0 ?_
  refine i_bl (pc' := 161) [(.aload_n 0, 1)] [some (.ref a0)] [.ref a0, .int (m a0 6)] (by decide +kernel) rfl ?_
  refine i_gf (idx := 15) (ci := 8) (k := 1) (t := 0) (p := 11046) (pc' := 164) (by decide +kernel) h0 ?_
  refine i_ic (c := .ge) (off := 30) (t := 194) (pc' := 167) (p := (m a0 1) ≤ (m a0 6)) (by decide +kernel) rfl ?_ ?_
  · exact i_mr (t_111_194 hN (h0 := h0))
  · refine i_bl (pc' := 169) [(.aload_n 0, 1), (.aload_n 0, 1)] [some (.ref a0)] [.ref a0, .ref a0] (by decide +kernel) rfl ?_
    refine i_gf (idx := 31) (ci := 8) (k := 6) (t := 0) (p := 11054) (pc' := 172) (by decide +kernel) h0 ?_
    refine i_cv (ci := 8) (t := 112) (na := 2) (ml := 2) (idx := 178) (pc' := 175) (st' := []) (en := [some (.ref a0), some (.int (m a0 6))]) (av := [.int (m a0 6)]) (vo := fun v => some (.int v)) (mo := fun _ => m) (s2 := fun v => .int v :: []) (by decide +kernel) (by decide +kernel) h0 ⟨rfl, rfl, rfl, rfl, rfl, rfl⟩ (fun _ => rfl) (t_112 hN (h0 := h0)) (fun v11 => ?_)
    refine i_cs (t := 114) (na := 1) (ml := 1) (idx := 192) (pc' := 178) (st' := []) (en := [some (.int v11)]) (av := [.int v11]) (vo := fun v => some (.int (bi v))) (mo := fun _ => m) (s2 := fun v => .int (bi v) :: []) (by decide +kernel) ⟨rfl, rfl, rfl, rfl, rfl, rfl⟩ (fun _ => rfl) (t_114 hN ) (fun v12 => ?_)
    refine i_bz (off := 16) (t := 194) (pc' := 181) (by decide +kernel) ?_ ?_
    · refine i_bl (pc' := 183) [(.aload_n 0, 1), (.dup, 1)] [some (.ref a0)] [.ref a0, .ref a0] (by decide +kernel) rfl ?_
      refine i_gf (idx := 31) (ci := 8) (k := 6) (t := 0) (p := 11054) (pc' := 186) (by decide +kernel) h0 ?_
      refine i_bl (pc' := 188) [(.iconst 1, 1), (.iadd, 1)] [some (.ref a0)] [.int ((m a0 6) + 1), .ref a0] (by decide +kernel) rfl ?_
      refine i_pf (x := ((m a0 6) + 1)) (idx := 31) (ci := 8) (k := 6) (p := 11054) (pc' := 191) (by decide +kernel) h0 (fun m13 => ?_)
      refine i_go (t := 156) (off := -35) (by decide +kernel) ?_
      exact i_co () rfl
    · exact i_mr (t_111_194 hN (h0 := h0))

theorem t_111_156 {L nx : Nat} (hN : okn nx) {b z : Nat} {m : Mm} {a0 : Nat} (h0 : ok nx a0 8)   : Im (d_111_156 a0 m) (wV L nx) (ev_dn b z 111 156 [some (.ref a0)] [] (nx, mem L nx m)) := by
  exact i_it (f := fun s => s_111_156 a0 s) (E := E_111_156 L nx b z a0) (K := (wV L nx)) (fun d s => u_111_156 hN (h0 := h0)) () (m)
noncomputable def E_111_104 (L nx b z : Nat) (a0 : Nat) (d : Unit) (s : (Mm)) : ev_Q := ev_dn b z 111 104 [some (.ref a0)] [] (nx, mem L nx s)
noncomputable def s_111_104 (a0 : Nat) (m : Mm) : Option ((Mm) ⊕ Mm) := if (m a0 1) ≤ (m a0 6) then (some (.inr m)) else ((d_112 a0 (m a0 6) m).bind fun v15 => (d_113 v15).bind fun v16 => if v16 = true then (wb (wr m a0 6 ((m a0 6) + 1)) fun m17 => some (.inl (m17))) else (some (.inr m)))
noncomputable def d_111_104 (a0 : Nat) (m : Mm) : Option Mm := it (fun s => s_111_104 a0 s) (m)
theorem e_111_104 (a0 : Nat) (m : Mm) : d_111_104 a0 m = oi (s_111_104 a0 m) (fun s => d_111_104 a0 s) := it_eq _
theorem u_111_104 {L nx : Nat} (hN : okn nx) {b z : Nat} {m : Mm} {a0 : Nat} (h0 : ok nx a0 8)   : Im (s_111_104 a0 m) (kL (wV L nx) (E_111_104 L nx b z a0)) (ev_dn b z 111 104 [some (.ref a0)] [] (nx, mem L nx m)) := by
  unfold s_111_104
  refine i_bl (pc' := 105) [(.aload_n 0, 1)] [some (.ref a0)] [.ref a0] (by decide +kernel) rfl ?_
  refine i_gf (idx := 31) (ci := 8) (k := 6) (t := 0) (p := 11054) (pc' := 108) (by decide +kernel) h0 ?_
  refine i_bl (pc' := 109) [(.aload_n 0, 1)] [some (.ref a0)] [.ref a0, .int (m a0 6)] (by decide +kernel) rfl ?_
  refine i_gf (idx := 15) (ci := 8) (k := 1) (t := 0) (p := 11046) (pc' := 112) (by decide +kernel) h0 ?_
  refine i_ic (c := .ge) (off := 139) (t := 251) (pc' := 115) (p := (m a0 1) ≤ (m a0 6)) (by decide +kernel) rfl ?_ ?_
  · exact i_ir (i_rv (by decide +kernel) rfl)
  · refine i_bl (pc' := 117) [(.aload_n 0, 1), (.aload_n 0, 1)] [some (.ref a0)] [.ref a0, .ref a0] (by decide +kernel) rfl ?_
    refine i_gf (idx := 31) (ci := 8) (k := 6) (t := 0) (p := 11054) (pc' := 120) (by decide +kernel) h0 ?_
    refine i_cv (ci := 8) (t := 112) (na := 2) (ml := 2) (idx := 178) (pc' := 123) (st' := []) (en := [some (.ref a0), some (.int (m a0 6))]) (av := [.int (m a0 6)]) (vo := fun v => some (.int v)) (mo := fun _ => m) (s2 := fun v => .int v :: []) (by decide +kernel) (by decide +kernel) h0 ⟨rfl, rfl, rfl, rfl, rfl, rfl⟩ (fun _ => rfl) (t_112 hN (h0 := h0)) (fun v15 => ?_)
    refine i_cs (t := 113) (na := 1) (ml := 1) (idx := 189) (pc' := 126) (st' := []) (en := [some (.int v15)]) (av := [.int v15]) (vo := fun v => some (.int (bi v))) (mo := fun _ => m) (s2 := fun v => .int (bi v) :: []) (by decide +kernel) ⟨rfl, rfl, rfl, rfl, rfl, rfl⟩ (fun _ => rfl) (t_113 hN ) (fun v16 => ?_)
    refine i_bz (off := 125) (t := 251) (pc' := 129) (by decide +kernel) ?_ ?_
    · refine i_bl (pc' := 131) [(.aload_n 0, 1), (.dup, 1)] [some (.ref a0)] [.ref a0, .ref a0] (by decide +kernel) rfl ?_
      refine i_gf (idx := 31) (ci := 8) (k := 6) (t := 0) (p := 11054) (pc' := 134) (by decide +kernel) h0 ?_
      refine i_bl (pc' := 136) [(.iconst 1, 1), (.iadd, 1)] [some (.ref a0)] [.int ((m a0 6) + 1), .ref a0] (by decide +kernel) rfl ?_
      refine i_pf (x := ((m a0 6) + 1)) (idx := 31) (ci := 8) (k := 6) (p := 11054) (pc' := 139) (by decide +kernel) h0 (fun m17 => ?_)
      refine i_go (t := 104) (off := -35) (by decide +kernel) ?_
      exact i_co () rfl
    · exact i_ir (i_rv (by decide +kernel) rfl)

theorem t_111_104 {L nx : Nat} (hN : okn nx) {b z : Nat} {m : Mm} {a0 : Nat} (h0 : ok nx a0 8)   : Im (d_111_104 a0 m) (wV L nx) (ev_dn b z 111 104 [some (.ref a0)] [] (nx, mem L nx m)) := by
  exact i_it (f := fun s => s_111_104 a0 s) (E := E_111_104 L nx b z a0) (K := (wV L nx)) (fun d s => u_111_104 hN (h0 := h0)) () (m)
noncomputable def d_111_58 (a0 : Nat) (m : Mm) : Option Mm := wb (wr m a0 8 (m a0 6)) fun m2 => if (m2 a0 6) < (m2 a0 1) then ((d_112 a0 (m2 a0 6) m2).bind fun v3 => (d_113 v3).bind fun v4 => if v4 = true then (wb (wr m2 a0 7 1) fun m14 => d_111_104 a0 m14) else ((d_112 a0 (m2 a0 6) m2).bind fun v5 => (d_114 v5).bind fun v6 => if v6 = true then (d_111_156 a0 m2) else ((d_112 a0 (m2 a0 6) m2).bind fun v7 => if ¬ v7 = 59 then (d_111_238 a0 a0 4 m2) else (d_111_238 a0 a0 3 m2)))) else (wb (wr m2 a0 7 0) fun m18 => some m18)
theorem t_111_58 {L nx : Nat} (hN : okn nx) {b z : Nat} {m : Mm} {a0 : Nat} (h0 : ok nx a0 8)   : Im (d_111_58 a0 m) (wV L nx) (ev_dn b z 111 58 [some (.ref a0)] [] (nx, mem L nx m)) := by
  unfold d_111_58
  refine i_bl (pc' := 60) [(.aload_n 0, 1), (.aload_n 0, 1)] [some (.ref a0)] [.ref a0, .ref a0] (by decide +kernel) rfl ?_
  refine i_gf (idx := 31) (ci := 8) (k := 6) (t := 0) (p := 11054) (pc' := 63) (by decide +kernel) h0 ?_
  refine i_pf (x := (m a0 6)) (idx := 37) (ci := 8) (k := 8) (p := 11056) (pc' := 66) (by decide +kernel) h0 (fun m2 => ?_)
  refine i_bl (pc' := 67) [(.aload_n 0, 1)] [some (.ref a0)] [.ref a0] (by decide +kernel) rfl ?_
  refine i_gf (idx := 31) (ci := 8) (k := 6) (t := 0) (p := 11054) (pc' := 70) (by decide +kernel) h0 ?_
  refine i_bl (pc' := 71) [(.aload_n 0, 1)] [some (.ref a0)] [.ref a0, .int (m2 a0 6)] (by decide +kernel) rfl ?_
  refine i_gf (idx := 15) (ci := 8) (k := 1) (t := 0) (p := 11046) (pc' := 74) (by decide +kernel) h0 ?_
  refine i_ic (c := .lt) (off := 11) (t := 85) (pc' := 77) (p := (m2 a0 6) < (m2 a0 1)) (by decide +kernel) rfl ?_ ?_
  · refine i_bl (pc' := 87) [(.aload_n 0, 1), (.aload_n 0, 1)] [some (.ref a0)] [.ref a0, .ref a0] (by decide +kernel) rfl ?_
    refine i_gf (idx := 31) (ci := 8) (k := 6) (t := 0) (p := 11054) (pc' := 90) (by decide +kernel) h0 ?_
    refine i_cv (ci := 8) (t := 112) (na := 2) (ml := 2) (idx := 178) (pc' := 93) (st' := []) (en := [some (.ref a0), some (.int (m2 a0 6))]) (av := [.int (m2 a0 6)]) (vo := fun v => some (.int v)) (mo := fun _ => m2) (s2 := fun v => .int v :: []) (by decide +kernel) (by decide +kernel) h0 ⟨rfl, rfl, rfl, rfl, rfl, rfl⟩ (fun _ => rfl) (t_112 hN (h0 := h0)) (fun v3 => ?_)
    refine i_cs (t := 113) (na := 1) (ml := 1) (idx := 189) (pc' := 96) (st' := []) (en := [some (.int v3)]) (av := [.int v3]) (vo := fun v => some (.int (bi v))) (mo := fun _ => m2) (s2 := fun v => .int (bi v) :: []) (by decide +kernel) ⟨rfl, rfl, rfl, rfl, rfl, rfl⟩ (fun _ => rfl) (t_113 hN ) (fun v4 => ?_)
    refine i_bz (off := 46) (t := 142) (pc' := 99) (by decide +kernel) ?_ ?_
    · refine i_bl (pc' := 101) [(.aload_n 0, 1), (.iconst 1, 1)] [some (.ref a0)] [.int 1, .ref a0] (by decide +kernel) rfl ?_
      refine i_pf (x := 1) (idx := 34) (ci := 8) (k := 7) (p := 11055) (pc' := 104) (by decide +kernel) h0 (fun m14 => ?_)
      exact t_111_104 hN (h0 := h0)
    · refine i_bl (pc' := 144) [(.aload_n 0, 1), (.aload_n 0, 1)] [some (.ref a0)] [.ref a0, .ref a0] (by decide +kernel) rfl ?_
      refine i_gf (idx := 31) (ci := 8) (k := 6) (t := 0) (p := 11054) (pc' := 147) (by decide +kernel) h0 ?_
      refine i_cv (ci := 8) (t := 112) (na := 2) (ml := 2) (idx := 178) (pc' := 150) (st' := []) (en := [some (.ref a0), some (.int (m2 a0 6))]) (av := [.int (m2 a0 6)]) (vo := fun v => some (.int v)) (mo := fun _ => m2) (s2 := fun v => .int v :: []) (by decide +kernel) (by decide +kernel) h0 ⟨rfl, rfl, rfl, rfl, rfl, rfl⟩ (fun _ => rfl) (t_112 hN (h0 := h0)) (fun v5 => ?_)
      refine i_cs (t := 114) (na := 1) (ml := 1) (idx := 192) (pc' := 153) (st' := []) (en := [some (.int v5)]) (av := [.int v5]) (vo := fun v => some (.int (bi v))) (mo := fun _ => m2) (s2 := fun v => .int (bi v) :: []) (by decide +kernel) ⟨rfl, rfl, rfl, rfl, rfl, rfl⟩ (fun _ => rfl) (t_114 hN ) (fun v6 => ?_)
      refine i_bz (off := 66) (t := 219) (pc' := 156) (by decide +kernel) ?_ ?_
      · exact t_111_156 hN (h0 := h0)
      · refine i_bl (pc' := 222) [(.aload_n 0, 1), (.aload_n 0, 1), (.aload_n 0, 1)] [some (.ref a0)] [.ref a0, .ref a0, .ref a0] (by decide +kernel) rfl ?_
        refine i_gf (idx := 31) (ci := 8) (k := 6) (t := 0) (p := 11054) (pc' := 225) (by decide +kernel) h0 ?_
        refine i_cv (ci := 8) (t := 112) (na := 2) (ml := 2) (idx := 178) (pc' := 228) (st' := [.ref a0]) (en := [some (.ref a0), some (.int (m2 a0 6))]) (av := [.int (m2 a0 6)]) (vo := fun v => some (.int v)) (mo := fun _ => m2) (s2 := fun v => .int v :: [.ref a0]) (by decide +kernel) (by decide +kernel) h0 ⟨rfl, rfl, rfl, rfl, rfl, rfl⟩ (fun _ => rfl) (t_112 hN (h0 := h0)) (fun v7 => ?_)
        refine i_bl (pc' := 230) [(.bipush (59), 2)] [some (.ref a0)] [.int 59, .int v7, .ref a0] (by decide +kernel) rfl ?_
        refine i_ic (c := .ne) (off := 7) (t := 237) (pc' := 233) (p := ¬ v7 = 59) (by decide +kernel) rfl ?_ ?_
        · refine i_bl (pc' := 238) [(.iconst 4, 1)] [some (.ref a0)] [.int 4, .ref a0] (by decide +kernel) rfl ?_
          exact t_111_238 hN (h0 := h0) (hs0 := h0)
        · refine i_bl (pc' := 234) [(.iconst 3, 1)] [some (.ref a0)] [.int 3, .ref a0] (by decide +kernel) rfl ?_
          refine i_go (t := 238) (off := 4) (by decide +kernel) ?_
          exact t_111_238 hN (h0 := h0) (hs0 := h0)
  · refine i_bl (pc' := 79) [(.aload_n 0, 1), (.iconst 0, 1)] [some (.ref a0)] [.int 0, .ref a0] (by decide +kernel) rfl ?_
    refine i_pf (x := 0) (idx := 34) (ci := 8) (k := 7) (p := 11055) (pc' := 82) (by decide +kernel) h0 (fun m18 => ?_)
    refine i_go (t := 251) (off := 169) (by decide +kernel) ?_
    exact i_rv (by decide +kernel) rfl

noncomputable def d_111_45 (a0 : Nat) (m : Mm) : Option ((Mm) ⊕ Mm) := wb (wr m a0 6 ((m a0 6) + 1)) fun m20 => some (.inl (m20))
theorem t_111_45 {L nx : Nat} (hN : okn nx) {b z : Nat} {m : Mm} {a0 : Nat} (h0 : ok nx a0 8)   : Im (d_111_45 a0 m) (kL (wV L nx) (E_111_8 L nx b z a0)) (ev_dn b z 111 45 [some (.ref a0)] [] (nx, mem L nx m)) := by
  unfold d_111_45
  refine i_bl (pc' := 47) [(.aload_n 0, 1), (.dup, 1)] [some (.ref a0)] [.ref a0, .ref a0] (by decide +kernel) rfl ?_
  refine i_gf (idx := 31) (ci := 8) (k := 6) (t := 0) (p := 11054) (pc' := 50) (by decide +kernel) h0 ?_
  refine i_bl (pc' := 52) [(.iconst 1, 1), (.iadd, 1)] [some (.ref a0)] [.int ((m a0 6) + 1), .ref a0] (by decide +kernel) rfl ?_
  refine i_pf (x := ((m a0 6) + 1)) (idx := 31) (ci := 8) (k := 6) (p := 11054) (pc' := 55) (by decide +kernel) h0 (fun m20 => ?_)
  refine i_go (t := 8) (off := -47) (by decide +kernel) ?_
  exact i_co () rfl

noncomputable def s_111_8 (a0 : Nat) (m : Mm) : Option ((Mm) ⊕ Mm) := if (m a0 1) ≤ (m a0 6) then ((d_111_58 a0 m).map Sum.inr) else ((d_112 a0 (m a0 6) m).bind fun v19 => if v19 = 32 then (d_111_45 a0 m) else ((d_112 a0 (m a0 6) m).bind fun v21 => if ¬ v21 = 10 then ((d_111_58 a0 m).map Sum.inr) else (d_111_45 a0 m)))
noncomputable def d_111_8 (a0 : Nat) (m : Mm) : Option Mm := it (fun s => s_111_8 a0 s) (m)
theorem e_111_8 (a0 : Nat) (m : Mm) : d_111_8 a0 m = oi (s_111_8 a0 m) (fun s => d_111_8 a0 s) := it_eq _
theorem u_111_8 {L nx : Nat} (hN : okn nx) {b z : Nat} {m : Mm} {a0 : Nat} (h0 : ok nx a0 8)   : Im (s_111_8 a0 m) (kL (wV L nx) (E_111_8 L nx b z a0)) (ev_dn b z 111 8 [some (.ref a0)] [] (nx, mem L nx m)) := by
  unfold s_111_8
  refine i_bl (pc' := 9) [(.aload_n 0, 1)] [some (.ref a0)] [.ref a0] (by decide +kernel) rfl ?_
  refine i_gf (idx := 31) (ci := 8) (k := 6) (t := 0) (p := 11054) (pc' := 12) (by decide +kernel) h0 ?_
  refine i_bl (pc' := 13) [(.aload_n 0, 1)] [some (.ref a0)] [.ref a0, .int (m a0 6)] (by decide +kernel) rfl ?_
  refine i_gf (idx := 15) (ci := 8) (k := 1) (t := 0) (p := 11046) (pc' := 16) (by decide +kernel) h0 ?_
  refine i_ic (c := .ge) (off := 42) (t := 58) (pc' := 19) (p := (m a0 1) ≤ (m a0 6)) (by decide +kernel) rfl ?_ ?_
  · exact i_mr (t_111_58 hN (h0 := h0))
  · refine i_bl (pc' := 21) [(.aload_n 0, 1), (.aload_n 0, 1)] [some (.ref a0)] [.ref a0, .ref a0] (by decide +kernel) rfl ?_
    refine i_gf (idx := 31) (ci := 8) (k := 6) (t := 0) (p := 11054) (pc' := 24) (by decide +kernel) h0 ?_
    refine i_cv (ci := 8) (t := 112) (na := 2) (ml := 2) (idx := 178) (pc' := 27) (st' := []) (en := [some (.ref a0), some (.int (m a0 6))]) (av := [.int (m a0 6)]) (vo := fun v => some (.int v)) (mo := fun _ => m) (s2 := fun v => .int v :: []) (by decide +kernel) (by decide +kernel) h0 ⟨rfl, rfl, rfl, rfl, rfl, rfl⟩ (fun _ => rfl) (t_112 hN (h0 := h0)) (fun v19 => ?_)
    refine i_bl (pc' := 29) [(.bipush (32), 2)] [some (.ref a0)] [.int 32, .int v19] (by decide +kernel) rfl ?_
    refine i_ic (c := .eq) (off := 16) (t := 45) (pc' := 32) (p := v19 = 32) (by decide +kernel) rfl ?_ ?_
    · exact t_111_45 hN (h0 := h0)
    · refine i_bl (pc' := 34) [(.aload_n 0, 1), (.aload_n 0, 1)] [some (.ref a0)] [.ref a0, .ref a0] (by decide +kernel) rfl ?_
      refine i_gf (idx := 31) (ci := 8) (k := 6) (t := 0) (p := 11054) (pc' := 37) (by decide +kernel) h0 ?_
      refine i_cv (ci := 8) (t := 112) (na := 2) (ml := 2) (idx := 178) (pc' := 40) (st' := []) (en := [some (.ref a0), some (.int (m a0 6))]) (av := [.int (m a0 6)]) (vo := fun v => some (.int v)) (mo := fun _ => m) (s2 := fun v => .int v :: []) (by decide +kernel) (by decide +kernel) h0 ⟨rfl, rfl, rfl, rfl, rfl, rfl⟩ (fun _ => rfl) (t_112 hN (h0 := h0)) (fun v21 => ?_)
      refine i_bl (pc' := 42) [(.bipush (10), 2)] [some (.ref a0)] [.int 10, .int v21] (by decide +kernel) rfl ?_
      refine i_ic (c := .ne) (off := 16) (t := 58) (pc' := 45) (p := ¬ v21 = 10) (by decide +kernel) rfl ?_ ?_
      · exact i_mr (t_111_58 hN (h0 := h0))
      · exact t_111_45 hN (h0 := h0)

theorem t_111_8 {L nx : Nat} (hN : okn nx) {b z : Nat} {m : Mm} {a0 : Nat} (h0 : ok nx a0 8)   : Im (d_111_8 a0 m) (wV L nx) (ev_dn b z 111 8 [some (.ref a0)] [] (nx, mem L nx m)) := by
  exact i_it (f := fun s => s_111_8 a0 s) (E := E_111_8 L nx b z a0) (K := (wV L nx)) (fun d s => u_111_8 hN (h0 := h0)) () (m)
noncomputable def d_111 (a0 : Nat) (m : Mm) : Option Mm := wb (wr m a0 9 (m a0 8)) fun m1 => d_111_8 a0 m1
theorem t_111 {L nx : Nat} (hN : okn nx) {b z : Nat} {m : Mm} {a0 : Nat} (h0 : ok nx a0 8)   : Im (d_111 a0 m) (wV L nx) (ev_dn b z 111 0 [some (.ref a0)] [] (nx, mem L nx m)) := by
  unfold d_111
  refine i_bl (pc' := 2) [(.aload_n 0, 1), (.aload_n 0, 1)] [some (.ref a0)] [.ref a0, .ref a0] (by decide +kernel) rfl ?_
  refine i_gf (idx := 37) (ci := 8) (k := 8) (t := 0) (p := 11056) (pc' := 5) (by decide +kernel) h0 ?_
  refine i_pf (x := (m a0 8)) (idx := 40) (ci := 8) (k := 9) (p := 11057) (pc' := 8) (by decide +kernel) h0 (fun m1 => ?_)
  exact t_111_8 hN (h0 := h0)

/-! 109 LanternChess$SetupText.isWord(Ljava/lang/String;)Z -/
noncomputable def E_109_28 (L nx b z : Nat) (a0 : Nat) (a1 : Nat) (m : Mm) (d : Unit) (s : (Int32)) : ev_Q := ev_dn b z 109 28 [some (.ref a0), some (.ref a1), some (.int s)] [] (nx, mem L nx m)
noncomputable def s_109_28 (a0 : Nat) (a1 : Nat) (m : Mm) (x2 : Int32) : Option ((Int32) ⊕ Bool) := if (Int32.ofNat (sh_n a1)) ≤ x2 then (some (.inr true)) else ((d_112 a0 ((m a0 8) + x2) m).bind fun v1 => if ev_in x2 (sh_n a1) = true then (if v1 = (m a1 (ix x2)) then (wb (x2 + 1) fun y2 => some (.inl (y2))) else (some (.inr false))) else none)
noncomputable def d_109_28 (a0 : Nat) (a1 : Nat) (m : Mm) (x2 : Int32) : Option Bool := it (fun s => s_109_28 a0 a1 m s) (x2)
theorem e_109_28 (a0 : Nat) (a1 : Nat) (m : Mm) (x2 : Int32) : d_109_28 a0 a1 m x2 = oi (s_109_28 a0 a1 m x2) (fun s => d_109_28 a0 a1 m s) := it_eq _
theorem u_109_28 {L nx : Nat} (hN : okn nx) {b z : Nat} {m : Mm} {a0 : Nat} (h0 : ok nx a0 8) {a1 : Nat} (h1 : ok nx a1 109) {x2 : Int32}  : Im (s_109_28 a0 a1 m x2) (kL (kZ L nx m) (E_109_28 L nx b z a0 a1 m)) (ev_dn b z 109 28 [some (.ref a0), some (.ref a1), some (.int x2)] [] (nx, mem L nx m)) := by
  unfold s_109_28
  refine i_bl (pc' := 30) [(.iload_n 2, 1), (.aload_n 1, 1)] [some (.ref a0), some (.ref a1), some (.int x2)] [.ref a1, .int x2] (by decide +kernel) rfl ?_
  refine i_sl (idx := 181) (pc' := 33) (by decide +kernel) rfl h1 ?_
  refine i_ic (c := .ge) (off := 29) (t := 62) (pc' := 36) (p := (Int32.ofNat (sh_n a1)) ≤ x2) (by decide +kernel) rfl ?_ ?_
  · refine i_bl (pc' := 63) [(.iconst 1, 1)] [some (.ref a0), some (.ref a1), some (.int x2)] [.int 1] (by decide +kernel) rfl ?_
    exact i_ir (i_rz (B := true) (by decide +kernel) rfl)
  · refine i_bl (pc' := 38) [(.aload_n 0, 1), (.aload_n 0, 1)] [some (.ref a0), some (.ref a1), some (.int x2)] [.ref a0, .ref a0] (by decide +kernel) rfl ?_
    refine i_gf (idx := 37) (ci := 8) (k := 8) (t := 0) (p := 11056) (pc' := 41) (by decide +kernel) h0 ?_
    refine i_bl (pc' := 43) [(.iload_n 2, 1), (.iadd, 1)] [some (.ref a0), some (.ref a1), some (.int x2)] [.int ((m a0 8) + x2), .ref a0] (by decide +kernel) rfl ?_
    refine i_cv (ci := 8) (t := 112) (na := 2) (ml := 2) (idx := 178) (pc' := 46) (st' := []) (en := [some (.ref a0), some (.int ((m a0 8) + x2))]) (av := [.int ((m a0 8) + x2)]) (vo := fun v => some (.int v)) (mo := fun _ => m) (s2 := fun v => .int v :: []) (by decide +kernel) (by decide +kernel) h0 ⟨rfl, rfl, rfl, rfl, rfl, rfl⟩ (fun _ => rfl) (t_112 hN (h0 := h0)) (fun v1 => ?_)
    refine i_bl (pc' := 48) [(.aload_n 1, 1), (.iload_n 2, 1)] [some (.ref a0), some (.ref a1), some (.int x2)] [.int x2, .ref a1, .int v1] (by decide +kernel) rfl ?_
    refine i_sx (idx := 185) (pc' := 51) (by decide +kernel) rfl h1 ?_
    refine i_ic (c := .eq) (off := 5) (t := 56) (pc' := 54) (p := v1 = (m a1 (ix x2))) (by decide +kernel) rfl ?_ ?_
    · refine i_bl (pc' := 59) [(.iinc 2 (1), 3)] [some (.ref a0), some (.ref a1), some (.int (x2 + 1))] [] (by decide +kernel) rfl ?_
      refine i_wb (fun y2 => ev_dn b z 109 59 [some (.ref a0), some (.ref a1), some (.int y2)] [] (nx, mem L nx m)) (fun y2 => ?_)
      refine i_go (t := 28) (off := -31) (by decide +kernel) ?_
      exact i_co () rfl
    · refine i_bl (pc' := 55) [(.iconst 0, 1)] [some (.ref a0), some (.ref a1), some (.int x2)] [.int 0] (by decide +kernel) rfl ?_
      exact i_ir (i_rz (B := false) (by decide +kernel) rfl)

theorem t_109_28 {L nx : Nat} (hN : okn nx) {b z : Nat} {m : Mm} {a0 : Nat} (h0 : ok nx a0 8) {a1 : Nat} (h1 : ok nx a1 109) {x2 : Int32}  : Im (d_109_28 a0 a1 m x2) (kZ L nx m) (ev_dn b z 109 28 [some (.ref a0), some (.ref a1), some (.int x2)] [] (nx, mem L nx m)) := by
  exact i_it (f := fun s => s_109_28 a0 a1 m s) (E := E_109_28 L nx b z a0 a1 m) (K := (kZ L nx m)) (fun d s => u_109_28 hN (h0 := h0) (h1 := h1)) () (x2)
noncomputable def d_109 (a0 : Nat) (a1 : Nat) (m : Mm) : Option Bool := if ¬ (m a0 7) = 1 then (some false) else (if ((m a0 6) - (m a0 8)) = (Int32.ofNat (sh_n a1)) then (d_109_28 a0 a1 m 0) else (some false))
theorem t_109 {L nx : Nat} (hN : okn nx) {b z : Nat} {m : Mm} {a0 : Nat} (h0 : ok nx a0 8) {a1 : Nat} (h1 : ok nx a1 109)   : Im (d_109 a0 a1 m) (kZ L nx m) (ev_dn b z 109 0 [some (.ref a0), some (.ref a1), none] [] (nx, mem L nx m)) := by
  unfold d_109
  refine i_bl (pc' := 1) [(.aload_n 0, 1)] [some (.ref a0), some (.ref a1), none] [.ref a0] (by decide +kernel) rfl ?_
  refine i_gf (idx := 34) (ci := 8) (k := 7) (t := 0) (p := 11055) (pc' := 4) (by decide +kernel) h0 ?_
  refine i_bl (pc' := 5) [(.iconst 1, 1)] [some (.ref a0), some (.ref a1), none] [.int 1, .int (m a0 7)] (by decide +kernel) rfl ?_
  refine i_ic (c := .ne) (off := 19) (t := 24) (pc' := 8) (p := ¬ (m a0 7) = 1) (by decide +kernel) rfl ?_ ?_
  · refine i_bl (pc' := 25) [(.iconst 0, 1)] [some (.ref a0), some (.ref a1), none] [.int 0] (by decide +kernel) rfl ?_
    exact i_rz (B := false) (by decide +kernel) rfl
  · refine i_bl (pc' := 9) [(.aload_n 0, 1)] [some (.ref a0), some (.ref a1), none] [.ref a0] (by decide +kernel) rfl ?_
    refine i_gf (idx := 31) (ci := 8) (k := 6) (t := 0) (p := 11054) (pc' := 12) (by decide +kernel) h0 ?_
    refine i_bl (pc' := 13) [(.aload_n 0, 1)] [some (.ref a0), some (.ref a1), none] [.ref a0, .int (m a0 6)] (by decide +kernel) rfl ?_
    refine i_gf (idx := 37) (ci := 8) (k := 8) (t := 0) (p := 11056) (pc' := 16) (by decide +kernel) h0 ?_
    refine i_bl (pc' := 18) [(.isub, 1), (.aload_n 1, 1)] [some (.ref a0), some (.ref a1), none] [.ref a1, .int ((m a0 6) - (m a0 8))] (by decide +kernel) rfl ?_
    refine i_sl (idx := 181) (pc' := 21) (by decide +kernel) rfl h1 ?_
    refine i_ic (c := .eq) (off := 5) (t := 26) (pc' := 24) (p := ((m a0 6) - (m a0 8)) = (Int32.ofNat (sh_n a1))) (by decide +kernel) rfl ?_ ?_
    · refine i_bl (pc' := 28) [(.iconst 0, 1), (.istore_n 2, 1)] [some (.ref a0), some (.ref a1), some (.int 0)] [] (by decide +kernel) rfl ?_
      exact t_109_28 hN (h0 := h0) (h1 := h1)
    · refine i_bl (pc' := 25) [(.iconst 0, 1)] [some (.ref a0), some (.ref a1), none] [.int 0] (by decide +kernel) rfl ?_
      exact i_rz (B := false) (by decide +kernel) rfl

/-! 110 LanternChess$SetupText.fail(II)V -/
noncomputable def d_110 (a0 : Nat) (x1 : Int32) (x2 : Int32) (m : Mm) : Option Mm := if ¬ (m a0 2) = 0 then (some m) else (wb (wr m a0 2 x1) fun m1 => wb (wr m1 a0 3 x2) fun m2 => some m2)
theorem t_110 {L nx : Nat} (hN : okn nx) {b z : Nat} {m : Mm} {a0 : Nat} (h0 : ok nx a0 8) {x1 : Int32} {x2 : Int32}  : Im (d_110 a0 x1 x2 m) (wV L nx) (ev_dn b z 110 0 [some (.ref a0), some (.int x1), some (.int x2)] [] (nx, mem L nx m)) := by
  unfold d_110
  refine i_bl (pc' := 1) [(.aload_n 0, 1)] [some (.ref a0), some (.int x1), some (.int x2)] [.ref a0] (by decide +kernel) rfl ?_
  refine i_gf (idx := 19) (ci := 8) (k := 2) (t := 0) (p := 11048) (pc' := 4) (by decide +kernel) h0 ?_
  refine i_if (c := .ne) (off := 13) (t := 17) (pc' := 7) (p := ¬ (m a0 2) = 0) (by decide +kernel) rfl ?_ ?_
  · exact i_rv (by decide +kernel) rfl
  · refine i_bl (pc' := 9) [(.aload_n 0, 1), (.iload_n 1, 1)] [some (.ref a0), some (.int x1), some (.int x2)] [.int x1, .ref a0] (by decide +kernel) rfl ?_
    refine i_pf (x := x1) (idx := 19) (ci := 8) (k := 2) (p := 11048) (pc' := 12) (by decide +kernel) h0 (fun m1 => ?_)
    refine i_bl (pc' := 14) [(.aload_n 0, 1), (.iload_n 2, 1)] [some (.ref a0), some (.int x1), some (.int x2)] [.int x2, .ref a0] (by decide +kernel) rfl ?_
    refine i_pf (x := x2) (idx := 22) (ci := 8) (k := 3) (p := 11050) (pc' := 17) (by decide +kernel) h0 (fun m2 => ?_)
    exact i_rv (by decide +kernel) rfl

/-! 105 LanternChess$SetupText.takeWord(Ljava/lang/String;)V -/
noncomputable def d_105_17 (a0 : Nat) (m : Mm) : Option Mm := (d_111 a0 m).bind fun m2 => some m2
theorem t_105_17 {L nx : Nat} (hN : okn nx) {b z : Nat} {m : Mm} {a0 : Nat} (h0 : ok nx a0 8)  {o1 : Option Value} : Im (d_105_17 a0 m) (wV L nx) (ev_dn b z 105 17 [some (.ref a0), o1] [] (nx, mem L nx m)) := by
  unfold d_105_17
  refine i_bl (pc' := 18) [(.aload_n 0, 1)] [some (.ref a0), o1] [.ref a0] (by decide +kernel) rfl ?_
  refine i_cv (ci := 8) (t := 111) (na := 1) (ml := 1) (idx := 43) (pc' := 21) (st' := []) (en := [some (.ref a0)]) (av := []) (vo := fun _ => none) (mo := fun m => m) (s2 := fun _ => []) (by decide +kernel) (by decide +kernel) h0 ⟨rfl, rfl, rfl, rfl, rfl, rfl⟩ (fun _ => rfl) (t_111 hN (h0 := h0)) (fun m2 => ?_)
  exact i_rv (by decide +kernel) rfl

noncomputable def d_105 (a0 : Nat) (a1 : Nat) (m : Mm) : Option Mm := (d_109 a0 a1 m).bind fun v1 => if v1 = true then (d_105_17 a0 m) else ((d_110 a0 1 (m a0 8) m).bind fun m3 => d_105_17 a0 m3)
theorem t_105 {L nx : Nat} (hN : okn nx) {b z : Nat} {m : Mm} {a0 : Nat} (h0 : ok nx a0 8) {a1 : Nat} (h1 : ok nx a1 109)   : Im (d_105 a0 a1 m) (wV L nx) (ev_dn b z 105 0 [some (.ref a0), some (.ref a1)] [] (nx, mem L nx m)) := by
  unfold d_105
  refine i_bl (pc' := 2) [(.aload_n 0, 1), (.aload_n 1, 1)] [some (.ref a0), some (.ref a1)] [.ref a1, .ref a0] (by decide +kernel) rfl ?_
  refine i_cv (ci := 8) (t := 109) (na := 2) (ml := 3) (idx := 74) (pc' := 5) (st' := []) (en := [some (.ref a0), some (.ref a1), none]) (av := [.ref a1]) (vo := fun v => some (.int (bi v))) (mo := fun _ => m) (s2 := fun v => .int (bi v) :: []) (by decide +kernel) (by decide +kernel) h0 ⟨rfl, rfl, rfl, rfl, rfl, rfl⟩ (fun _ => rfl) (t_109 hN (h0 := h0) (h1 := h1)) (fun v1 => ?_)
  refine i_bn (off := 12) (t := 17) (pc' := 8) (by decide +kernel) ?_ ?_
  · exact t_105_17 hN (h0 := h0)
  · refine i_bl (pc' := 11) [(.aload_n 0, 1), (.iconst 1, 1), (.aload_n 0, 1)] [some (.ref a0), some (.ref a1)] [.ref a0, .int 1, .ref a0] (by decide +kernel) rfl ?_
    refine i_gf (idx := 37) (ci := 8) (k := 8) (t := 0) (p := 11056) (pc' := 14) (by decide +kernel) h0 ?_
    refine i_cv (ci := 8) (t := 110) (na := 3) (ml := 3) (idx := 69) (pc' := 17) (st' := []) (en := [some (.ref a0), some (.int 1), some (.int (m a0 8))]) (av := [.int 1, .int (m a0 8)]) (vo := fun _ => none) (mo := fun m => m) (s2 := fun _ => []) (by decide +kernel) (by decide +kernel) h0 ⟨rfl, rfl, rfl, rfl, rfl, rfl⟩ (fun _ => rfl) (t_110 hN (h0 := h0)) (fun m3 => ?_)
    exact t_105_17 hN (h0 := h0)

/-! 108 LanternChess$SetupText.numberOfToken()I -/
noncomputable def E_108_7 (L nx b z : Nat) (a0 : Nat) (m : Mm) (d : Unit) (s : (Int32 × Int32)) : ev_Q := ev_dn b z 108 7 [some (.ref a0), some (.int s.1), some (.int s.2)] [] (nx, mem L nx m)
noncomputable def s_108_7 (a0 : Nat) (m : Mm) (x1 : Int32) (x2 : Int32) : Option ((Int32 × Int32) ⊕ Int32) := if (m a0 6) ≤ x2 then (some (.inr x1)) else ((d_112 a0 x2 m).bind fun v1 => wb (((10 * x1) + v1) - 48) fun y2 => wb (x2 + 1) fun y3 => some (.inl (y2, y3)))
noncomputable def d_108_7 (a0 : Nat) (m : Mm) (x1 : Int32) (x2 : Int32) : Option Int32 := it (fun s => s_108_7 a0 m s.1 s.2) (x1, x2)
theorem e_108_7 (a0 : Nat) (m : Mm) (x1 : Int32) (x2 : Int32) : d_108_7 a0 m x1 x2 = oi (s_108_7 a0 m x1 x2) (fun s => d_108_7 a0 m s.1 s.2) := it_eq _
theorem u_108_7 {L nx : Nat} (hN : okn nx) {b z : Nat} {m : Mm} {a0 : Nat} (h0 : ok nx a0 8) {x1 : Int32} {x2 : Int32}  : Im (s_108_7 a0 m x1 x2) (kL (kI L nx m) (E_108_7 L nx b z a0 m)) (ev_dn b z 108 7 [some (.ref a0), some (.int x1), some (.int x2)] [] (nx, mem L nx m)) := by
  unfold s_108_7
  refine i_bl (pc' := 9) [(.iload_n 2, 1), (.aload_n 0, 1)] [some (.ref a0), some (.int x1), some (.int x2)] [.ref a0, .int x2] (by decide +kernel) rfl ?_
  refine i_gf (idx := 31) (ci := 8) (k := 6) (t := 0) (p := 11054) (pc' := 12) (by decide +kernel) h0 ?_
  refine i_ic (c := .ge) (off := 23) (t := 35) (pc' := 15) (p := (m a0 6) ≤ x2) (by decide +kernel) rfl ?_ ?_
  · refine i_bl (pc' := 36) [(.iload_n 1, 1)] [some (.ref a0), some (.int x1), some (.int x2)] [.int x1] (by decide +kernel) rfl ?_
    exact i_ir (i_ri (by decide +kernel) rfl)
  · refine i_bl (pc' := 21) [(.bipush (10), 2), (.iload_n 1, 1), (.imul, 1), (.aload_n 0, 1), (.iload_n 2, 1)] [some (.ref a0), some (.int x1), some (.int x2)] [.int x2, .ref a0, .int (10 * x1)] (by decide +kernel) rfl ?_
    refine i_cv (ci := 8) (t := 112) (na := 2) (ml := 2) (idx := 178) (pc' := 24) (st' := [.int (10 * x1)]) (en := [some (.ref a0), some (.int x2)]) (av := [.int x2]) (vo := fun v => some (.int v)) (mo := fun _ => m) (s2 := fun v => .int v :: [.int (10 * x1)]) (by decide +kernel) (by decide +kernel) h0 ⟨rfl, rfl, rfl, rfl, rfl, rfl⟩ (fun _ => rfl) (t_112 hN (h0 := h0)) (fun v1 => ?_)
    refine i_bl (pc' := 29) [(.iadd, 1), (.bipush (48), 2), (.isub, 1), (.istore_n 1, 1)] [some (.ref a0), some (.int (((10 * x1) + v1) - 48)), some (.int x2)] [] (by decide +kernel) rfl ?_
    refine i_wb (fun y2 => ev_dn b z 108 29 [some (.ref a0), some (.int y2), some (.int x2)] [] (nx, mem L nx m)) (fun y2 => ?_)
    refine i_bl (pc' := 32) [(.iinc 2 (1), 3)] [some (.ref a0), some (.int y2), some (.int (x2 + 1))] [] (by decide +kernel) rfl ?_
    refine i_wb (fun y3 => ev_dn b z 108 32 [some (.ref a0), some (.int y2), some (.int y3)] [] (nx, mem L nx m)) (fun y3 => ?_)
    refine i_go (t := 7) (off := -25) (by decide +kernel) ?_
    exact i_co () rfl

theorem t_108_7 {L nx : Nat} (hN : okn nx) {b z : Nat} {m : Mm} {a0 : Nat} (h0 : ok nx a0 8) {x1 : Int32} {x2 : Int32}  : Im (d_108_7 a0 m x1 x2) (kI L nx m) (ev_dn b z 108 7 [some (.ref a0), some (.int x1), some (.int x2)] [] (nx, mem L nx m)) := by
  exact i_it (f := fun s => s_108_7 a0 m s.1 s.2) (E := E_108_7 L nx b z a0 m) (K := (kI L nx m)) (fun d s => u_108_7 hN (h0 := h0)) () (x1, x2)
noncomputable def d_108 (a0 : Nat) (m : Mm) : Option Int32 := d_108_7 a0 m 0 (m a0 8)
theorem t_108 {L nx : Nat} (hN : okn nx) {b z : Nat} {m : Mm} {a0 : Nat} (h0 : ok nx a0 8)   : Im (d_108 a0 m) (kI L nx m) (ev_dn b z 108 0 [some (.ref a0), none, none] [] (nx, mem L nx m)) := by
  unfold d_108
  refine i_bl (pc' := 3) [(.iconst 0, 1), (.istore_n 1, 1), (.aload_n 0, 1)] [some (.ref a0), some (.int 0), none] [.ref a0] (by decide +kernel) rfl ?_
  refine i_gf (idx := 37) (ci := 8) (k := 8) (t := 0) (p := 11056) (pc' := 6) (by decide +kernel) h0 ?_
  refine i_bl (pc' := 7) [(.istore_n 2, 1)] [some (.ref a0), some (.int 0), some (.int (m a0 8))] [] (by decide +kernel) rfl ?_
  exact t_108_7 hN (h0 := h0)

/-! 107 LanternChess$SetupText.takeNumber(II)I -/
noncomputable def d_107_48 (a0 : Nat) (x3 : Int32) (m : Mm) : Option (Int32 × Mm) := (d_111 a0 m).bind fun m3 => some (x3, m3)
theorem t_107_48 {L nx : Nat} (hN : okn nx) {b z : Nat} {m : Mm} {a0 : Nat} (h0 : ok nx a0 8) {x3 : Int32} {o1 : Option Value} {o2 : Option Value} : Im (d_107_48 a0 x3 m) (wI L nx) (ev_dn b z 107 48 [some (.ref a0), o1, o2, some (.int x3)] [] (nx, mem L nx m)) := by
  unfold d_107_48
  refine i_bl (pc' := 49) [(.aload_n 0, 1)] [some (.ref a0), o1, o2, some (.int x3)] [.ref a0] (by decide +kernel) rfl ?_
  refine i_cv (ci := 8) (t := 111) (na := 1) (ml := 1) (idx := 43) (pc' := 52) (st' := []) (en := [some (.ref a0)]) (av := []) (vo := fun _ => none) (mo := fun m => m) (s2 := fun _ => []) (by decide +kernel) (by decide +kernel) h0 ⟨rfl, rfl, rfl, rfl, rfl, rfl⟩ (fun _ => rfl) (t_111 hN (h0 := h0)) (fun m3 => ?_)
  refine i_bl (pc' := 53) [(.iload_n 3, 1)] [some (.ref a0), o1, o2, some (.int x3)] [.int x3] (by decide +kernel) rfl ?_
  exact i_ri (by decide +kernel) rfl

noncomputable def d_107_37 (a0 : Nat) (x1 : Int32) (m : Mm) : Option (Int32 × Mm) := (d_110 a0 2 (m a0 8) m).bind fun m2 => d_107_48 a0 x1 m2
theorem t_107_37 {L nx : Nat} (hN : okn nx) {b z : Nat} {m : Mm} {a0 : Nat} (h0 : ok nx a0 8) {x1 : Int32} {o2 : Option Value} {o3 : Option Value} : Im (d_107_37 a0 x1 m) (wI L nx) (ev_dn b z 107 37 [some (.ref a0), some (.int x1), o2, o3] [] (nx, mem L nx m)) := by
  unfold d_107_37
  refine i_bl (pc' := 40) [(.aload_n 0, 1), (.iconst 2, 1), (.aload_n 0, 1)] [some (.ref a0), some (.int x1), o2, o3] [.ref a0, .int 2, .ref a0] (by decide +kernel) rfl ?_
  refine i_gf (idx := 37) (ci := 8) (k := 8) (t := 0) (p := 11056) (pc' := 43) (by decide +kernel) h0 ?_
  refine i_cv (ci := 8) (t := 110) (na := 3) (ml := 3) (idx := 69) (pc' := 46) (st' := []) (en := [some (.ref a0), some (.int 2), some (.int (m a0 8))]) (av := [.int 2, .int (m a0 8)]) (vo := fun _ => none) (mo := fun m => m) (s2 := fun _ => []) (by decide +kernel) (by decide +kernel) h0 ⟨rfl, rfl, rfl, rfl, rfl, rfl⟩ (fun _ => rfl) (t_110 hN (h0 := h0)) (fun m2 => ?_)
  refine i_bl (pc' := 48) [(.iload_n 1, 1), (.istore_n 3, 1)] [some (.ref a0), some (.int x1), (ev_kl o2), some (.int x1)] [] (by decide +kernel) rfl ?_
  exact t_107_48 hN (h0 := h0)

noncomputable def d_107_27 (a0 : Nat) (x1 : Int32) (x2 : Int32) (x3 : Int32) (m : Mm) : Option (Int32 × Mm) := if x3 < x1 then (d_107_37 a0 x1 m) else (if x3 ≤ x2 then (d_107_48 a0 x3 m) else (d_107_37 a0 x1 m))
theorem t_107_27 {L nx : Nat} (hN : okn nx) {b z : Nat} {m : Mm} {a0 : Nat} (h0 : ok nx a0 8) {x1 : Int32} {x2 : Int32} {x3 : Int32}  : Im (d_107_27 a0 x1 x2 x3 m) (wI L nx) (ev_dn b z 107 27 [some (.ref a0), some (.int x1), some (.int x2), some (.int x3)] [] (nx, mem L nx m)) := by
  unfold d_107_27
  refine i_bl (pc' := 29) [(.iload_n 3, 1), (.iload_n 1, 1)] [some (.ref a0), some (.int x1), some (.int x2), some (.int x3)] [.int x1, .int x3] (by decide +kernel) rfl ?_
  refine i_ic (c := .lt) (off := 8) (t := 37) (pc' := 32) (p := x3 < x1) (by decide +kernel) rfl ?_ ?_
  · exact t_107_37 hN (h0 := h0)
  · refine i_bl (pc' := 34) [(.iload_n 3, 1), (.iload_n 2, 1)] [some (.ref a0), some (.int x1), some (.int x2), some (.int x3)] [.int x2, .int x3] (by decide +kernel) rfl ?_
    refine i_ic (c := .le) (off := 14) (t := 48) (pc' := 37) (p := x3 ≤ x2) (by decide +kernel) rfl ?_ ?_
    · exact t_107_48 hN (h0 := h0)
    · exact t_107_37 hN (h0 := h0)

noncomputable def d_107 (a0 : Nat) (x1 : Int32) (x2 : Int32) (m : Mm) : Option (Int32 × Mm) := if (m a0 7) = 2 then ((d_108 a0 m).bind fun v1 => d_107_27 a0 x1 x2 v1 m) else ((d_110 a0 1 (m a0 8) m).bind fun m4 => d_107_27 a0 x1 x2 x1 m4)
theorem t_107 {L nx : Nat} (hN : okn nx) {b z : Nat} {m : Mm} {a0 : Nat} (h0 : ok nx a0 8) {x1 : Int32} {x2 : Int32}  : Im (d_107 a0 x1 x2 m) (wI L nx) (ev_dn b z 107 0 [some (.ref a0), some (.int x1), some (.int x2), none] [] (nx, mem L nx m)) := by
  unfold d_107
  refine i_bl (pc' := 3) [(.iload_n 1, 1), (.istore_n 3, 1), (.aload_n 0, 1)] [some (.ref a0), some (.int x1), some (.int x2), some (.int x1)] [.ref a0] (by decide +kernel) rfl ?_
  refine i_gf (idx := 34) (ci := 8) (k := 7) (t := 0) (p := 11055) (pc' := 6) (by decide +kernel) h0 ?_
  refine i_bl (pc' := 7) [(.iconst 2, 1)] [some (.ref a0), some (.int x1), some (.int x2), some (.int x1)] [.int 2, .int (m a0 7)] (by decide +kernel) rfl ?_
  refine i_ic (c := .eq) (off := 15) (t := 22) (pc' := 10) (p := (m a0 7) = 2) (by decide +kernel) rfl ?_ ?_
  · refine i_bl (pc' := 23) [(.aload_n 0, 1)] [some (.ref a0), some (.int x1), some (.int x2), some (.int x1)] [.ref a0] (by decide +kernel) rfl ?_
    refine i_cv (ci := 8) (t := 108) (na := 1) (ml := 3) (idx := 175) (pc' := 26) (st' := []) (en := [some (.ref a0), none, none]) (av := []) (vo := fun v => some (.int v)) (mo := fun _ => m) (s2 := fun v => .int v :: []) (by decide +kernel) (by decide +kernel) h0 ⟨rfl, rfl, rfl, rfl, rfl, rfl⟩ (fun _ => rfl) (t_108 hN (h0 := h0)) (fun v1 => ?_)
    refine i_bl (pc' := 27) [(.istore_n 3, 1)] [some (.ref a0), some (.int x1), some (.int x2), some (.int v1)] [] (by decide +kernel) rfl ?_
    exact t_107_27 hN (h0 := h0)
  · refine i_bl (pc' := 13) [(.aload_n 0, 1), (.iconst 1, 1), (.aload_n 0, 1)] [some (.ref a0), some (.int x1), some (.int x2), some (.int x1)] [.ref a0, .int 1, .ref a0] (by decide +kernel) rfl ?_
    refine i_gf (idx := 37) (ci := 8) (k := 8) (t := 0) (p := 11056) (pc' := 16) (by decide +kernel) h0 ?_
    refine i_cv (ci := 8) (t := 110) (na := 3) (ml := 3) (idx := 69) (pc' := 19) (st' := []) (en := [some (.ref a0), some (.int 1), some (.int (m a0 8))]) (av := [.int 1, .int (m a0 8)]) (vo := fun _ => none) (mo := fun m => m) (s2 := fun _ => []) (by decide +kernel) (by decide +kernel) h0 ⟨rfl, rfl, rfl, rfl, rfl, rfl⟩ (fun _ => rfl) (t_110 hN (h0 := h0)) (fun m4 => ?_)
    refine i_go (t := 27) (off := 8) (by decide +kernel) ?_
    exact t_107_27 hN (h0 := h0)

/-! 106 LanternChess$SetupText.takeSemicolon()V -/
noncomputable def d_106_17 (a0 : Nat) (m : Mm) : Option Mm := (d_111 a0 m).bind fun m1 => some m1
theorem t_106_17 {L nx : Nat} (hN : okn nx) {b z : Nat} {m : Mm} {a0 : Nat} (h0 : ok nx a0 8)   : Im (d_106_17 a0 m) (wV L nx) (ev_dn b z 106 17 [some (.ref a0)] [] (nx, mem L nx m)) := by
  unfold d_106_17
  refine i_bl (pc' := 18) [(.aload_n 0, 1)] [some (.ref a0)] [.ref a0] (by decide +kernel) rfl ?_
  refine i_cv (ci := 8) (t := 111) (na := 1) (ml := 1) (idx := 43) (pc' := 21) (st' := []) (en := [some (.ref a0)]) (av := []) (vo := fun _ => none) (mo := fun m => m) (s2 := fun _ => []) (by decide +kernel) (by decide +kernel) h0 ⟨rfl, rfl, rfl, rfl, rfl, rfl⟩ (fun _ => rfl) (t_111 hN (h0 := h0)) (fun m1 => ?_)
  exact i_rv (by decide +kernel) rfl

noncomputable def d_106 (a0 : Nat) (m : Mm) : Option Mm := if (m a0 7) = 3 then (d_106_17 a0 m) else ((d_110 a0 1 (m a0 8) m).bind fun m2 => d_106_17 a0 m2)
theorem t_106 {L nx : Nat} (hN : okn nx) {b z : Nat} {m : Mm} {a0 : Nat} (h0 : ok nx a0 8)   : Im (d_106 a0 m) (wV L nx) (ev_dn b z 106 0 [some (.ref a0)] [] (nx, mem L nx m)) := by
  unfold d_106
  refine i_bl (pc' := 1) [(.aload_n 0, 1)] [some (.ref a0)] [.ref a0] (by decide +kernel) rfl ?_
  refine i_gf (idx := 34) (ci := 8) (k := 7) (t := 0) (p := 11055) (pc' := 4) (by decide +kernel) h0 ?_
  refine i_bl (pc' := 5) [(.iconst 3, 1)] [some (.ref a0)] [.int 3, .int (m a0 7)] (by decide +kernel) rfl ?_
  refine i_ic (c := .eq) (off := 12) (t := 17) (pc' := 8) (p := (m a0 7) = 3) (by decide +kernel) rfl ?_ ?_
  · exact t_106_17 hN (h0 := h0)
  · refine i_bl (pc' := 11) [(.aload_n 0, 1), (.iconst 1, 1), (.aload_n 0, 1)] [some (.ref a0)] [.ref a0, .int 1, .ref a0] (by decide +kernel) rfl ?_
    refine i_gf (idx := 37) (ci := 8) (k := 8) (t := 0) (p := 11056) (pc' := 14) (by decide +kernel) h0 ?_
    refine i_cv (ci := 8) (t := 110) (na := 3) (ml := 3) (idx := 69) (pc' := 17) (st' := []) (en := [some (.ref a0), some (.int 1), some (.int (m a0 8))]) (av := [.int 1, .int (m a0 8)]) (vo := fun _ => none) (mo := fun m => m) (s2 := fun _ => []) (by decide +kernel) (by decide +kernel) h0 ⟨rfl, rfl, rfl, rfl, rfl, rfl⟩ (fun _ => rfl) (t_110 hN (h0 := h0)) (fun m2 => ?_)
    exact t_106_17 hN (h0 := h0)

/-! 104 LanternChess$SetupText.takeOnce(I)V -/
noncomputable def d_104_18 (a0 : Nat) (x1 : Int32) (m : Mm) : Option Mm := wb (wr m a0 5 ((m a0 5) ||| x1)) fun m1 => (d_111 a0 m1).bind fun m2 => some m2
theorem t_104_18 {L nx : Nat} (hN : okn nx) {b z : Nat} {m : Mm} {a0 : Nat} (h0 : ok nx a0 8) {x1 : Int32}  : Im (d_104_18 a0 x1 m) (wV L nx) (ev_dn b z 104 18 [some (.ref a0), some (.int x1)] [] (nx, mem L nx m)) := by
  unfold d_104_18
  refine i_bl (pc' := 20) [(.aload_n 0, 1), (.dup, 1)] [some (.ref a0), some (.int x1)] [.ref a0, .ref a0] (by decide +kernel) rfl ?_
  refine i_gf (idx := 28) (ci := 8) (k := 5) (t := 0) (p := 11053) (pc' := 23) (by decide +kernel) h0 ?_
  refine i_bl (pc' := 25) [(.iload_n 1, 1), (.ior, 1)] [some (.ref a0), some (.int x1)] [.int ((m a0 5) ||| x1), .ref a0] (by decide +kernel) rfl ?_
  refine i_pf (x := ((m a0 5) ||| x1)) (idx := 28) (ci := 8) (k := 5) (p := 11053) (pc' := 28) (by decide +kernel) h0 (fun m1 => ?_)
  refine i_bl (pc' := 29) [(.aload_n 0, 1)] [some (.ref a0), some (.int x1)] [.ref a0] (by decide +kernel) rfl ?_
  refine i_cv (ci := 8) (t := 111) (na := 1) (ml := 1) (idx := 43) (pc' := 32) (st' := []) (en := [some (.ref a0)]) (av := []) (vo := fun _ => none) (mo := fun m => m) (s2 := fun _ => []) (by decide +kernel) (by decide +kernel) h0 ⟨rfl, rfl, rfl, rfl, rfl, rfl⟩ (fun _ => rfl) (t_111 hN (h0 := h0)) (fun m2 => ?_)
  exact i_rv (by decide +kernel) rfl

noncomputable def d_104 (a0 : Nat) (x1 : Int32) (m : Mm) : Option Mm := if ((m a0 5) &&& x1) = 0 then (d_104_18 a0 x1 m) else ((d_110 a0 3 (m a0 8) m).bind fun m3 => d_104_18 a0 x1 m3)
theorem t_104 {L nx : Nat} (hN : okn nx) {b z : Nat} {m : Mm} {a0 : Nat} (h0 : ok nx a0 8) {x1 : Int32}  : Im (d_104 a0 x1 m) (wV L nx) (ev_dn b z 104 0 [some (.ref a0), some (.int x1)] [] (nx, mem L nx m)) := by
  unfold d_104
  refine i_bl (pc' := 1) [(.aload_n 0, 1)] [some (.ref a0), some (.int x1)] [.ref a0] (by decide +kernel) rfl ?_
  refine i_gf (idx := 28) (ci := 8) (k := 5) (t := 0) (p := 11053) (pc' := 4) (by decide +kernel) h0 ?_
  refine i_bl (pc' := 6) [(.iload_n 1, 1), (.iand, 1)] [some (.ref a0), some (.int x1)] [.int ((m a0 5) &&& x1)] (by decide +kernel) rfl ?_
  refine i_if (c := .eq) (off := 12) (t := 18) (pc' := 9) (p := ((m a0 5) &&& x1) = 0) (by decide +kernel) rfl ?_ ?_
  · exact t_104_18 hN (h0 := h0)
  · refine i_bl (pc' := 12) [(.aload_n 0, 1), (.iconst 3, 1), (.aload_n 0, 1)] [some (.ref a0), some (.int x1)] [.ref a0, .int 3, .ref a0] (by decide +kernel) rfl ?_
    refine i_gf (idx := 37) (ci := 8) (k := 8) (t := 0) (p := 11056) (pc' := 15) (by decide +kernel) h0 ?_
    refine i_cv (ci := 8) (t := 110) (na := 3) (ml := 3) (idx := 69) (pc' := 18) (st' := []) (en := [some (.ref a0), some (.int 3), some (.int (m a0 8))]) (av := [.int 3, .int (m a0 8)]) (vo := fun _ => none) (mo := fun m => m) (s2 := fun _ => []) (by decide +kernel) (by decide +kernel) h0 ⟨rfl, rfl, rfl, rfl, rfl, rfl⟩ (fun _ => rfl) (t_110 hN (h0 := h0)) (fun m3 => ?_)
    exact t_104_18 hN (h0 := h0)

/-! 103 LanternChess$SetupText.kindOfWord()I -/
noncomputable def d_103 (a0 : Nat) (m : Mm) : Option Int32 := (d_109 a0 9 m).bind fun v1 => if v1 = true then (some 0) else ((d_109 a0 10 m).bind fun v2 => if v2 = true then (some 1) else ((d_109 a0 11 m).bind fun v3 => if v3 = true then (some 2) else ((d_109 a0 12 m).bind fun v4 => if v4 = true then (some 3) else ((d_109 a0 13 m).bind fun v5 => if v5 = true then (some 4) else ((d_109 a0 14 m).bind fun v6 => if v6 = true then (some 5) else (some (-1)))))))
theorem t_103 {L nx : Nat} (hN : okn nx) {b z : Nat} {m : Mm} {a0 : Nat} (h0 : ok nx a0 8)   : Im (d_103 a0 m) (kI L nx m) (ev_dn b z 103 0 [some (.ref a0)] [] (nx, mem L nx m)) := by
  unfold d_103
  refine i_bl (pc' := 1) [(.aload_n 0, 1)] [some (.ref a0)] [.ref a0] (by decide +kernel) rfl ?_
  refine i_lt (idx := 163) (p := 14107) (w := 9) (tx := "king") (pc' := 3) (by decide +kernel) ?_
  refine i_cv (ci := 8) (t := 109) (na := 2) (ml := 3) (idx := 74) (pc' := 6) (st' := []) (en := [some (.ref a0), some (.ref 9), none]) (av := [.ref 9]) (vo := fun v => some (.int (bi v))) (mo := fun _ => m) (s2 := fun v => .int (bi v) :: []) (by decide +kernel) (by decide +kernel) h0 ⟨rfl, rfl, rfl, rfl, rfl, rfl⟩ (fun _ => rfl) (t_109 hN (h0 := h0) (h1 := (o_lo hN (by decide +kernel)))) (fun v1 => ?_)
  refine i_bz (off := 5) (t := 11) (pc' := 9) (by decide +kernel) ?_ ?_
  · refine i_bl (pc' := 10) [(.iconst 0, 1)] [some (.ref a0)] [.int 0] (by decide +kernel) rfl ?_
    exact i_ri (by decide +kernel) rfl
  · refine i_bl (pc' := 12) [(.aload_n 0, 1)] [some (.ref a0)] [.ref a0] (by decide +kernel) rfl ?_
    refine i_lt (idx := 165) (p := 14108) (w := 10) (tx := "queen") (pc' := 14) (by decide +kernel) ?_
    refine i_cv (ci := 8) (t := 109) (na := 2) (ml := 3) (idx := 74) (pc' := 17) (st' := []) (en := [some (.ref a0), some (.ref 10), none]) (av := [.ref 10]) (vo := fun v => some (.int (bi v))) (mo := fun _ => m) (s2 := fun v => .int (bi v) :: []) (by decide +kernel) (by decide +kernel) h0 ⟨rfl, rfl, rfl, rfl, rfl, rfl⟩ (fun _ => rfl) (t_109 hN (h0 := h0) (h1 := (o_lo hN (by decide +kernel)))) (fun v2 => ?_)
    refine i_bz (off := 5) (t := 22) (pc' := 20) (by decide +kernel) ?_ ?_
    · refine i_bl (pc' := 21) [(.iconst 1, 1)] [some (.ref a0)] [.int 1] (by decide +kernel) rfl ?_
      exact i_ri (by decide +kernel) rfl
    · refine i_bl (pc' := 23) [(.aload_n 0, 1)] [some (.ref a0)] [.ref a0] (by decide +kernel) rfl ?_
      refine i_lt (idx := 167) (p := 14109) (w := 11) (tx := "rook") (pc' := 25) (by decide +kernel) ?_
      refine i_cv (ci := 8) (t := 109) (na := 2) (ml := 3) (idx := 74) (pc' := 28) (st' := []) (en := [some (.ref a0), some (.ref 11), none]) (av := [.ref 11]) (vo := fun v => some (.int (bi v))) (mo := fun _ => m) (s2 := fun v => .int (bi v) :: []) (by decide +kernel) (by decide +kernel) h0 ⟨rfl, rfl, rfl, rfl, rfl, rfl⟩ (fun _ => rfl) (t_109 hN (h0 := h0) (h1 := (o_lo hN (by decide +kernel)))) (fun v3 => ?_)
      refine i_bz (off := 5) (t := 33) (pc' := 31) (by decide +kernel) ?_ ?_
      · refine i_bl (pc' := 32) [(.iconst 2, 1)] [some (.ref a0)] [.int 2] (by decide +kernel) rfl ?_
        exact i_ri (by decide +kernel) rfl
      · refine i_bl (pc' := 34) [(.aload_n 0, 1)] [some (.ref a0)] [.ref a0] (by decide +kernel) rfl ?_
        refine i_lt (idx := 169) (p := 14110) (w := 12) (tx := "bishop") (pc' := 36) (by decide +kernel) ?_
        refine i_cv (ci := 8) (t := 109) (na := 2) (ml := 3) (idx := 74) (pc' := 39) (st' := []) (en := [some (.ref a0), some (.ref 12), none]) (av := [.ref 12]) (vo := fun v => some (.int (bi v))) (mo := fun _ => m) (s2 := fun v => .int (bi v) :: []) (by decide +kernel) (by decide +kernel) h0 ⟨rfl, rfl, rfl, rfl, rfl, rfl⟩ (fun _ => rfl) (t_109 hN (h0 := h0) (h1 := (o_lo hN (by decide +kernel)))) (fun v4 => ?_)
        refine i_bz (off := 5) (t := 44) (pc' := 42) (by decide +kernel) ?_ ?_
        · refine i_bl (pc' := 43) [(.iconst 3, 1)] [some (.ref a0)] [.int 3] (by decide +kernel) rfl ?_
          exact i_ri (by decide +kernel) rfl
        · refine i_bl (pc' := 45) [(.aload_n 0, 1)] [some (.ref a0)] [.ref a0] (by decide +kernel) rfl ?_
          refine i_lt (idx := 171) (p := 14111) (w := 13) (tx := "knight") (pc' := 47) (by decide +kernel) ?_
          refine i_cv (ci := 8) (t := 109) (na := 2) (ml := 3) (idx := 74) (pc' := 50) (st' := []) (en := [some (.ref a0), some (.ref 13), none]) (av := [.ref 13]) (vo := fun v => some (.int (bi v))) (mo := fun _ => m) (s2 := fun v => .int (bi v) :: []) (by decide +kernel) (by decide +kernel) h0 ⟨rfl, rfl, rfl, rfl, rfl, rfl⟩ (fun _ => rfl) (t_109 hN (h0 := h0) (h1 := (o_lo hN (by decide +kernel)))) (fun v5 => ?_)
          refine i_bz (off := 5) (t := 55) (pc' := 53) (by decide +kernel) ?_ ?_
          · refine i_bl (pc' := 54) [(.iconst 4, 1)] [some (.ref a0)] [.int 4] (by decide +kernel) rfl ?_
            exact i_ri (by decide +kernel) rfl
          · refine i_bl (pc' := 56) [(.aload_n 0, 1)] [some (.ref a0)] [.ref a0] (by decide +kernel) rfl ?_
            refine i_lt (idx := 173) (p := 14112) (w := 14) (tx := "pawn") (pc' := 58) (by decide +kernel) ?_
            refine i_cv (ci := 8) (t := 109) (na := 2) (ml := 3) (idx := 74) (pc' := 61) (st' := []) (en := [some (.ref a0), some (.ref 14), none]) (av := [.ref 14]) (vo := fun v => some (.int (bi v))) (mo := fun _ => m) (s2 := fun v => .int (bi v) :: []) (by decide +kernel) (by decide +kernel) h0 ⟨rfl, rfl, rfl, rfl, rfl, rfl⟩ (fun _ => rfl) (t_109 hN (h0 := h0) (h1 := (o_lo hN (by decide +kernel)))) (fun v6 => ?_)
            refine i_bz (off := 7) (t := 68) (pc' := 64) (by decide +kernel) ?_ ?_
            · refine i_bl (pc' := 65) [(.iconst 5, 1)] [some (.ref a0)] [.int 5] (by decide +kernel) rfl ?_
              refine i_go (t := 69) (off := 4) (by decide +kernel) ?_
              exact i_ri (by decide +kernel) rfl
            · refine i_bl (pc' := 69) [(.iconst (-1), 1)] [some (.ref a0)] [.int (-1)] (by decide +kernel) rfl ?_
              exact i_ri (by decide +kernel) rfl

/-! 102 LanternChess$SetupText.takeKind(I)I -/
noncomputable def d_102_35 (x2 : Int32) (s0 : Nat) (s1 : Int32) (m : Mm) : Option (Int32 × Mm) := (d_104 s0 s1 m).bind fun m3 => some (x2, m3)
theorem t_102_35 {L nx : Nat} (hN : okn nx) {b z : Nat} {m : Mm} {s0 : Nat} (hs0 : ok nx s0 8) {x2 : Int32} {s1 : Int32} {o0 : Option Value} {o1 : Option Value} : Im (d_102_35 x2 s0 s1 m) (wI L nx) (ev_dn b z 102 35 [o0, o1, some (.int x2)] [.int s1, .ref s0] (nx, mem L nx m)) := by
  unfold d_102_35
  refine i_cv (ci := 8) (t := 104) (na := 2) (ml := 2) (idx := 78) (pc' := 38) (st' := []) (en := [some (.ref s0), some (.int s1)]) (av := [.int s1]) (vo := fun _ => none) (mo := fun m => m) (s2 := fun _ => []) (by decide +kernel) (by decide +kernel) hs0 ⟨rfl, rfl, rfl, rfl, rfl, rfl⟩ (fun _ => rfl) (t_104 hN (h0 := hs0)) (fun m3 => ?_)
  refine i_go (t := 45) (off := 7) (by decide +kernel) ?_
  refine i_bl (pc' := 46) [(.iload_n 2, 1)] [o0, o1, some (.int x2)] [.int x2] (by decide +kernel) rfl ?_
  exact i_ri (by decide +kernel) rfl

noncomputable def d_102_19 (a0 : Nat) (x1 : Int32) (x2 : Int32) (m : Mm) : Option (Int32 × Mm) := if ¬ x2 = 0 then ((d_111 a0 m).bind fun m2 => some (x2, m2)) else (if ¬ x1 = 0 then (d_102_35 x2 a0 32 m) else (d_102_35 x2 a0 16 m))
theorem t_102_19 {L nx : Nat} (hN : okn nx) {b z : Nat} {m : Mm} {a0 : Nat} (h0 : ok nx a0 8) {x1 : Int32} {x2 : Int32}  : Im (d_102_19 a0 x1 x2 m) (wI L nx) (ev_dn b z 102 19 [some (.ref a0), some (.int x1), some (.int x2)] [] (nx, mem L nx m)) := by
  unfold d_102_19
  refine i_bl (pc' := 20) [(.iload_n 2, 1)] [some (.ref a0), some (.int x1), some (.int x2)] [.int x2] (by decide +kernel) rfl ?_
  refine i_if (c := .ne) (off := 21) (t := 41) (pc' := 23) (p := ¬ x2 = 0) (by decide +kernel) rfl ?_ ?_
  · refine i_bl (pc' := 42) [(.aload_n 0, 1)] [some (.ref a0), some (.int x1), some (.int x2)] [.ref a0] (by decide +kernel) rfl ?_
    refine i_cv (ci := 8) (t := 111) (na := 1) (ml := 1) (idx := 43) (pc' := 45) (st' := []) (en := [some (.ref a0)]) (av := []) (vo := fun _ => none) (mo := fun m => m) (s2 := fun _ => []) (by decide +kernel) (by decide +kernel) h0 ⟨rfl, rfl, rfl, rfl, rfl, rfl⟩ (fun _ => rfl) (t_111 hN (h0 := h0)) (fun m2 => ?_)
    refine i_bl (pc' := 46) [(.iload_n 2, 1)] [some (.ref a0), some (.int x1), some (.int x2)] [.int x2] (by decide +kernel) rfl ?_
    exact i_ri (by decide +kernel) rfl
  · refine i_bl (pc' := 25) [(.aload_n 0, 1), (.iload_n 1, 1)] [some (.ref a0), some (.int x1), some (.int x2)] [.int x1, .ref a0] (by decide +kernel) rfl ?_
    refine i_if (c := .ne) (off := 8) (t := 33) (pc' := 28) (p := ¬ x1 = 0) (by decide +kernel) rfl ?_ ?_
    · refine i_bl (pc' := 35) [(.bipush (32), 2)] [some (.ref a0), some (.int x1), some (.int x2)] [.int 32, .ref a0] (by decide +kernel) rfl ?_
      exact t_102_35 hN (hs0 := h0)
    · refine i_bl (pc' := 30) [(.bipush (16), 2)] [some (.ref a0), some (.int x1), some (.int x2)] [.int 16, .ref a0] (by decide +kernel) rfl ?_
      refine i_go (t := 35) (off := 5) (by decide +kernel) ?_
      exact t_102_35 hN (hs0 := h0)

noncomputable def d_102 (a0 : Nat) (x1 : Int32) (m : Mm) : Option (Int32 × Mm) := (d_103 a0 m).bind fun v1 => if ¬ v1 = (-1) then (d_102_19 a0 x1 v1 m) else ((d_110 a0 1 (m a0 8) m).bind fun m4 => d_102_19 a0 x1 v1 m4)
theorem t_102 {L nx : Nat} (hN : okn nx) {b z : Nat} {m : Mm} {a0 : Nat} (h0 : ok nx a0 8) {x1 : Int32}  : Im (d_102 a0 x1 m) (wI L nx) (ev_dn b z 102 0 [some (.ref a0), some (.int x1), none] [] (nx, mem L nx m)) := by
  unfold d_102
  refine i_bl (pc' := 1) [(.aload_n 0, 1)] [some (.ref a0), some (.int x1), none] [.ref a0] (by decide +kernel) rfl ?_
  refine i_cv (ci := 8) (t := 103) (na := 1) (ml := 1) (idx := 159) (pc' := 4) (st' := []) (en := [some (.ref a0)]) (av := []) (vo := fun v => some (.int v)) (mo := fun _ => m) (s2 := fun v => .int v :: []) (by decide +kernel) (by decide +kernel) h0 ⟨rfl, rfl, rfl, rfl, rfl, rfl⟩ (fun _ => rfl) (t_103 hN (h0 := h0)) (fun v1 => ?_)
  refine i_bl (pc' := 7) [(.istore_n 2, 1), (.iload_n 2, 1), (.iconst (-1), 1)] [some (.ref a0), some (.int x1), some (.int v1)] [.int (-1), .int v1] (by decide +kernel) rfl ?_
  refine i_ic (c := .ne) (off := 12) (t := 19) (pc' := 10) (p := ¬ v1 = (-1)) (by decide +kernel) rfl ?_ ?_
  · exact t_102_19 hN (h0 := h0)
  · refine i_bl (pc' := 13) [(.aload_n 0, 1), (.iconst 1, 1), (.aload_n 0, 1)] [some (.ref a0), some (.int x1), some (.int v1)] [.ref a0, .int 1, .ref a0] (by decide +kernel) rfl ?_
    refine i_gf (idx := 37) (ci := 8) (k := 8) (t := 0) (p := 11056) (pc' := 16) (by decide +kernel) h0 ?_
    refine i_cv (ci := 8) (t := 110) (na := 3) (ml := 3) (idx := 69) (pc' := 19) (st' := []) (en := [some (.ref a0), some (.int 1), some (.int (m a0 8))]) (av := [.int 1, .int (m a0 8)]) (vo := fun _ => none) (mo := fun m => m) (s2 := fun _ => []) (by decide +kernel) (by decide +kernel) h0 ⟨rfl, rfl, rfl, rfl, rfl, rfl⟩ (fun _ => rfl) (t_110 hN (h0 := h0)) (fun m4 => ?_)
    exact t_102_19 hN (h0 := h0)

/-! 100 LanternChess$SetupText.readPiece(LLanternChess$Game;I)V -/
noncomputable def d_100_100 (a0 : Nat) (a1 : Nat) (x2 : Int32) (x3 : Int32) (x6 : Int32) (m : Mm) : Option Mm := (d_50 a1 x6 (x3 + (6 * x2)) m).bind fun m7 => wb (wr m7 a0 4 ((m7 a0 4) + 1)) fun m8 => some m8
theorem t_100_100 {L nx : Nat} (hN : okn nx) {b z : Nat} {m : Mm} {a0 : Nat} (h0 : ok nx a0 8) {a1 : Nat} (h1 : ok nx a1 3) {x2 : Int32} {x3 : Int32} {x6 : Int32} {o4 : Option Value} {o5 : Option Value} : Im (d_100_100 a0 a1 x2 x3 x6 m) (wV L nx) (ev_dn b z 100 100 [some (.ref a0), some (.ref a1), some (.int x2), some (.int x3), o4, o5, some (.int x6)] [] (nx, mem L nx m)) := by
  unfold d_100_100
  refine i_bl (pc' := 109) [(.aload_n 1, 1), (.iload 6, 2), (.iload_n 3, 1), (.bipush (6), 2), (.iload_n 2, 1), (.imul, 1), (.iadd, 1)] [some (.ref a0), some (.ref a1), some (.int x2), some (.int x3), o4, o5, some (.int x6)] [.int (x3 + (6 * x2)), .int x6, .ref a1] (by decide +kernel) rfl ?_
  refine i_cv (ci := 3) (t := 50) (na := 3) (ml := 3) (idx := 138) (pc' := 112) (st' := []) (en := [some (.ref a1), some (.int x6), some (.int (x3 + (6 * x2)))]) (av := [.int x6, .int (x3 + (6 * x2))]) (vo := fun _ => none) (mo := fun m => m) (s2 := fun _ => []) (by decide +kernel) (by decide +kernel) h1 ⟨rfl, rfl, rfl, rfl, rfl, rfl⟩ (fun _ => rfl) (t_50 hN (h0 := h1)) (fun m7 => ?_)
  refine i_bl (pc' := 114) [(.aload_n 0, 1), (.dup, 1)] [some (.ref a0), some (.ref a1), some (.int x2), some (.int x3), o4, o5, some (.int x6)] [.ref a0, .ref a0] (by decide +kernel) rfl ?_
  refine i_gf (idx := 25) (ci := 8) (k := 4) (t := 0) (p := 11051) (pc' := 117) (by decide +kernel) h0 ?_
  refine i_bl (pc' := 119) [(.iconst 1, 1), (.iadd, 1)] [some (.ref a0), some (.ref a1), some (.int x2), some (.int x3), o4, o5, some (.int x6)] [.int ((m7 a0 4) + 1), .ref a0] (by decide +kernel) rfl ?_
  refine i_pf (x := ((m7 a0 4) + 1)) (idx := 25) (ci := 8) (k := 4) (p := 11051) (pc' := 122) (by decide +kernel) h0 (fun m8 => ?_)
  exact i_rv (by decide +kernel) rfl

noncomputable def d_100_18 (a0 : Nat) (a1 : Nat) (x2 : Int32) (m : Mm) : Option Mm := (d_111 a0 m).bind fun m1 => (d_102 a0 x2 m1).bind fun r2 => (d_107 a0 0 ((r2.2 (sh_r (sh_r a1 0) 0) 1) - 1) r2.2).bind fun r3 => (d_107 a0 0 ((r3.2 (sh_r (sh_r a1 0) 0) 2) - 1) r3.2).bind fun r4 => (d_12 r3.1 r4.1).bind fun v5 => (d_17 (sh_r (sh_r a1 0) 0) v5 r4.2).bind fun v6 => if v6 = (-1) then (d_100_100 a0 a1 x2 r2.1 v5 r4.2) else ((d_110 a0 3 (r4.2 a0 9) r4.2).bind fun m9 => d_100_100 a0 a1 x2 r2.1 v5 m9)
theorem t_100_18 {L nx : Nat} (hN : okn nx) {b z : Nat} {m : Mm} {a0 : Nat} (h0 : ok nx a0 8) {a1 : Nat} (h1 : ok nx a1 3) {x2 : Int32}  : Im (d_100_18 a0 a1 x2 m) (wV L nx) (ev_dn b z 100 18 [some (.ref a0), some (.ref a1), some (.int x2), none, none, none, none] [] (nx, mem L nx m)) := by
  unfold d_100_18
  refine i_bl (pc' := 19) [(.aload_n 0, 1)] [some (.ref a0), some (.ref a1), some (.int x2), none, none, none, none] [.ref a0] (by decide +kernel) rfl ?_
  refine i_cv (ci := 8) (t := 111) (na := 1) (ml := 1) (idx := 43) (pc' := 22) (st' := []) (en := [some (.ref a0)]) (av := []) (vo := fun _ => none) (mo := fun m => m) (s2 := fun _ => []) (by decide +kernel) (by decide +kernel) h0 ⟨rfl, rfl, rfl, rfl, rfl, rfl⟩ (fun _ => rfl) (t_111 hN (h0 := h0)) (fun m1 => ?_)
  refine i_bl (pc' := 24) [(.aload_n 0, 1), (.iload_n 2, 1)] [some (.ref a0), some (.ref a1), some (.int x2), none, none, none, none] [.int x2, .ref a0] (by decide +kernel) rfl ?_
  refine i_cv (ci := 8) (t := 102) (na := 2) (ml := 3) (idx := 111) (pc' := 27) (st' := []) (en := [some (.ref a0), some (.int x2), none]) (av := [.int x2]) (vo := fun v => some (.int v.1)) (mo := fun v => v.2) (s2 := fun v => .int v.1 :: []) (by decide +kernel) (by decide +kernel) h0 ⟨rfl, rfl, rfl, rfl, rfl, rfl⟩ (fun _ => rfl) (t_102 hN (h0 := h0)) (fun r2 => ?_)
  refine i_bl (pc' := 31) [(.istore_n 3, 1), (.aload_n 0, 1), (.iconst 0, 1), (.aload_n 1, 1)] [some (.ref a0), some (.ref a1), some (.int x2), some (.int r2.1), none, none, none] [.ref a1, .int 0, .ref a0] (by decide +kernel) rfl ?_
  refine i_gr (idx := 115) (ci := 3) (k := 0) (t := 2) (p := 11176) (pc' := 34) (by decide +kernel) h1 ?_
  refine i_gr (idx := 118) (ci := 0) (k := 0) (t := 2) (p := 11115) (pc' := 37) (by decide +kernel) (o_3_0 hN h1) ?_
  refine i_gf (idx := 124) (ci := 1) (k := 1) (t := 0) (p := 11100) (pc' := 40) (by decide +kernel) (o_0_0 hN (o_3_0 hN h1)) ?_
  refine i_bl (pc' := 42) [(.iconst 1, 1), (.isub, 1)] [some (.ref a0), some (.ref a1), some (.int x2), some (.int r2.1), none, none, none] [.int ((r2.2 (sh_r (sh_r a1 0) 0) 1) - 1), .int 0, .ref a0] (by decide +kernel) rfl ?_
  refine i_cv (ci := 8) (t := 107) (na := 3) (ml := 4) (idx := 52) (pc' := 45) (st' := []) (en := [some (.ref a0), some (.int 0), some (.int ((r2.2 (sh_r (sh_r a1 0) 0) 1) - 1)), none]) (av := [.int 0, .int ((r2.2 (sh_r (sh_r a1 0) 0) 1) - 1)]) (vo := fun v => some (.int v.1)) (mo := fun v => v.2) (s2 := fun v => .int v.1 :: []) (by decide +kernel) (by decide +kernel) h0 ⟨rfl, rfl, rfl, rfl, rfl, rfl⟩ (fun _ => rfl) (t_107 hN (h0 := h0)) (fun r3 => ?_)
  refine i_bl (pc' := 50) [(.istore 4, 2), (.aload_n 0, 1), (.iconst 0, 1), (.aload_n 1, 1)] [some (.ref a0), some (.ref a1), some (.int x2), some (.int r2.1), some (.int r3.1), none, none] [.ref a1, .int 0, .ref a0] (by decide +kernel) rfl ?_
  refine i_gr (idx := 115) (ci := 3) (k := 0) (t := 2) (p := 11176) (pc' := 53) (by decide +kernel) h1 ?_
  refine i_gr (idx := 118) (ci := 0) (k := 0) (t := 2) (p := 11115) (pc' := 56) (by decide +kernel) (o_3_0 hN h1) ?_
  refine i_gf (idx := 129) (ci := 1) (k := 2) (t := 0) (p := 11103) (pc' := 59) (by decide +kernel) (o_0_0 hN (o_3_0 hN h1)) ?_
  refine i_bl (pc' := 61) [(.iconst 1, 1), (.isub, 1)] [some (.ref a0), some (.ref a1), some (.int x2), some (.int r2.1), some (.int r3.1), none, none] [.int ((r3.2 (sh_r (sh_r a1 0) 0) 2) - 1), .int 0, .ref a0] (by decide +kernel) rfl ?_
  refine i_cv (ci := 8) (t := 107) (na := 3) (ml := 4) (idx := 52) (pc' := 64) (st' := []) (en := [some (.ref a0), some (.int 0), some (.int ((r3.2 (sh_r (sh_r a1 0) 0) 2) - 1)), none]) (av := [.int 0, .int ((r3.2 (sh_r (sh_r a1 0) 0) 2) - 1)]) (vo := fun v => some (.int v.1)) (mo := fun v => v.2) (s2 := fun v => .int v.1 :: []) (by decide +kernel) (by decide +kernel) h0 ⟨rfl, rfl, rfl, rfl, rfl, rfl⟩ (fun _ => rfl) (t_107 hN (h0 := h0)) (fun r4 => ?_)
  refine i_bl (pc' := 70) [(.istore 5, 2), (.iload 4, 2), (.iload 5, 2)] [some (.ref a0), some (.ref a1), some (.int x2), some (.int r2.1), some (.int r3.1), some (.int r4.1), none] [.int r4.1, .int r3.1] (by decide +kernel) rfl ?_
  refine i_cs (t := 12) (na := 2) (ml := 2) (idx := 132) (pc' := 73) (st' := []) (en := [some (.int r3.1), some (.int r4.1)]) (av := [.int r3.1, .int r4.1]) (vo := fun v => some (.int v)) (mo := fun _ => r4.2) (s2 := fun v => .int v :: []) (by decide +kernel) ⟨rfl, rfl, rfl, rfl, rfl, rfl⟩ (fun _ => rfl) (t_12 hN ) (fun v5 => ?_)
  refine i_bl (pc' := 76) [(.istore 6, 2), (.aload_n 1, 1)] [some (.ref a0), some (.ref a1), some (.int x2), some (.int r2.1), some (.int r3.1), some (.int r4.1), some (.int v5)] [.ref a1] (by decide +kernel) rfl ?_
  refine i_gr (idx := 115) (ci := 3) (k := 0) (t := 2) (p := 11176) (pc' := 79) (by decide +kernel) h1 ?_
  refine i_gr (idx := 118) (ci := 0) (k := 0) (t := 2) (p := 11115) (pc' := 82) (by decide +kernel) (o_3_0 hN h1) ?_
  refine i_bl (pc' := 84) [(.iload 6, 2)] [some (.ref a0), some (.ref a1), some (.int x2), some (.int r2.1), some (.int r3.1), some (.int r4.1), some (.int v5)] [.int v5, .ref (sh_r (sh_r a1 0) 0)] (by decide +kernel) rfl ?_
  refine i_cv (ci := 1) (t := 17) (na := 2) (ml := 2) (idx := 135) (pc' := 87) (st' := []) (en := [some (.ref (sh_r (sh_r a1 0) 0)), some (.int v5)]) (av := [.int v5]) (vo := fun v => some (.int v)) (mo := fun _ => r4.2) (s2 := fun v => .int v :: []) (by decide +kernel) (by decide +kernel) (o_0_0 hN (o_3_0 hN h1)) ⟨rfl, rfl, rfl, rfl, rfl, rfl⟩ (fun _ => rfl) (t_17 hN (h0 := (o_0_0 hN (o_3_0 hN h1)))) (fun v6 => ?_)
  refine i_bl (pc' := 88) [(.iconst (-1), 1)] [some (.ref a0), some (.ref a1), some (.int x2), some (.int r2.1), some (.int r3.1), some (.int r4.1), some (.int v5)] [.int (-1), .int v6] (by decide +kernel) rfl ?_
  refine i_ic (c := .eq) (off := 12) (t := 100) (pc' := 91) (p := v6 = (-1)) (by decide +kernel) rfl ?_ ?_
  · exact t_100_100 hN (h0 := h0) (h1 := h1)
  · refine i_bl (pc' := 94) [(.aload_n 0, 1), (.iconst 3, 1), (.aload_n 0, 1)] [some (.ref a0), some (.ref a1), some (.int x2), some (.int r2.1), some (.int r3.1), some (.int r4.1), some (.int v5)] [.ref a0, .int 3, .ref a0] (by decide +kernel) rfl ?_
    refine i_gf (idx := 40) (ci := 8) (k := 9) (t := 0) (p := 11057) (pc' := 97) (by decide +kernel) h0 ?_
    refine i_cv (ci := 8) (t := 110) (na := 3) (ml := 3) (idx := 69) (pc' := 100) (st' := []) (en := [some (.ref a0), some (.int 3), some (.int (r4.2 a0 9))]) (av := [.int 3, .int (r4.2 a0 9)]) (vo := fun _ => none) (mo := fun m => m) (s2 := fun _ => []) (by decide +kernel) (by decide +kernel) h0 ⟨rfl, rfl, rfl, rfl, rfl, rfl⟩ (fun _ => rfl) (t_110 hN (h0 := h0)) (fun m9 => ?_)
    exact t_100_100 hN (h0 := h0) (h1 := h1)

noncomputable def d_100 (a0 : Nat) (a1 : Nat) (x2 : Int32) (m : Mm) : Option Mm := if (m a0 4) < 32 then (d_100_18 a0 a1 x2 m) else ((d_110 a0 4 (m a0 8) m).bind fun m10 => d_100_18 a0 a1 x2 m10)
theorem t_100 {L nx : Nat} (hN : okn nx) {b z : Nat} {m : Mm} {a0 : Nat} (h0 : ok nx a0 8) {a1 : Nat} (h1 : ok nx a1 3) {x2 : Int32}  : Im (d_100 a0 a1 x2 m) (wV L nx) (ev_dn b z 100 0 [some (.ref a0), some (.ref a1), some (.int x2), none, none, none, none] [] (nx, mem L nx m)) := by
  unfold d_100
  refine i_bl (pc' := 1) [(.aload_n 0, 1)] [some (.ref a0), some (.ref a1), some (.int x2), none, none, none, none] [.ref a0] (by decide +kernel) rfl ?_
  refine i_gf (idx := 25) (ci := 8) (k := 4) (t := 0) (p := 11051) (pc' := 4) (by decide +kernel) h0 ?_
  refine i_bl (pc' := 6) [(.bipush (32), 2)] [some (.ref a0), some (.ref a1), some (.int x2), none, none, none, none] [.int 32, .int (m a0 4)] (by decide +kernel) rfl ?_
  refine i_ic (c := .lt) (off := 12) (t := 18) (pc' := 9) (p := (m a0 4) < 32) (by decide +kernel) rfl ?_ ?_
  · exact t_100_18 hN (h0 := h0) (h1 := h1)
  · refine i_bl (pc' := 12) [(.aload_n 0, 1), (.iconst 4, 1), (.aload_n 0, 1)] [some (.ref a0), some (.ref a1), some (.int x2), none, none, none, none] [.ref a0, .int 4, .ref a0] (by decide +kernel) rfl ?_
    refine i_gf (idx := 37) (ci := 8) (k := 8) (t := 0) (p := 11056) (pc' := 15) (by decide +kernel) h0 ?_
    refine i_cv (ci := 8) (t := 110) (na := 3) (ml := 3) (idx := 69) (pc' := 18) (st' := []) (en := [some (.ref a0), some (.int 4), some (.int (m a0 8))]) (av := [.int 4, .int (m a0 8)]) (vo := fun _ => none) (mo := fun m => m) (s2 := fun _ => []) (by decide +kernel) (by decide +kernel) h0 ⟨rfl, rfl, rfl, rfl, rfl, rfl⟩ (fun _ => rfl) (t_110 hN (h0 := h0)) (fun m10 => ?_)
    exact t_100_18 hN (h0 := h0) (h1 := h1)

