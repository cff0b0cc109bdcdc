/-! Programs in numbers, and that the evaluator answers what they answer. -/
/-! 263 LanternChessModel.plays(II)I -/
noncomputable def E_263_2 (L nx b z : Nat) (a0 : Nat) (x1 : Int32) (x2 : Int32) (d : Option Value) (s : (Int32 × Mm)) : ev_Q := ev_dn b z 263 2 [some (.ref a0), some (.int x1), some (.int x2), some (.int s.1), d] [] (nx, mem L nx s.2)
noncomputable def d_263_47 (a0 : Nat) (x1 : Int32) (x2 : Int32) (x3 : Int32) (m : Mm) : Option (Int32 × Mm) := (d_262 a0 x1 x2 x3 m).bind fun m2 => some (x3, m2)
theorem t_263_47 {L nx : Nat} (hN : okn nx) {b z : Nat} {m : Mm} {a0 : Nat} (h0 : ok nx a0 11) {x1 : Int32} {x2 : Int32} {x3 : Int32} {o4 : Option Value} : Im (d_263_47 a0 x1 x2 x3 m) (wI L nx) (ev_dn b z 263 47 [some (.ref a0), some (.int x1), some (.int x2), some (.int x3), o4] [] (nx, mem L nx m)) := by
  unfold d_263_47
  refine i_bl (pc' := 51) [(.aload_n 0, 1), (.iload_n 1, 1), (.iload_n 2, 1), (.iload_n 3, 1)] [some (.ref a0), some (.int x1), some (.int x2), some (.int x3), o4] [.int x3, .int x2, .int x1, .ref a0] (by decide +kernel) rfl ?_
  refine i_cv (ci := 11) (t := 262) (na := 4) (ml := 7) (idx := 272) (pc' := 54) (st' := []) (en := [some (.ref a0), some (.int x1), some (.int x2), some (.int x3), none, none, none]) (av := [.int x1, .int x2, .int x3]) (vo := fun _ => none) (mo := fun m => m) (s2 := fun _ => []) (by decide +kernel) (by decide +kernel) h0 ⟨rfl, rfl, rfl, rfl, rfl, rfl⟩ (fun _ => rfl) (t_262 hN (h0 := h0)) (fun m2 => ?_)
  refine i_bl (pc' := 55) [(.iload_n 3, 1)] [some (.ref a0), some (.int x1), some (.int x2), some (.int x3), o4] [.int x3] (by decide +kernel) rfl ?_
  exact i_ri (by decide +kernel) rfl

noncomputable def d_263_26 (a0 : Nat) (x1 : Int32) (x2 : Int32) (x3 : Int32) (s0 : Nat) (s1 : Int32) (s2 : Int32) (s3 : Bool) (m : Mm) : Option ((Int32 × Mm) ⊕ (Int32 × Mm)) := (d_261 s0 s1 s2 s3 m).bind fun r1 => if ¬ r1.1 = (-1) then (if ¬ r1.1 = 0 then ((d_263_47 a0 x1 x2 x3 r1.2).map Sum.inr) else (wb (x3 + 1) fun y3 => some (.inl (y3, r1.2)))) else (some (.inr ((-1), r1.2)))
theorem t_263_26 {L nx : Nat} (hN : okn nx) {b z : Nat} {m : Mm} {a0 : Nat} (h0 : ok nx a0 11) {s0 : Nat} (hs0 : ok nx s0 11) {x1 : Int32} {x2 : Int32} {x3 : Int32} {s1 : Int32} {s2 : Int32} {s3 : Bool} {o4 : Option Value} : Im (d_263_26 a0 x1 x2 x3 s0 s1 s2 s3 m) (kL (wI L nx) (E_263_2 L nx b z a0 x1 x2)) (ev_dn b z 263 26 [some (.ref a0), some (.int x1), some (.int x2), some (.int x3), o4] [.int (bi s3), .int s2, .int s1, .ref s0] (nx, mem L nx m)) := by
  unfold d_263_26
  refine i_cv (ci := 11) (t := 261) (na := 4) (ml := 16) (idx := 268) (pc' := 29) (st' := []) (en := [some (.ref s0), some (.int s1), some (.int s2), some (.int (bi s3)), none, none, none, none, none, none, none, none, none, none, none, none]) (av := [.int s1, .int s2, .int (bi s3)]) (vo := fun v => some (.int v.1)) (mo := fun v => v.2) (s2 := fun v => .int v.1 :: []) (by decide +kernel) (by decide +kernel) hs0 ⟨rfl, rfl, rfl, rfl, rfl, rfl⟩ (fun _ => rfl) (t_261 hN (h0 := hs0)) (fun r1 => ?_)
  refine i_bl (pc' := 34) [(.istore 4, 2), (.iload 4, 2), (.iconst (-1), 1)] [some (.ref a0), some (.int x1), some (.int x2), some (.int x3), some (.int r1.1)] [.int (-1), .int r1.1] (by decide +kernel) rfl ?_
  refine i_ic (c := .ne) (off := 5) (t := 39) (pc' := 37) (p := ¬ r1.1 = (-1)) (by decide +kernel) rfl ?_ ?_
  · refine i_bl (pc' := 41) [(.iload 4, 2)] [some (.ref a0), some (.int x1), some (.int x2), some (.int x3), some (.int r1.1)] [.int r1.1] (by decide +kernel) rfl ?_
    refine i_if (c := .ne) (off := 6) (t := 47) (pc' := 44) (p := ¬ r1.1 = 0) (by decide +kernel) rfl ?_ ?_
    · exact i_mr (t_263_47 hN (h0 := h0))
    · refine i_go (t := 56) (off := 12) (by decide +kernel) ?_
      refine i_bl (pc' := 59) [(.iinc 3 (1), 3)] [some (.ref a0), some (.int x1), some (.int x2), some (.int (x3 + 1)), some (.int r1.1)] [] (by decide +kernel) rfl ?_
      refine i_wb (fun y3 => ev_dn b z 263 59 [some (.ref a0), some (.int x1), some (.int x2), some (.int y3), some (.int r1.1)] [] (nx, mem L nx r1.2)) (fun y3 => ?_)
      refine i_go (t := 2) (off := -57) (by decide +kernel) ?_
      exact i_co (some (.int r1.1)) rfl
  · refine i_bl (pc' := 38) [(.iconst (-1), 1)] [some (.ref a0), some (.int x1), some (.int x2), some (.int x3), some (.int r1.1)] [.int (-1)] (by decide +kernel) rfl ?_
    exact i_ir (i_ri (by decide +kernel) rfl)

noncomputable def s_263_2 (a0 : Nat) (x1 : Int32) (x2 : Int32) (x3 : Int32) (m : Mm) : Option ((Int32 × Mm) ⊕ (Int32 × Mm)) := if ev_in 7 (sh_n (sh_r a0 1)) = true then (if (m (sh_r a0 1) (ix 7)) < x3 then (some (.inr (0, m))) else (if x3 ≤ 1 then (d_263_26 a0 x1 x2 x3 a0 x1 x2 false m) else (d_263_26 a0 x1 x2 x3 a0 x1 x2 true m))) else none
noncomputable def d_263_2 (a0 : Nat) (x1 : Int32) (x2 : Int32) (x3 : Int32) (m : Mm) : Option (Int32 × Mm) := it (fun s => s_263_2 a0 x1 x2 s.1 s.2) (x3, m)
theorem e_263_2 (a0 : Nat) (x1 : Int32) (x2 : Int32) (x3 : Int32) (m : Mm) : d_263_2 a0 x1 x2 x3 m = oi (s_263_2 a0 x1 x2 x3 m) (fun s => d_263_2 a0 x1 x2 s.1 s.2) := it_eq _
theorem u_263_2 {L nx : Nat} (hN : okn nx) {b z : Nat} {m : Mm} {a0 : Nat} (h0 : ok nx a0 11) {x1 : Int32} {x2 : Int32} {x3 : Int32} {o4 : Option Value} : Im (s_263_2 a0 x1 x2 x3 m) (kL (wI L nx) (E_263_2 L nx b z a0 x1 x2)) (ev_dn b z 263 2 [some (.ref a0), some (.int x1), some (.int x2), some (.int x3), o4] [] (nx, mem L nx m)) := by
  unfold s_263_2
  refine i_bl (pc' := 4) [(.iload_n 3, 1), (.aload_n 0, 1)] [some (.ref a0), some (.int x1), some (.int x2), some (.int x3), o4] [.ref a0, .int x3] (by decide +kernel) rfl ?_
  refine i_gr (idx := 7) (ci := 11) (k := 1) (t := 2) (p := 16234) (pc' := 7) (by decide +kernel) h0 ?_
  refine i_bl (pc' := 9) [(.bipush (7), 2)] [some (.ref a0), some (.int x1), some (.int x2), some (.int x3), o4] [.int 7, .ref (sh_r a0 1), .int x3] (by decide +kernel) rfl ?_
  refine i_al (pc' := 10) (by decide +kernel) (o_11_1 hN h0) ?_
  refine i_ic (c := .gt) (off := 52) (t := 62) (pc' := 13) (p := (m (sh_r a0 1) (ix 7)) < x3) (by decide +kernel) rfl ?_ ?_
  · refine i_bl (pc' := 63) [(.iconst 0, 1)] [some (.ref a0), some (.int x1), some (.int x2), some (.int x3), o4] [.int 0] (by decide +kernel) rfl ?_
    exact i_ir (i_ri (by decide +kernel) rfl)
  · refine i_bl (pc' := 18) [(.aload_n 0, 1), (.iload_n 1, 1), (.iload_n 2, 1), (.iload_n 3, 1), (.iconst 1, 1)] [some (.ref a0), some (.int x1), some (.int x2), some (.int x3), o4] [.int 1, .int x3, .int x2, .int x1, .ref a0] (by decide +kernel) rfl ?_
    refine i_ic (c := .le) (off := 7) (t := 25) (pc' := 21) (p := x3 ≤ 1) (by decide +kernel) rfl ?_ ?_
    · refine i_bl (pc' := 26) [(.iconst 0, 1)] [some (.ref a0), some (.int x1), some (.int x2), some (.int x3), o4] [.int 0, .int x2, .int x1, .ref a0] (by decide +kernel) rfl ?_
      exact t_263_26 hN (h0 := h0) (hs0 := h0)
    · refine i_bl (pc' := 22) [(.iconst 1, 1)] [some (.ref a0), some (.int x1), some (.int x2), some (.int x3), o4] [.int 1, .int x2, .int x1, .ref a0] (by decide +kernel) rfl ?_
      refine i_go (t := 26) (off := 4) (by decide +kernel) ?_
      exact t_263_26 hN (h0 := h0) (hs0 := h0)

theorem t_263_2 {L nx : Nat} (hN : okn nx) {b z : Nat} {m : Mm} {a0 : Nat} (h0 : ok nx a0 11) {x1 : Int32} {x2 : Int32} {x3 : Int32} {o4 : Option Value} : Im (d_263_2 a0 x1 x2 x3 m) (wI L nx) (ev_dn b z 263 2 [some (.ref a0), some (.int x1), some (.int x2), some (.int x3), o4] [] (nx, mem L nx m)) := by
  exact i_it (f := fun s => s_263_2 a0 x1 x2 s.1 s.2) (E := E_263_2 L nx b z a0 x1 x2) (K := (wI L nx)) (fun d s => u_263_2 hN (h0 := h0)) (o4) (x3, m)
noncomputable def d_263 (a0 : Nat) (x1 : Int32) (x2 : Int32) (m : Mm) : Option (Int32 × Mm) := d_263_2 a0 x1 x2 1 m
theorem t_263 {L nx : Nat} (hN : okn nx) {b z : Nat} {m : Mm} {a0 : Nat} (h0 : ok nx a0 11) {x1 : Int32} {x2 : Int32}  : Im (d_263 a0 x1 x2 m) (wI L nx) (ev_dn b z 263 0 [some (.ref a0), some (.int x1), some (.int x2), none, none] [] (nx, mem L nx m)) := by
  unfold d_263
  refine i_bl (pc' := 2) [(.iconst 1, 1), (.istore_n 3, 1)] [some (.ref a0), some (.int x1), some (.int x2), some (.int 1), none] [] (by decide +kernel) rfl ?_
  exact t_263_2 hN (h0 := h0)

/-! 264 LanternChessModel.goesOn()Z -/
noncomputable def d_264 (a0 : Nat) (m : Mm) : Option Bool := if ev_in 4 (sh_n (sh_r a0 1)) = true then (if ¬ (m (sh_r a0 1) (ix 4)) = 0 then (some false) else (some true)) else none
theorem t_264 {L nx : Nat} (hN : okn nx) {b z : Nat} {m : Mm} {a0 : Nat} (h0 : ok nx a0 11)   : Im (d_264 a0 m) (kZ L nx m) (ev_dn b z 264 0 [some (.ref a0)] [] (nx, mem L nx m)) := by
  unfold d_264
  refine i_bl (pc' := 1) [(.aload_n 0, 1)] [some (.ref a0)] [.ref a0] (by decide +kernel) rfl ?_
  refine i_gr (idx := 7) (ci := 11) (k := 1) (t := 2) (p := 16234) (pc' := 4) (by decide +kernel) h0 ?_
  refine i_bl (pc' := 5) [(.iconst 4, 1)] [some (.ref a0)] [.int 4, .ref (sh_r a0 1)] (by decide +kernel) rfl ?_
  refine i_al (pc' := 6) (by decide +kernel) (o_11_1 hN h0) ?_
  refine i_if (c := .ne) (off := 7) (t := 13) (pc' := 9) (p := ¬ (m (sh_r a0 1) (ix 4)) = 0) (by decide +kernel) rfl ?_ ?_
  · refine i_bl (pc' := 14) [(.iconst 0, 1)] [some (.ref a0)] [.int 0] (by decide +kernel) rfl ?_
    exact i_rz (B := false) (by decide +kernel) rfl
  · refine i_bl (pc' := 10) [(.iconst 1, 1)] [some (.ref a0)] [.int 1] (by decide +kernel) rfl ?_
    refine i_go (t := 14) (off := 4) (by decide +kernel) ?_
    exact i_rz (B := true) (by decide +kernel) rfl

/-! 265 LanternChessModel.isOwnMove(II)Z -/
noncomputable def d_265 (a0 : Nat) (x1 : Int32) (x2 : Int32) (m : Mm) : Option Bool := if ev_in 3 (sh_n (sh_r a0 1)) = true then ((d_194 (m (sh_r a0 1) (ix 3))).bind fun v1 => if ev_in 3 (sh_n (sh_r a0 1)) = true then ((d_203 a0 v1 (m (sh_r a0 1) (ix 3)) x1 x2 m).bind fun v2 => some v2) else none) else none
theorem t_265 {L nx : Nat} (hN : okn nx) {b z : Nat} {m : Mm} {a0 : Nat} (h0 : ok nx a0 11) {x1 : Int32} {x2 : Int32}  : Im (d_265 a0 x1 x2 m) (kZ L nx m) (ev_dn b z 265 0 [some (.ref a0), some (.int x1), some (.int x2)] [] (nx, mem L nx m)) := by
  unfold d_265
  refine i_bl (pc' := 2) [(.aload_n 0, 1), (.aload_n 0, 1)] [some (.ref a0), some (.int x1), some (.int x2)] [.ref a0, .ref a0] (by decide +kernel) rfl ?_
  refine i_gr (idx := 7) (ci := 11) (k := 1) (t := 2) (p := 16234) (pc' := 5) (by decide +kernel) h0 ?_
  refine i_bl (pc' := 6) [(.iconst 3, 1)] [some (.ref a0), some (.int x1), some (.int x2)] [.int 3, .ref (sh_r a0 1), .ref a0] (by decide +kernel) rfl ?_
  refine i_al (pc' := 7) (by decide +kernel) (o_11_1 hN h0) ?_
  refine i_cs (t := 194) (na := 1) (ml := 1) (idx := 165) (pc' := 10) (st' := [.ref a0]) (en := [some (.int (m (sh_r a0 1) (ix 3)))]) (av := [.int (m (sh_r a0 1) (ix 3))]) (vo := fun v => some (.int v)) (mo := fun _ => m) (s2 := fun v => .int v :: [.ref a0]) (by decide +kernel) ⟨rfl, rfl, rfl, rfl, rfl, rfl⟩ (fun _ => rfl) (t_194 hN ) (fun v1 => ?_)
  refine i_bl (pc' := 11) [(.aload_n 0, 1)] [some (.ref a0), some (.int x1), some (.int x2)] [.ref a0, .int v1, .ref a0] (by decide +kernel) rfl ?_
  refine i_gr (idx := 7) (ci := 11) (k := 1) (t := 2) (p := 16234) (pc' := 14) (by decide +kernel) h0 ?_
  refine i_bl (pc' := 15) [(.iconst 3, 1)] [some (.ref a0), some (.int x1), some (.int x2)] [.int 3, .ref (sh_r a0 1), .int v1, .ref a0] (by decide +kernel) rfl ?_
  refine i_al (pc' := 16) (by decide +kernel) (o_11_1 hN h0) ?_
  refine i_bl (pc' := 18) [(.iload_n 1, 1), (.iload_n 2, 1)] [some (.ref a0), some (.int x1), some (.int x2)] [.int x2, .int x1, .int (m (sh_r a0 1) (ix 3)), .int v1, .ref a0] (by decide +kernel) rfl ?_
  refine i_cv (ci := 11) (t := 203) (na := 5) (ml := 7) (idx := 129) (pc' := 21) (st' := []) (en := [some (.ref a0), some (.int v1), some (.int (m (sh_r a0 1) (ix 3))), some (.int x1), some (.int x2), none, none]) (av := [.int v1, .int (m (sh_r a0 1) (ix 3)), .int x1, .int x2]) (vo := fun v => some (.int (bi v))) (mo := fun _ => m) (s2 := fun v => .int (bi v) :: []) (by decide +kernel) (by decide +kernel) h0 ⟨rfl, rfl, rfl, rfl, rfl, rfl⟩ (fun _ => rfl) (t_203 hN (h0 := h0)) (fun v2 => ?_)
  exact i_rz (B := v2) (by decide +kernel) rfl

/-! 266 LanternChessModel.play(IIII)I -/
noncomputable def d_266 (a0 : Nat) (x1 : Int32) (x2 : Int32) (x3 : Int32) (x4 : Int32) (m : Mm) : Option (Int32 × Mm) := (d_253 a0 x1 x2 x3 x4 m).bind fun v1 => (d_183 a0 v1 m).bind fun r2 => if r2.1 = true then ((d_264 a0 r2.2).bind fun v3 => (d_184 a0 v3 2 r2.2).bind fun r4 => if r4.1 = true then ((d_214 a0 x1 x2 r4.2).bind fun v5 => (d_214 a0 x3 x4 r4.2).bind fun v6 => (d_265 a0 v5 v6 r4.2).bind fun v7 => if v7 = true then ((d_188 a0 r4.2).bind fun m8 => (d_263 a0 v5 v6 m8).bind fun r9 => (d_189 a0 r9.1 r9.2).bind fun r10 => some (r10.1, r10.2)) else (some ((-2), r4.2))) else (some (0, r4.2))) else (some (0, r2.2))
theorem t_266 {L nx : Nat} (hN : okn nx) {b z : Nat} {m : Mm} {a0 : Nat} (h0 : ok nx a0 11) {x1 : Int32} {x2 : Int32} {x3 : Int32} {x4 : Int32}  : Im (d_266 a0 x1 x2 x3 x4 m) (wI L nx) (ev_dn b z 266 0 [some (.ref a0), some (.int x1), some (.int x2), some (.int x3), some (.int x4), none, none] [] (nx, mem L nx m)) := by
  unfold d_266
  refine i_bl (pc' := 7) [(.aload_n 0, 1), (.aload_n 0, 1), (.iload_n 1, 1), (.iload_n 2, 1), (.iload_n 3, 1), (.iload 4, 2)] [some (.ref a0), some (.int x1), some (.int x2), some (.int x3), some (.int x4), none, none] [.int x4, .int x3, .int x2, .int x1, .ref a0, .ref a0] (by decide +kernel) rfl ?_
  refine i_cv (ci := 11) (t := 253) (na := 5) (ml := 5) (idx := 239) (pc' := 10) (st' := [.ref a0]) (en := [some (.ref a0), some (.int x1), some (.int x2), some (.int x3), some (.int x4)]) (av := [.int x1, .int x2, .int x3, .int x4]) (vo := fun v => some (.int (bi v))) (mo := fun _ => m) (s2 := fun v => .int (bi v) :: [.ref a0]) (by decide +kernel) (by decide +kernel) h0 ⟨rfl, rfl, rfl, rfl, rfl, rfl⟩ (fun _ => rfl) (t_253 hN (h0 := h0)) (fun v1 => ?_)
  refine i_cv (ci := 11) (t := 183) (na := 2) (ml := 2) (idx := 77) (pc' := 13) (st' := []) (en := [some (.ref a0), some (.int (bi v1))]) (av := [.int (bi v1)]) (vo := fun v => some (.int (bi v.1))) (mo := fun v => v.2) (s2 := fun v => .int (bi v.1) :: []) (by decide +kernel) (by decide +kernel) h0 ⟨rfl, rfl, rfl, rfl, rfl, rfl⟩ (fun _ => rfl) (t_183 hN (h0 := h0)) (fun r2 => ?_)
  refine i_bz (off := 15) (t := 28) (pc' := 16) (by decide +kernel) ?_ ?_
  · refine i_bl (pc' := 18) [(.aload_n 0, 1), (.aload_n 0, 1)] [some (.ref a0), some (.int x1), some (.int x2), some (.int x3), some (.int x4), none, none] [.ref a0, .ref a0] (by decide +kernel) rfl ?_
    refine i_cv (ci := 11) (t := 264) (na := 1) (ml := 1) (idx := 275) (pc' := 21) (st' := [.ref a0]) (en := [some (.ref a0)]) (av := []) (vo := fun v => some (.int (bi v))) (mo := fun _ => r2.2) (s2 := fun v => .int (bi v) :: [.ref a0]) (by decide +kernel) (by decide +kernel) h0 ⟨rfl, rfl, rfl, rfl, rfl, rfl⟩ (fun _ => rfl) (t_264 hN (h0 := h0)) (fun v3 => ?_)
    refine i_bl (pc' := 22) [(.iconst 2, 1)] [some (.ref a0), some (.int x1), some (.int x2), some (.int x3), some (.int x4), none, none] [.int 2, .int (bi v3), .ref a0] (by decide +kernel) rfl ?_
    refine i_cv (ci := 11) (t := 184) (na := 3) (ml := 3) (idx := 161) (pc' := 25) (st' := []) (en := [some (.ref a0), some (.int (bi v3)), some (.int 2)]) (av := [.int (bi v3), .int 2]) (vo := fun v => some (.int (bi v.1))) (mo := fun v => v.2) (s2 := fun v => .int (bi v.1) :: []) (by decide +kernel) (by decide +kernel) h0 ⟨rfl, rfl, rfl, rfl, rfl, rfl⟩ (fun _ => rfl) (t_184 hN (h0 := h0)) (fun r4 => ?_)
    refine i_bn (off := 5) (t := 30) (pc' := 28) (by decide +kernel) ?_ ?_
    · refine i_bl (pc' := 33) [(.aload_n 0, 1), (.iload_n 1, 1), (.iload_n 2, 1)] [some (.ref a0), some (.int x1), some (.int x2), some (.int x3), some (.int x4), none, none] [.int x2, .int x1, .ref a0] (by decide +kernel) rfl ?_
      refine i_cv (ci := 11) (t := 214) (na := 3) (ml := 3) (idx := 168) (pc' := 36) (st' := []) (en := [some (.ref a0), some (.int x1), some (.int x2)]) (av := [.int x1, .int x2]) (vo := fun v => some (.int v)) (mo := fun _ => r4.2) (s2 := fun v => .int v :: []) (by decide +kernel) (by decide +kernel) h0 ⟨rfl, rfl, rfl, rfl, rfl, rfl⟩ (fun _ => rfl) (t_214 hN (h0 := h0)) (fun v5 => ?_)
      refine i_bl (pc' := 42) [(.istore 5, 2), (.aload_n 0, 1), (.iload_n 3, 1), (.iload 4, 2)] [some (.ref a0), some (.int x1), some (.int x2), some (.int x3), some (.int x4), some (.int v5), none] [.int x4, .int x3, .ref a0] (by decide +kernel) rfl ?_
      refine i_cv (ci := 11) (t := 214) (na := 3) (ml := 3) (idx := 168) (pc' := 45) (st' := []) (en := [some (.ref a0), some (.int x3), some (.int x4)]) (av := [.int x3, .int x4]) (vo := fun v => some (.int v)) (mo := fun _ => r4.2) (s2 := fun v => .int v :: []) (by decide +kernel) (by decide +kernel) h0 ⟨rfl, rfl, rfl, rfl, rfl, rfl⟩ (fun _ => rfl) (t_214 hN (h0 := h0)) (fun v6 => ?_)
      refine i_bl (pc' := 52) [(.istore 6, 2), (.aload_n 0, 1), (.iload 5, 2), (.iload 6, 2)] [some (.ref a0), some (.int x1), some (.int x2), some (.int x3), some (.int x4), some (.int v5), some (.int v6)] [.int v6, .int v5, .ref a0] (by decide +kernel) rfl ?_
      refine i_cv (ci := 11) (t := 265) (na := 3) (ml := 3) (idx := 278) (pc' := 55) (st' := []) (en := [some (.ref a0), some (.int v5), some (.int v6)]) (av := [.int v5, .int v6]) (vo := fun v => some (.int (bi v))) (mo := fun _ => r4.2) (s2 := fun v => .int (bi v) :: []) (by decide +kernel) (by decide +kernel) h0 ⟨rfl, rfl, rfl, rfl, rfl, rfl⟩ (fun _ => rfl) (t_265 hN (h0 := h0)) (fun v7 => ?_)
      refine i_bn (off := 6) (t := 61) (pc' := 58) (by decide +kernel) ?_ ?_
      · refine i_bl (pc' := 62) [(.aload_n 0, 1)] [some (.ref a0), some (.int x1), some (.int x2), some (.int x3), some (.int x4), some (.int v5), some (.int v6)] [.ref a0] (by decide +kernel) rfl ?_
        refine i_cv (ci := 11) (t := 188) (na := 1) (ml := 1) (idx := 281) (pc' := 65) (st' := []) (en := [some (.ref a0)]) (av := []) (vo := fun _ => none) (mo := fun m => m) (s2 := fun _ => []) (by decide +kernel) (by decide +kernel) h0 ⟨rfl, rfl, rfl, rfl, rfl, rfl⟩ (fun _ => rfl) (t_188 hN (h0 := h0)) (fun m8 => ?_)
        refine i_bl (pc' := 71) [(.aload_n 0, 1), (.aload_n 0, 1), (.iload 5, 2), (.iload 6, 2)] [some (.ref a0), some (.int x1), some (.int x2), some (.int x3), some (.int x4), some (.int v5), some (.int v6)] [.int v6, .int v5, .ref a0, .ref a0] (by decide +kernel) rfl ?_
        refine i_cv (ci := 11) (t := 263) (na := 3) (ml := 5) (idx := 284) (pc' := 74) (st' := [.ref a0]) (en := [some (.ref a0), some (.int v5), some (.int v6), none, none]) (av := [.int v5, .int v6]) (vo := fun v => some (.int v.1)) (mo := fun v => v.2) (s2 := fun v => .int v.1 :: [.ref a0]) (by decide +kernel) (by decide +kernel) h0 ⟨rfl, rfl, rfl, rfl, rfl, rfl⟩ (fun _ => rfl) (t_263 hN (h0 := h0)) (fun r9 => ?_)
        refine i_cv (ci := 11) (t := 189) (na := 2) (ml := 3) (idx := 287) (pc' := 77) (st' := []) (en := [some (.ref a0), some (.int r9.1), none]) (av := [.int r9.1]) (vo := fun v => some (.int v.1)) (mo := fun v => v.2) (s2 := fun v => .int v.1 :: []) (by decide +kernel) (by decide +kernel) h0 ⟨rfl, rfl, rfl, rfl, rfl, rfl⟩ (fun _ => rfl) (t_189 hN (h0 := h0)) (fun r10 => ?_)
        exact i_ri (by decide +kernel) rfl
      · refine i_bl (pc' := 60) [(.bipush (-2), 2)] [some (.ref a0), some (.int x1), some (.int x2), some (.int x3), some (.int x4), some (.int v5), some (.int v6)] [.int (-2)] (by decide +kernel) rfl ?_
        exact i_ri (by decide +kernel) rfl
    · refine i_bl (pc' := 29) [(.iconst 0, 1)] [some (.ref a0), some (.int x1), some (.int x2), some (.int x3), some (.int x4), none, none] [.int 0] (by decide +kernel) rfl ?_
      exact i_ri (by decide +kernel) rfl
  · refine i_bl (pc' := 29) [(.iconst 0, 1)] [some (.ref a0), some (.int x1), some (.int x2), some (.int x3), some (.int x4), none, none] [.int 0] (by decide +kernel) rfl ?_
    exact i_ri (by decide +kernel) rfl

/-! 267 LanternChessModel.laysBack(I)I -/
noncomputable def d_267 (a0 : Nat) (x1 : Int32) (m : Mm) : Option (Int32 × Mm) := (d_186 (sh_r a0 3) (sh_r a0 1) m).bind fun m1 => some (x1, m1)
theorem t_267 {L nx : Nat} (hN : okn nx) {b z : Nat} {m : Mm} {a0 : Nat} (h0 : ok nx a0 11) {x1 : Int32}  : Im (d_267 a0 x1 m) (wI L nx) (ev_dn b z 267 0 [some (.ref a0), some (.int x1)] [] (nx, mem L nx m)) := by
  unfold d_267
  refine i_bl (pc' := 1) [(.aload_n 0, 1)] [some (.ref a0), some (.int x1)] [.ref a0] (by decide +kernel) rfl ?_
  refine i_gr (idx := 16) (ci := 11) (k := 3) (t := 2) (p := 16236) (pc' := 4) (by decide +kernel) h0 ?_
  refine i_bl (pc' := 5) [(.aload_n 0, 1)] [some (.ref a0), some (.int x1)] [.ref a0, .ref (sh_r a0 3)] (by decide +kernel) rfl ?_
  refine i_gr (idx := 7) (ci := 11) (k := 1) (t := 2) (p := 16234) (pc' := 8) (by decide +kernel) h0 ?_
  refine i_cs (t := 186) (na := 2) (ml := 3) (idx := 70) (pc' := 11) (st' := []) (en := [some (.ref (sh_r a0 3)), some (.ref (sh_r a0 1)), none]) (av := [.ref (sh_r a0 3), .ref (sh_r a0 1)]) (vo := fun _ => none) (mo := fun m => m) (s2 := fun _ => []) (by decide +kernel) ⟨rfl, rfl, rfl, rfl, rfl, rfl⟩ (fun _ => rfl) (t_186 hN (h0 := (o_11_3 hN h0)) (h1 := (o_11_1 hN h0))) (fun m1 => ?_)
  refine i_bl (pc' := 12) [(.iload_n 1, 1)] [some (.ref a0), some (.int x1)] [.int x1] (by decide +kernel) rfl ?_
  exact i_ri (by decide +kernel) rfl

/-! 268 LanternChessModel.ifPlayed(IIIII)I -/
noncomputable def d_268_167 (s0 : Nat) (s1 : Int32) (m : Mm) : Option (Int32 × Mm) := (d_267 s0 s1 m).bind fun r10 => some (r10.1, r10.2)
theorem t_268_167 {L nx : Nat} (hN : okn nx) {b z : Nat} {m : Mm} {s0 : Nat} (hs0 : ok nx s0 11) {s1 : Int32} {o0 : Option Value} {o1 : Option Value} {o2 : Option Value} {o3 : Option Value} {o4 : Option Value} {o5 : Option Value} {o6 : Option Value} {o7 : Option Value} {o8 : Option Value} : Im (d_268_167 s0 s1 m) (wI L nx) (ev_dn b z 268 167 [o0, o1, o2, o3, o4, o5, o6, o7, o8] [.int s1, .ref s0] (nx, mem L nx m)) := by
  unfold d_268_167
  refine i_cv (ci := 11) (t := 267) (na := 2) (ml := 2) (idx := 290) (pc' := 170) (st' := []) (en := [some (.ref s0), some (.int s1)]) (av := [.int s1]) (vo := fun v => some (.int v.1)) (mo := fun v => v.2) (s2 := fun v => .int v.1 :: []) (by decide +kernel) (by decide +kernel) hs0 ⟨rfl, rfl, rfl, rfl, rfl, rfl⟩ (fun _ => rfl) (t_267 hN (h0 := hs0)) (fun r10 => ?_)
  exact i_ri (by decide +kernel) rfl

noncomputable def d_268_103 (a0 : Nat) (x5 : Int32) (s0 : Int32) (m : Mm) : Option (Int32 × Mm) := if ¬ x5 = 0 then (if ¬ x5 = 1 then (if ¬ x5 = 2 then ((d_264 a0 m).bind fun v9 => if v9 = true then (d_268_167 a0 0 m) else (d_268_167 a0 1 m)) else ((d_227 a0 m).bind fun v11 => d_268_167 a0 v11 m)) else (if ev_in 2 (sh_n (sh_r a0 1)) = true then (if ev_in 2 (sh_n (sh_r a0 3)) = true then ((d_267 a0 ((m (sh_r a0 1) (ix 2)) - (m (sh_r a0 3) (ix 2))) m).bind fun r12 => some (r12.1, r12.2)) else none) else none)) else ((d_267 a0 s0 m).bind fun r13 => some (r13.1, r13.2))
theorem t_268_103 {L nx : Nat} (hN : okn nx) {b z : Nat} {m : Mm} {a0 : Nat} (h0 : ok nx a0 11) {x5 : Int32} {s0 : Int32} {o1 : Option Value} {o2 : Option Value} {o3 : Option Value} {o4 : Option Value} {o6 : Option Value} {o7 : Option Value} : Im (d_268_103 a0 x5 s0 m) (wI L nx) (ev_dn b z 268 103 [some (.ref a0), o1, o2, o3, o4, some (.int x5), o6, o7, none] [.int s0] (nx, mem L nx m)) := by
  unfold d_268_103
  refine i_bl (pc' := 107) [(.istore 8, 2), (.iload 5, 2)] [some (.ref a0), o1, o2, o3, o4, some (.int x5), o6, (ev_kl o7), some (.int s0)] [.int x5] (by decide +kernel) rfl ?_
  refine i_if (c := .ne) (off := 10) (t := 117) (pc' := 110) (p := ¬ x5 = 0) (by decide +kernel) rfl ?_ ?_
  · refine i_bl (pc' := 120) [(.iload 5, 2), (.iconst 1, 1)] [some (.ref a0), o1, o2, o3, o4, some (.int x5), o6, (ev_kl o7), some (.int s0)] [.int 1, .int x5] (by decide +kernel) rfl ?_
    refine i_ic (c := .ne) (off := 21) (t := 141) (pc' := 123) (p := ¬ x5 = 1) (by decide +kernel) rfl ?_ ?_
    · refine i_bl (pc' := 145) [(.aload_n 0, 1), (.iload 5, 2), (.iconst 2, 1)] [some (.ref a0), o1, o2, o3, o4, some (.int x5), o6, (ev_kl o7), some (.int s0)] [.int 2, .int x5, .ref a0] (by decide +kernel) rfl ?_
      refine i_ic (c := .ne) (off := 10) (t := 155) (pc' := 148) (p := ¬ x5 = 2) (by decide +kernel) rfl ?_ ?_
      · refine i_bl (pc' := 156) [(.aload_n 0, 1)] [some (.ref a0), o1, o2, o3, o4, some (.int x5), o6, (ev_kl o7), some (.int s0)] [.ref a0, .ref a0] (by decide +kernel) rfl ?_
        refine i_cv (ci := 11) (t := 264) (na := 1) (ml := 1) (idx := 275) (pc' := 159) (st' := [.ref a0]) (en := [some (.ref a0)]) (av := []) (vo := fun v => some (.int (bi v))) (mo := fun _ => m) (s2 := fun v => .int (bi v) :: [.ref a0]) (by decide +kernel) (by decide +kernel) h0 ⟨rfl, rfl, rfl, rfl, rfl, rfl⟩ (fun _ => rfl) (t_264 hN (h0 := h0)) (fun v9 => ?_)
        refine i_bz (off := 7) (t := 166) (pc' := 162) (by decide +kernel) ?_ ?_
        · refine i_bl (pc' := 163) [(.iconst 0, 1)] [some (.ref a0), o1, o2, o3, o4, some (.int x5), o6, (ev_kl o7), some (.int s0)] [.int 0, .ref a0] (by decide +kernel) rfl ?_
          refine i_go (t := 167) (off := 4) (by decide +kernel) ?_
          exact t_268_167 hN (hs0 := h0)
        · refine i_bl (pc' := 167) [(.iconst 1, 1)] [some (.ref a0), o1, o2, o3, o4, some (.int x5), o6, (ev_kl o7), some (.int s0)] [.int 1, .ref a0] (by decide +kernel) rfl ?_
          exact t_268_167 hN (hs0 := h0)
      · refine i_bl (pc' := 149) [(.aload_n 0, 1)] [some (.ref a0), o1, o2, o3, o4, some (.int x5), o6, (ev_kl o7), some (.int s0)] [.ref a0, .ref a0] (by decide +kernel) rfl ?_
        refine i_cv (ci := 11) (t := 227) (na := 1) (ml := 3) (idx := 185) (pc' := 152) (st' := [.ref a0]) (en := [some (.ref a0), none, none]) (av := []) (vo := fun v => some (.int v)) (mo := fun _ => m) (s2 := fun v => .int v :: [.ref a0]) (by decide +kernel) (by decide +kernel) h0 ⟨rfl, rfl, rfl, rfl, rfl, rfl⟩ (fun _ => rfl) (t_227 hN (h0 := h0)) (fun v11 => ?_)
        refine i_go (t := 167) (off := 15) (by decide +kernel) ?_
        exact t_268_167 hN (hs0 := h0)
    · refine i_bl (pc' := 125) [(.aload_n 0, 1), (.aload_n 0, 1)] [some (.ref a0), o1, o2, o3, o4, some (.int x5), o6, (ev_kl o7), some (.int s0)] [.ref a0, .ref a0] (by decide +kernel) rfl ?_
      refine i_gr (idx := 7) (ci := 11) (k := 1) (t := 2) (p := 16234) (pc' := 128) (by decide +kernel) h0 ?_
      refine i_bl (pc' := 129) [(.iconst 2, 1)] [some (.ref a0), o1, o2, o3, o4, some (.int x5), o6, (ev_kl o7), some (.int s0)] [.int 2, .ref (sh_r a0 1), .ref a0] (by decide +kernel) rfl ?_
      refine i_al (pc' := 130) (by decide +kernel) (o_11_1 hN h0) ?_
      refine i_bl (pc' := 131) [(.aload_n 0, 1)] [some (.ref a0), o1, o2, o3, o4, some (.int x5), o6, (ev_kl o7), some (.int s0)] [.ref a0, .int (m (sh_r a0 1) (ix 2)), .ref a0] (by decide +kernel) rfl ?_
      refine i_gr (idx := 16) (ci := 11) (k := 3) (t := 2) (p := 16236) (pc' := 134) (by decide +kernel) h0 ?_
      refine i_bl (pc' := 135) [(.iconst 2, 1)] [some (.ref a0), o1, o2, o3, o4, some (.int x5), o6, (ev_kl o7), some (.int s0)] [.int 2, .ref (sh_r a0 3), .int (m (sh_r a0 1) (ix 2)), .ref a0] (by decide +kernel) rfl ?_
      refine i_al (pc' := 136) (by decide +kernel) (o_11_3 hN h0) ?_
      refine i_bl (pc' := 137) [(.isub, 1)] [some (.ref a0), o1, o2, o3, o4, some (.int x5), o6, (ev_kl o7), some (.int s0)] [.int ((m (sh_r a0 1) (ix 2)) - (m (sh_r a0 3) (ix 2))), .ref a0] (by decide +kernel) rfl ?_
      refine i_cv (ci := 11) (t := 267) (na := 2) (ml := 2) (idx := 290) (pc' := 140) (st' := []) (en := [some (.ref a0), some (.int ((m (sh_r a0 1) (ix 2)) - (m (sh_r a0 3) (ix 2))))]) (av := [.int ((m (sh_r a0 1) (ix 2)) - (m (sh_r a0 3) (ix 2)))]) (vo := fun v => some (.int v.1)) (mo := fun v => v.2) (s2 := fun v => .int v.1 :: []) (by decide +kernel) (by decide +kernel) h0 ⟨rfl, rfl, rfl, rfl, rfl, rfl⟩ (fun _ => rfl) (t_267 hN (h0 := h0)) (fun r12 => ?_)
      exact i_ri (by decide +kernel) rfl
  · refine i_bl (pc' := 113) [(.aload_n 0, 1), (.iload 8, 2)] [some (.ref a0), o1, o2, o3, o4, some (.int x5), o6, (ev_kl o7), some (.int s0)] [.int s0, .ref a0] (by decide +kernel) rfl ?_
    refine i_cv (ci := 11) (t := 267) (na := 2) (ml := 2) (idx := 290) (pc' := 116) (st' := []) (en := [some (.ref a0), some (.int s0)]) (av := [.int s0]) (vo := fun v => some (.int v.1)) (mo := fun v => v.2) (s2 := fun v => .int v.1 :: []) (by decide +kernel) (by decide +kernel) h0 ⟨rfl, rfl, rfl, rfl, rfl, rfl⟩ (fun _ => rfl) (t_267 hN (h0 := h0)) (fun r13 => ?_)
    exact i_ri (by decide +kernel) rfl

noncomputable def d_268_31 (a0 : Nat) (x1 : Int32) (x2 : Int32) (x3 : Int32) (x4 : Int32) (x5 : Int32) (s0 : Nat) (s1 : Bool) (m : Mm) : Option (Int32 × Mm) := (d_183 s0 s1 m).bind fun r2 => if r2.1 = true then ((d_264 a0 r2.2).bind fun v3 => (d_184 a0 v3 2 r2.2).bind fun r4 => if r4.1 = true then ((d_186 (sh_r a0 1) (sh_r a0 3) r4.2).bind fun m5 => (d_214 a0 x1 x2 m5).bind fun v6 => (d_214 a0 x3 x4 m5).bind fun v7 => (d_265 a0 v6 v7 m5).bind fun v8 => if v8 = true then ((d_263 a0 v6 v7 m5).bind fun r14 => d_268_103 a0 x5 r14.1 r14.2) else (d_268_103 a0 x5 (-2) m5)) else (some (0, r4.2))) else (some (0, r2.2))
theorem t_268_31 {L nx : Nat} (hN : okn nx) {b z : Nat} {m : Mm} {a0 : Nat} (h0 : ok nx a0 11) {s0 : Nat} (hs0 : ok nx s0 11) {x1 : Int32} {x2 : Int32} {x3 : Int32} {x4 : Int32} {x5 : Int32} {s1 : Bool}  : Im (d_268_31 a0 x1 x2 x3 x4 x5 s0 s1 m) (wI L nx) (ev_dn b z 268 31 [some (.ref a0), some (.int x1), some (.int x2), some (.int x3), some (.int x4), some (.int x5), none, none, none] [.int (bi s1), .ref s0] (nx, mem L nx m)) := by
  unfold d_268_31
  refine i_cv (ci := 11) (t := 183) (na := 2) (ml := 2) (idx := 77) (pc' := 34) (st' := []) (en := [some (.ref s0), some (.int (bi s1))]) (av := [.int (bi s1)]) (vo := fun v => some (.int (bi v.1))) (mo := fun v => v.2) (s2 := fun v => .int (bi v.1) :: []) (by decide +kernel) (by decide +kernel) hs0 ⟨rfl, rfl, rfl, rfl, rfl, rfl⟩ (fun _ => rfl) (t_183 hN (h0 := hs0)) (fun r2 => ?_)
  refine i_bz (off := 15) (t := 49) (pc' := 37) (by decide +kernel) ?_ ?_
  · refine i_bl (pc' := 39) [(.aload_n 0, 1), (.aload_n 0, 1)] [some (.ref a0), some (.int x1), some (.int x2), some (.int x3), some (.int x4), some (.int x5), none, none, none] [.ref a0, .ref a0] (by decide +kernel) rfl ?_
    refine i_cv (ci := 11) (t := 264) (na := 1) (ml := 1) (idx := 275) (pc' := 42) (st' := [.ref a0]) (en := [some (.ref a0)]) (av := []) (vo := fun v => some (.int (bi v))) (mo := fun _ => r2.2) (s2 := fun v => .int (bi v) :: [.ref a0]) (by decide +kernel) (by decide +kernel) h0 ⟨rfl, rfl, rfl, rfl, rfl, rfl⟩ (fun _ => rfl) (t_264 hN (h0 := h0)) (fun v3 => ?_)
    refine i_bl (pc' := 43) [(.iconst 2, 1)] [some (.ref a0), some (.int x1), some (.int x2), some (.int x3), some (.int x4), some (.int x5), none, none, none] [.int 2, .int (bi v3), .ref a0] (by decide +kernel) rfl ?_
    refine i_cv (ci := 11) (t := 184) (na := 3) (ml := 3) (idx := 161) (pc' := 46) (st' := []) (en := [some (.ref a0), some (.int (bi v3)), some (.int 2)]) (av := [.int (bi v3), .int 2]) (vo := fun v => some (.int (bi v.1))) (mo := fun v => v.2) (s2 := fun v => .int (bi v.1) :: []) (by decide +kernel) (by decide +kernel) h0 ⟨rfl, rfl, rfl, rfl, rfl, rfl⟩ (fun _ => rfl) (t_184 hN (h0 := h0)) (fun r4 => ?_)
    refine i_bn (off := 5) (t := 51) (pc' := 49) (by decide +kernel) ?_ ?_
    · refine i_bl (pc' := 52) [(.aload_n 0, 1)] [some (.ref a0), some (.int x1), some (.int x2), some (.int x3), some (.int x4), some (.int x5), none, none, none] [.ref a0] (by decide +kernel) rfl ?_
      refine i_gr (idx := 7) (ci := 11) (k := 1) (t := 2) (p := 16234) (pc' := 55) (by decide +kernel) h0 ?_
      refine i_bl (pc' := 56) [(.aload_n 0, 1)] [some (.ref a0), some (.int x1), some (.int x2), some (.int x3), some (.int x4), some (.int x5), none, none, none] [.ref a0, .ref (sh_r a0 1)] (by decide +kernel) rfl ?_
      refine i_gr (idx := 16) (ci := 11) (k := 3) (t := 2) (p := 16236) (pc' := 59) (by decide +kernel) h0 ?_
      refine i_cs (t := 186) (na := 2) (ml := 3) (idx := 70) (pc' := 62) (st' := []) (en := [some (.ref (sh_r a0 1)), some (.ref (sh_r a0 3)), none]) (av := [.ref (sh_r a0 1), .ref (sh_r a0 3)]) (vo := fun _ => none) (mo := fun m => m) (s2 := fun _ => []) (by decide +kernel) ⟨rfl, rfl, rfl, rfl, rfl, rfl⟩ (fun _ => rfl) (t_186 hN (h0 := (o_11_1 hN h0)) (h1 := (o_11_3 hN h0))) (fun m5 => ?_)
      refine i_bl (pc' := 65) [(.aload_n 0, 1), (.iload_n 1, 1), (.iload_n 2, 1)] [some (.ref a0), some (.int x1), some (.int x2), some (.int x3), some (.int x4), some (.int x5), none, none, none] [.int x2, .int x1, .ref a0] (by decide +kernel) rfl ?_
      refine i_cv (ci := 11) (t := 214) (na := 3) (ml := 3) (idx := 168) (pc' := 68) (st' := []) (en := [some (.ref a0), some (.int x1), some (.int x2)]) (av := [.int x1, .int x2]) (vo := fun v => some (.int v)) (mo := fun _ => m5) (s2 := fun v => .int v :: []) (by decide +kernel) (by decide +kernel) h0 ⟨rfl, rfl, rfl, rfl, rfl, rfl⟩ (fun _ => rfl) (t_214 hN (h0 := h0)) (fun v6 => ?_)
      refine i_bl (pc' := 74) [(.istore 6, 2), (.aload_n 0, 1), (.iload_n 3, 1), (.iload 4, 2)] [some (.ref a0), some (.int x1), some (.int x2), some (.int x3), some (.int x4), some (.int x5), some (.int v6), none, none] [.int x4, .int x3, .ref a0] (by decide +kernel) rfl ?_
      refine i_cv (ci := 11) (t := 214) (na := 3) (ml := 3) (idx := 168) (pc' := 77) (st' := []) (en := [some (.ref a0), some (.int x3), some (.int x4)]) (av := [.int x3, .int x4]) (vo := fun v => some (.int v)) (mo := fun _ => m5) (s2 := fun v => .int v :: []) (by decide +kernel) (by decide +kernel) h0 ⟨rfl, rfl, rfl, rfl, rfl, rfl⟩ (fun _ => rfl) (t_214 hN (h0 := h0)) (fun v7 => ?_)
      refine i_bl (pc' := 84) [(.istore 7, 2), (.aload_n 0, 1), (.iload 6, 2), (.iload 7, 2)] [some (.ref a0), some (.int x1), some (.int x2), some (.int x3), some (.int x4), some (.int x5), some (.int v6), some (.int v7), none] [.int v7, .int v6, .ref a0] (by decide +kernel) rfl ?_
      refine i_cv (ci := 11) (t := 265) (na := 3) (ml := 3) (idx := 278) (pc' := 87) (st' := []) (en := [some (.ref a0), some (.int v6), some (.int v7)]) (av := [.int v6, .int v7]) (vo := fun v => some (.int (bi v))) (mo := fun _ => m5) (s2 := fun v => .int (bi v) :: []) (by decide +kernel) (by decide +kernel) h0 ⟨rfl, rfl, rfl, rfl, rfl, rfl⟩ (fun _ => rfl) (t_265 hN (h0 := h0)) (fun v8 => ?_)
      refine i_bz (off := 14) (t := 101) (pc' := 90) (by decide +kernel) ?_ ?_
      · refine i_bl (pc' := 95) [(.aload_n 0, 1), (.iload 6, 2), (.iload 7, 2)] [some (.ref a0), some (.int x1), some (.int x2), some (.int x3), some (.int x4), some (.int x5), some (.int v6), some (.int v7), none] [.int v7, .int v6, .ref a0] (by decide +kernel) rfl ?_
        refine i_cv (ci := 11) (t := 263) (na := 3) (ml := 5) (idx := 284) (pc' := 98) (st' := []) (en := [some (.ref a0), some (.int v6), some (.int v7), none, none]) (av := [.int v6, .int v7]) (vo := fun v => some (.int v.1)) (mo := fun v => v.2) (s2 := fun v => .int v.1 :: []) (by decide +kernel) (by decide +kernel) h0 ⟨rfl, rfl, rfl, rfl, rfl, rfl⟩ (fun _ => rfl) (t_263 hN (h0 := h0)) (fun r14 => ?_)
        refine i_go (t := 103) (off := 5) (by decide +kernel) ?_
        exact t_268_103 hN (h0 := h0)
      · refine i_bl (pc' := 103) [(.bipush (-2), 2)] [some (.ref a0), some (.int x1), some (.int x2), some (.int x3), some (.int x4), some (.int x5), some (.int v6), some (.int v7), none] [.int (-2)] (by decide +kernel) rfl ?_
        exact t_268_103 hN (h0 := h0)
    · refine i_bl (pc' := 50) [(.iconst 0, 1)] [some (.ref a0), some (.int x1), some (.int x2), some (.int x3), some (.int x4), some (.int x5), none, none, none] [.int 0] (by decide +kernel) rfl ?_
      exact i_ri (by decide +kernel) rfl
  · refine i_bl (pc' := 50) [(.iconst 0, 1)] [some (.ref a0), some (.int x1), some (.int x2), some (.int x3), some (.int x4), some (.int x5), none, none, none] [.int 0] (by decide +kernel) rfl ?_
    exact i_ri (by decide +kernel) rfl

noncomputable def d_268 (a0 : Nat) (x1 : Int32) (x2 : Int32) (x3 : Int32) (x4 : Int32) (x5 : Int32) (m : Mm) : Option (Int32 × Mm) := (d_253 a0 x1 x2 x3 x4 m).bind fun v1 => if v1 = true then ((d_185 x5 0 3).bind fun v15 => if v15 = true then (d_268_31 a0 x1 x2 x3 x4 x5 a0 true m) else (d_268_31 a0 x1 x2 x3 x4 x5 a0 false m)) else (d_268_31 a0 x1 x2 x3 x4 x5 a0 false m)
theorem t_268 {L nx : Nat} (hN : okn nx) {b z : Nat} {m : Mm} {a0 : Nat} (h0 : ok nx a0 11) {x1 : Int32} {x2 : Int32} {x3 : Int32} {x4 : Int32} {x5 : Int32}  : Im (d_268 a0 x1 x2 x3 x4 x5 m) (wI L nx) (ev_dn b z 268 0 [some (.ref a0), some (.int x1), some (.int x2), some (.int x3), some (.int x4), some (.int x5), none, none, none] [] (nx, mem L nx m)) := by
  unfold d_268
  refine i_bl (pc' := 7) [(.aload_n 0, 1), (.aload_n 0, 1), (.iload_n 1, 1), (.iload_n 2, 1), (.iload_n 3, 1), (.iload 4, 2)] [some (.ref a0), some (.int x1), some (.int x2), some (.int x3), some (.int x4), some (.int x5), none, none, none] [.int x4, .int x3, .int x2, .int x1, .ref a0, .ref a0] (by decide +kernel) rfl ?_
  refine i_cv (ci := 11) (t := 253) (na := 5) (ml := 5) (idx := 239) (pc' := 10) (st' := [.ref a0]) (en := [some (.ref a0), some (.int x1), some (.int x2), some (.int x3), some (.int x4)]) (av := [.int x1, .int x2, .int x3, .int x4]) (vo := fun v => some (.int (bi v))) (mo := fun _ => m) (s2 := fun v => .int (bi v) :: [.ref a0]) (by decide +kernel) (by decide +kernel) h0 ⟨rfl, rfl, rfl, rfl, rfl, rfl⟩ (fun _ => rfl) (t_253 hN (h0 := h0)) (fun v1 => ?_)
  refine i_bz (off := 20) (t := 30) (pc' := 13) (by decide +kernel) ?_ ?_
  · refine i_bl (pc' := 17) [(.iload 5, 2), (.i2l, 1), (.lconst 0, 1)] [some (.ref a0), some (.int x1), some (.int x2), some (.int x3), some (.int x4), some (.int x5), none, none, none] [.long (0 : Int32).toInt64, .long x5.toInt64, .ref a0] (by decide +kernel) rfl ?_
    refine i_l2 (idx := 174) (p := 17195) (x := 3) (pc' := 20) (by decide +kernel) ?_
    refine i_cs (t := 185) (na := 3) (ml := 6) (idx := 148) (pc' := 23) (st' := [.ref a0]) (en := [some (.long x5.toInt64), none, some (.long (0 : Int32).toInt64), none, some (.long (3 : Int32).toInt64), none]) (av := [.long x5.toInt64, .long (0 : Int32).toInt64, .long (3 : Int32).toInt64]) (vo := fun v => some (.int (bi v))) (mo := fun _ => m) (s2 := fun v => .int (bi v) :: [.ref a0]) (by decide +kernel) ⟨rfl, rfl, rfl, rfl, rfl, rfl⟩ (fun _ => rfl) (t_185 hN ) (fun v15 => ?_)
    refine i_bz (off := 7) (t := 30) (pc' := 26) (by decide +kernel) ?_ ?_
    · refine i_bl (pc' := 27) [(.iconst 1, 1)] [some (.ref a0), some (.int x1), some (.int x2), some (.int x3), some (.int x4), some (.int x5), none, none, none] [.int 1, .ref a0] (by decide +kernel) rfl ?_
      refine i_go (t := 31) (off := 4) (by decide +kernel) ?_
      exact t_268_31 hN (h0 := h0) (hs0 := h0)
    · refine i_bl (pc' := 31) [(.iconst 0, 1)] [some (.ref a0), some (.int x1), some (.int x2), some (.int x3), some (.int x4), some (.int x5), none, none, none] [.int 0, .ref a0] (by decide +kernel) rfl ?_
      exact t_268_31 hN (h0 := h0) (hs0 := h0)
  · refine i_bl (pc' := 31) [(.iconst 0, 1)] [some (.ref a0), some (.int x1), some (.int x2), some (.int x3), some (.int x4), some (.int x5), none, none, none] [.int 0, .ref a0] (by decide +kernel) rfl ?_
    exact t_268_31 hN (h0 := h0) (hs0 := h0)

/-! 269 LanternChessModel.delay(IIIII)I -/
noncomputable def E_269_104 (L nx b z : Nat) (a0 : Nat) (x5 : Int32) (x6 : Int32) (x7 : Int32) (x8 : Int32) (d : Option Value × Option Value × Option Value × Option Value) (s : (Int32 × Mm)) : ev_Q := ev_dn b z 269 104 [some (.ref a0), d.1, d.2.1, d.2.2.1, d.2.2.2, some (.int x5), some (.int x6), some (.int x7), some (.int x8), some (.int s.1)] [] (nx, mem L nx s.2)
noncomputable def d_269_200 (a0 : Nat) (m : Mm) : Option (Int32 × Mm) := (d_267 a0 (-1) m).bind fun r10 => some (r10.1, r10.2)
theorem t_269_200 {L nx : Nat} (hN : okn nx) {b z : Nat} {m : Mm} {a0 : Nat} (h0 : ok nx a0 11)  {o1 : Option Value} {o2 : Option Value} {o3 : Option Value} {o4 : Option Value} {o5 : Option Value} {o6 : Option Value} {o7 : Option Value} {o8 : Option Value} {o9 : Option Value} : Im (d_269_200 a0 m) (wI L nx) (ev_dn b z 269 200 [some (.ref a0), o1, o2, o3, o4, o5, o6, o7, o8, o9] [] (nx, mem L nx m)) := by
  unfold d_269_200
  refine i_bl (pc' := 202) [(.aload_n 0, 1), (.iconst (-1), 1)] [some (.ref a0), o1, o2, o3, o4, o5, o6, o7, o8, o9] [.int (-1), .ref a0] (by decide +kernel) rfl ?_
  refine i_cv (ci := 11) (t := 267) (na := 2) (ml := 2) (idx := 290) (pc' := 205) (st' := []) (en := [some (.ref a0), some (.int (-1))]) (av := [.int (-1)]) (vo := fun v => some (.int v.1)) (mo := fun v => v.2) (s2 := fun v => .int v.1 :: []) (by decide +kernel) (by decide +kernel) h0 ⟨rfl, rfl, rfl, rfl, rfl, rfl⟩ (fun _ => rfl) (t_267 hN (h0 := h0)) (fun r10 => ?_)
  exact i_ri (by decide +kernel) rfl

noncomputable def d_269_176 (a0 : Nat) (x9 : Int32) (m : Mm) : Option (Int32 × Mm) := (d_267 a0 x9 m).bind fun r16 => some (r16.1, r16.2)
theorem t_269_176 {L nx : Nat} (hN : okn nx) {b z : Nat} {m : Mm} {a0 : Nat} (h0 : ok nx a0 11) {x9 : Int32} {o1 : Option Value} {o2 : Option Value} {o3 : Option Value} {o4 : Option Value} {o5 : Option Value} {o6 : Option Value} {o7 : Option Value} {o8 : Option Value} : Im (d_269_176 a0 x9 m) (wI L nx) (ev_dn b z 269 176 [some (.ref a0), o1, o2, o3, o4, o5, o6, o7, o8, some (.int x9)] [] (nx, mem L nx m)) := by
  unfold d_269_176
  refine i_bl (pc' := 179) [(.aload_n 0, 1), (.iload 9, 2)] [some (.ref a0), o1, o2, o3, o4, o5, o6, o7, o8, some (.int x9)] [.int x9, .ref a0] (by decide +kernel) rfl ?_
  refine i_cv (ci := 11) (t := 267) (na := 2) (ml := 2) (idx := 290) (pc' := 182) (st' := []) (en := [some (.ref a0), some (.int x9)]) (av := [.int x9]) (vo := fun v => some (.int v.1)) (mo := fun v => v.2) (s2 := fun v => .int v.1 :: []) (by decide +kernel) (by decide +kernel) h0 ⟨rfl, rfl, rfl, rfl, rfl, rfl⟩ (fun _ => rfl) (t_267 hN (h0 := h0)) (fun r16 => ?_)
  exact i_ri (by decide +kernel) rfl

noncomputable def s_269_104 (a0 : Nat) (x5 : Int32) (x6 : Int32) (x7 : Int32) (x8 : Int32) (x9 : Int32) (m : Mm) : Option ((Int32 × Mm) ⊕ (Int32 × Mm)) := if x5 < x9 then ((d_269_200 a0 m).map Sum.inr) else (if ev_in (15 + x8) (sh_n (sh_r a0 3)) = true then (if (m (sh_r a0 3) (ix (15 + x8))) ≤ x9 then ((d_269_200 a0 m).map Sum.inr) else (if ev_in 2 (sh_n (sh_r a0 1)) = true then (if ev_in 2 (sh_n (sh_r a0 1)) = true then (wb (wr m (sh_r a0 1) (ix 2) ((m (sh_r a0 1) (ix 2)) + x9)) fun m11 => if ev_in (15 + x8) (sh_n (sh_r a0 1)) = true then (if ev_in (15 + x8) (sh_n (sh_r a0 1)) = true then (wb (wr m11 (sh_r a0 1) (ix (15 + x8)) ((m11 (sh_r a0 1) (ix (15 + x8))) - x9)) fun m12 => (d_263 a0 x6 x7 m12).bind fun r13 => if ¬ r13.1 = 1 then ((d_186 (sh_r a0 3) (sh_r a0 1) r13.2).bind fun m14 => wb (x9 + 1) fun y15 => some (.inl (y15, m14))) else ((d_269_176 a0 x9 r13.2).map Sum.inr)) else none) else none) else none) else none)) else none)
noncomputable def d_269_104 (a0 : Nat) (x5 : Int32) (x6 : Int32) (x7 : Int32) (x8 : Int32) (x9 : Int32) (m : Mm) : Option (Int32 × Mm) := it (fun s => s_269_104 a0 x5 x6 x7 x8 s.1 s.2) (x9, m)
theorem e_269_104 (a0 : Nat) (x5 : Int32) (x6 : Int32) (x7 : Int32) (x8 : Int32) (x9 : Int32) (m : Mm) : d_269_104 a0 x5 x6 x7 x8 x9 m = oi (s_269_104 a0 x5 x6 x7 x8 x9 m) (fun s => d_269_104 a0 x5 x6 x7 x8 s.1 s.2) := it_eq _
theorem u_269_104 {L nx : Nat} (hN : okn nx) {b z : Nat} {m : Mm} {a0 : Nat} (h0 : ok nx a0 11) {x5 : Int32} {x6 : Int32} {x7 : Int32} {x8 : Int32} {x9 : Int32} {o1 : Option Value} {o2 : Option Value} {o3 : Option Value} {o4 : Option Value} : Im (s_269_104 a0 x5 x6 x7 x8 x9 m) (kL (wI L nx) (E_269_104 L nx b z a0 x5 x6 x7 x8)) (ev_dn b z 269 104 [some (.ref a0), o1, o2, o3, o4, some (.int x5), some (.int x6), some (.int x7), some (.int x8), some (.int x9)] [] (nx, mem L nx m)) := by
  unfold s_269_104
  refine i_bl (pc' := 108) [(.iload 9, 2), (.iload 5, 2)] [some (.ref a0), o1, o2, o3, o4, some (.int x5), some (.int x6), some (.int x7), some (.int x8), some (.int x9)] [.int x5, .int x9] (by decide +kernel) rfl ?_
  refine i_ic (c := .gt) (off := 92) (t := 200) (pc' := 111) (p := x5 < x9) (by decide +kernel) rfl ?_ ?_
  · exact i_mr (t_269_200 hN (h0 := h0))
  · refine i_bl (pc' := 114) [(.iload 9, 2), (.aload_n 0, 1)] [some (.ref a0), o1, o2, o3, o4, some (.int x5), some (.int x6), some (.int x7), some (.int x8), some (.int x9)] [.ref a0, .int x9] (by decide +kernel) rfl ?_
    refine i_gr (idx := 16) (ci := 11) (k := 3) (t := 2) (p := 16236) (pc' := 117) (by decide +kernel) h0 ?_
    refine i_bl (pc' := 122) [(.bipush (15), 2), (.iload 8, 2), (.iadd, 1)] [some (.ref a0), o1, o2, o3, o4, some (.int x5), some (.int x6), some (.int x7), some (.int x8), some (.int x9)] [.int (15 + x8), .ref (sh_r a0 3), .int x9] (by decide +kernel) rfl ?_
    refine i_al (pc' := 123) (by decide +kernel) (o_11_3 hN h0) ?_
    refine i_ic (c := .ge) (off := 77) (t := 200) (pc' := 126) (p := (m (sh_r a0 3) (ix (15 + x8))) ≤ x9) (by decide +kernel) rfl ?_ ?_
    · exact i_mr (t_269_200 hN (h0 := h0))
    · refine i_bl (pc' := 127) [(.aload_n 0, 1)] [some (.ref a0), o1, o2, o3, o4, some (.int x5), some (.int x6), some (.int x7), some (.int x8), some (.int x9)] [.ref a0] (by decide +kernel) rfl ?_
      refine i_gr (idx := 7) (ci := 11) (k := 1) (t := 2) (p := 16234) (pc' := 130) (by decide +kernel) h0 ?_
      refine i_bl (pc' := 132) [(.iconst 2, 1), (.aload_n 0, 1)] [some (.ref a0), o1, o2, o3, o4, some (.int x5), some (.int x6), some (.int x7), some (.int x8), some (.int x9)] [.ref a0, .int 2, .ref (sh_r a0 1)] (by decide +kernel) rfl ?_
      refine i_gr (idx := 7) (ci := 11) (k := 1) (t := 2) (p := 16234) (pc' := 135) (by decide +kernel) h0 ?_
      refine i_bl (pc' := 136) [(.iconst 2, 1)] [some (.ref a0), o1, o2, o3, o4, some (.int x5), some (.int x6), some (.int x7), some (.int x8), some (.int x9)] [.int 2, .ref (sh_r a0 1), .int 2, .ref (sh_r a0 1)] (by decide +kernel) rfl ?_
      refine i_al (pc' := 137) (by decide +kernel) (o_11_1 hN h0) ?_
      refine i_bl (pc' := 140) [(.iload 9, 2), (.iadd, 1)] [some (.ref a0), o1, o2, o3, o4, some (.int x5), some (.int x6), some (.int x7), some (.int x8), some (.int x9)] [.int ((m (sh_r a0 1) (ix 2)) + x9), .int 2, .ref (sh_r a0 1)] (by decide +kernel) rfl ?_
      refine i_as (y := ((m (sh_r a0 1) (ix 2)) + x9)) (pc' := 141) (by decide +kernel) (o_11_1 hN h0) (fun m11 => ?_)
      refine i_bl (pc' := 142) [(.aload_n 0, 1)] [some (.ref a0), o1, o2, o3, o4, some (.int x5), some (.int x6), some (.int x7), some (.int x8), some (.int x9)] [.ref a0] (by decide +kernel) rfl ?_
      refine i_gr (idx := 7) (ci := 11) (k := 1) (t := 2) (p := 16234) (pc' := 145) (by decide +kernel) h0 ?_
      refine i_bl (pc' := 151) [(.bipush (15), 2), (.iload 8, 2), (.iadd, 1), (.aload_n 0, 1)] [some (.ref a0), o1, o2, o3, o4, some (.int x5), some (.int x6), some (.int x7), some (.int x8), some (.int x9)] [.ref a0, .int (15 + x8), .ref (sh_r a0 1)] (by decide +kernel) rfl ?_
      refine i_gr (idx := 7) (ci := 11) (k := 1) (t := 2) (p := 16234) (pc' := 154) (by decide +kernel) h0 ?_
      refine i_bl (pc' := 159) [(.bipush (15), 2), (.iload 8, 2), (.iadd, 1)] [some (.ref a0), o1, o2, o3, o4, some (.int x5), some (.int x6), some (.int x7), some (.int x8), some (.int x9)] [.int (15 + x8), .ref (sh_r a0 1), .int (15 + x8), .ref (sh_r a0 1)] (by decide +kernel) rfl ?_
      refine i_al (pc' := 160) (by decide +kernel) (o_11_1 hN h0) ?_
      refine i_bl (pc' := 163) [(.iload 9, 2), (.isub, 1)] [some (.ref a0), o1, o2, o3, o4, some (.int x5), some (.int x6), some (.int x7), some (.int x8), some (.int x9)] [.int ((m11 (sh_r a0 1) (ix (15 + x8))) - x9), .int (15 + x8), .ref (sh_r a0 1)] (by decide +kernel) rfl ?_
      refine i_as (y := ((m11 (sh_r a0 1) (ix (15 + x8))) - x9)) (pc' := 164) (by decide +kernel) (o_11_1 hN h0) (fun m12 => ?_)
      refine i_bl (pc' := 169) [(.aload_n 0, 1), (.iload 6, 2), (.iload 7, 2)] [some (.ref a0), o1, o2, o3, o4, some (.int x5), some (.int x6), some (.int x7), some (.int x8), some (.int x9)] [.int x7, .int x6, .ref a0] (by decide +kernel) rfl ?_
      refine i_cv (ci := 11) (t := 263) (na := 3) (ml := 5) (idx := 284) (pc' := 172) (st' := []) (en := [some (.ref a0), some (.int x6), some (.int x7), none, none]) (av := [.int x6, .int x7]) (vo := fun v => some (.int v.1)) (mo := fun v => v.2) (s2 := fun v => .int v.1 :: []) (by decide +kernel) (by decide +kernel) h0 ⟨rfl, rfl, rfl, rfl, rfl, rfl⟩ (fun _ => rfl) (t_263 hN (h0 := h0)) (fun r13 => ?_)
      refine i_bl (pc' := 173) [(.iconst 1, 1)] [some (.ref a0), o1, o2, o3, o4, some (.int x5), some (.int x6), some (.int x7), some (.int x8), some (.int x9)] [.int 1, .int r13.1] (by decide +kernel) rfl ?_
      refine i_ic (c := .ne) (off := 10) (t := 183) (pc' := 176) (p := ¬ r13.1 = 1) (by decide +kernel) rfl ?_ ?_
      · refine i_bl (pc' := 184) [(.aload_n 0, 1)] [some (.ref a0), o1, o2, o3, o4, some (.int x5), some (.int x6), some (.int x7), some (.int x8), some (.int x9)] [.ref a0] (by decide +kernel) rfl ?_
        refine i_gr (idx := 16) (ci := 11) (k := 3) (t := 2) (p := 16236) (pc' := 187) (by decide +kernel) h0 ?_
        refine i_bl (pc' := 188) [(.aload_n 0, 1)] [some (.ref a0), o1, o2, o3, o4, some (.int x5), some (.int x6), some (.int x7), some (.int x8), some (.int x9)] [.ref a0, .ref (sh_r a0 3)] (by decide +kernel) rfl ?_
        refine i_gr (idx := 7) (ci := 11) (k := 1) (t := 2) (p := 16234) (pc' := 191) (by decide +kernel) h0 ?_
        refine i_cs (t := 186) (na := 2) (ml := 3) (idx := 70) (pc' := 194) (st' := []) (en := [some (.ref (sh_r a0 3)), some (.ref (sh_r a0 1)), none]) (av := [.ref (sh_r a0 3), .ref (sh_r a0 1)]) (vo := fun _ => none) (mo := fun m => m) (s2 := fun _ => []) (by decide +kernel) ⟨rfl, rfl, rfl, rfl, rfl, rfl⟩ (fun _ => rfl) (t_186 hN (h0 := (o_11_3 hN h0)) (h1 := (o_11_1 hN h0))) (fun m14 => ?_)
        refine i_bl (pc' := 197) [(.iinc 9 (1), 3)] [some (.ref a0), o1, o2, o3, o4, some (.int x5), some (.int x6), some (.int x7), some (.int x8), some (.int (x9 + 1))] [] (by decide +kernel) rfl ?_
        refine i_wb (fun y15 => ev_dn b z 269 197 [some (.ref a0), o1, o2, o3, o4, some (.int x5), some (.int x6), some (.int x7), some (.int x8), some (.int y15)] [] (nx, mem L nx m14)) (fun y15 => ?_)
        refine i_go (t := 104) (off := -93) (by decide +kernel) ?_
        exact i_co (o1, o2, o3, o4) rfl
      · exact i_mr (t_269_176 hN (h0 := h0))

theorem t_269_104 {L nx : Nat} (hN : okn nx) {b z : Nat} {m : Mm} {a0 : Nat} (h0 : ok nx a0 11) {x5 : Int32} {x6 : Int32} {x7 : Int32} {x8 : Int32} {x9 : Int32} {o1 : Option Value} {o2 : Option Value} {o3 : Option Value} {o4 : Option Value} : Im (d_269_104 a0 x5 x6 x7 x8 x9 m) (wI L nx) (ev_dn b z 269 104 [some (.ref a0), o1, o2, o3, o4, some (.int x5), some (.int x6), some (.int x7), some (.int x8), some (.int x9)] [] (nx, mem L nx m)) := by
  exact i_it (f := fun s => s_269_104 a0 x5 x6 x7 x8 s.1 s.2) (E := E_269_104 L nx b z a0 x5 x6 x7 x8) (K := (wI L nx)) (fun d s => u_269_104 hN (h0 := h0)) (o1, o2, o3, o4) (x9, m)
noncomputable def d_269_31 (a0 : Nat) (x1 : Int32) (x2 : Int32) (x3 : Int32) (x4 : Int32) (x5 : Int32) (s0 : Nat) (s1 : Bool) (m : Mm) : Option (Int32 × Mm) := (d_183 s0 s1 m).bind fun r2 => if r2.1 = true then ((d_264 a0 r2.2).bind fun v3 => (d_184 a0 v3 2 r2.2).bind fun r4 => if r4.1 = true then ((d_214 a0 x1 x2 r4.2).bind fun v5 => (d_214 a0 x3 x4 r4.2).bind fun v6 => (d_265 a0 v5 v6 r4.2).bind fun v7 => if v7 = true then ((d_186 (sh_r a0 1) (sh_r a0 3) r4.2).bind fun m8 => if ev_in 3 (sh_n (sh_r a0 1)) = true then (wb (m8 (sh_r a0 1) (ix 3)) fun y9 => d_269_104 a0 x5 v5 v6 y9 0 m8) else none) else (some ((-2), r4.2))) else (some (0, r4.2))) else (some (0, r2.2))
theorem t_269_31 {L nx : Nat} (hN : okn nx) {b z : Nat} {m : Mm} {a0 : Nat} (h0 : ok nx a0 11) {s0 : Nat} (hs0 : ok nx s0 11) {x1 : Int32} {x2 : Int32} {x3 : Int32} {x4 : Int32} {x5 : Int32} {s1 : Bool}  : Im (d_269_31 a0 x1 x2 x3 x4 x5 s0 s1 m) (wI L nx) (ev_dn b z 269 31 [some (.ref a0), some (.int x1), some (.int x2), some (.int x3), some (.int x4), some (.int x5), none, none, none, none] [.int (bi s1), .ref s0] (nx, mem L nx m)) := by
  unfold d_269_31
  refine i_cv (ci := 11) (t := 183) (na := 2) (ml := 2) (idx := 77) (pc' := 34) (st' := []) (en := [some (.ref s0), some (.int (bi s1))]) (av := [.int (bi s1)]) (vo := fun v => some (.int (bi v.1))) (mo := fun v => v.2) (s2 := fun v => .int (bi v.1) :: []) (by decide +kernel) (by decide +kernel) hs0 ⟨rfl, rfl, rfl, rfl, rfl, rfl⟩ (fun _ => rfl) (t_183 hN (h0 := hs0)) (fun r2 => ?_)
  refine i_bz (off := 15) (t := 49) (pc' := 37) (by decide +kernel) ?_ ?_
  · refine i_bl (pc' := 39) [(.aload_n 0, 1), (.aload_n 0, 1)] [some (.ref a0), some (.int x1), some (.int x2), some (.int x3), some (.int x4), some (.int x5), none, none, none, none] [.ref a0, .ref a0] (by decide +kernel) rfl ?_
    refine i_cv (ci := 11) (t := 264) (na := 1) (ml := 1) (idx := 275) (pc' := 42) (st' := [.ref a0]) (en := [some (.ref a0)]) (av := []) (vo := fun v => some (.int (bi v))) (mo := fun _ => r2.2) (s2 := fun v => .int (bi v) :: [.ref a0]) (by decide +kernel) (by decide +kernel) h0 ⟨rfl, rfl, rfl, rfl, rfl, rfl⟩ (fun _ => rfl) (t_264 hN (h0 := h0)) (fun v3 => ?_)
    refine i_bl (pc' := 43) [(.iconst 2, 1)] [some (.ref a0), some (.int x1), some (.int x2), some (.int x3), some (.int x4), some (.int x5), none, none, none, none] [.int 2, .int (bi v3), .ref a0] (by decide +kernel) rfl ?_
    refine i_cv (ci := 11) (t := 184) (na := 3) (ml := 3) (idx := 161) (pc' := 46) (st' := []) (en := [some (.ref a0), some (.int (bi v3)), some (.int 2)]) (av := [.int (bi v3), .int 2]) (vo := fun v => some (.int (bi v.1))) (mo := fun v => v.2) (s2 := fun v => .int (bi v.1) :: []) (by decide +kernel) (by decide +kernel) h0 ⟨rfl, rfl, rfl, rfl, rfl, rfl⟩ (fun _ => rfl) (t_184 hN (h0 := h0)) (fun r4 => ?_)
    refine i_bn (off := 5) (t := 51) (pc' := 49) (by decide +kernel) ?_ ?_
    · refine i_bl (pc' := 54) [(.aload_n 0, 1), (.iload_n 1, 1), (.iload_n 2, 1)] [some (.ref a0), some (.int x1), some (.int x2), some (.int x3), some (.int x4), some (.int x5), none, none, none, none] [.int x2, .int x1, .ref a0] (by decide +kernel) rfl ?_
      refine i_cv (ci := 11) (t := 214) (na := 3) (ml := 3) (idx := 168) (pc' := 57) (st' := []) (en := [some (.ref a0), some (.int x1), some (.int x2)]) (av := [.int x1, .int x2]) (vo := fun v => some (.int v)) (mo := fun _ => r4.2) (s2 := fun v => .int v :: []) (by decide +kernel) (by decide +kernel) h0 ⟨rfl, rfl, rfl, rfl, rfl, rfl⟩ (fun _ => rfl) (t_214 hN (h0 := h0)) (fun v5 => ?_)
      refine i_bl (pc' := 63) [(.istore 6, 2), (.aload_n 0, 1), (.iload_n 3, 1), (.iload 4, 2)] [some (.ref a0), some (.int x1), some (.int x2), some (.int x3), some (.int x4), some (.int x5), some (.int v5), none, none, none] [.int x4, .int x3, .ref a0] (by decide +kernel) rfl ?_
      refine i_cv (ci := 11) (t := 214) (na := 3) (ml := 3) (idx := 168) (pc' := 66) (st' := []) (en := [some (.ref a0), some (.int x3), some (.int x4)]) (av := [.int x3, .int x4]) (vo := fun v => some (.int v)) (mo := fun _ => r4.2) (s2 := fun v => .int v :: []) (by decide +kernel) (by decide +kernel) h0 ⟨rfl, rfl, rfl, rfl, rfl, rfl⟩ (fun _ => rfl) (t_214 hN (h0 := h0)) (fun v6 => ?_)
      refine i_bl (pc' := 73) [(.istore 7, 2), (.aload_n 0, 1), (.iload 6, 2), (.iload 7, 2)] [some (.ref a0), some (.int x1), some (.int x2), some (.int x3), some (.int x4), some (.int x5), some (.int v5), some (.int v6), none, none] [.int v6, .int v5, .ref a0] (by decide +kernel) rfl ?_
      refine i_cv (ci := 11) (t := 265) (na := 3) (ml := 3) (idx := 278) (pc' := 76) (st' := []) (en := [some (.ref a0), some (.int v5), some (.int v6)]) (av := [.int v5, .int v6]) (vo := fun v => some (.int (bi v))) (mo := fun _ => r4.2) (s2 := fun v => .int (bi v) :: []) (by decide +kernel) (by decide +kernel) h0 ⟨rfl, rfl, rfl, rfl, rfl, rfl⟩ (fun _ => rfl) (t_265 hN (h0 := h0)) (fun v7 => ?_)
      refine i_bn (off := 6) (t := 82) (pc' := 79) (by decide +kernel) ?_ ?_
      · refine i_bl (pc' := 83) [(.aload_n 0, 1)] [some (.ref a0), some (.int x1), some (.int x2), some (.int x3), some (.int x4), some (.int x5), some (.int v5), some (.int v6), none, none] [.ref a0] (by decide +kernel) rfl ?_
        refine i_gr (idx := 7) (ci := 11) (k := 1) (t := 2) (p := 16234) (pc' := 86) (by decide +kernel) h0 ?_
        refine i_bl (pc' := 87) [(.aload_n 0, 1)] [some (.ref a0), some (.int x1), some (.int x2), some (.int x3), some (.int x4), some (.int x5), some (.int v5), some (.int v6), none, none] [.ref a0, .ref (sh_r a0 1)] (by decide +kernel) rfl ?_
        refine i_gr (idx := 16) (ci := 11) (k := 3) (t := 2) (p := 16236) (pc' := 90) (by decide +kernel) h0 ?_
        refine i_cs (t := 186) (na := 2) (ml := 3) (idx := 70) (pc' := 93) (st' := []) (en := [some (.ref (sh_r a0 1)), some (.ref (sh_r a0 3)), none]) (av := [.ref (sh_r a0 1), .ref (sh_r a0 3)]) (vo := fun _ => none) (mo := fun m => m) (s2 := fun _ => []) (by decide +kernel) ⟨rfl, rfl, rfl, rfl, rfl, rfl⟩ (fun _ => rfl) (t_186 hN (h0 := (o_11_1 hN h0)) (h1 := (o_11_3 hN h0))) (fun m8 => ?_)
        refine i_bl (pc' := 94) [(.aload_n 0, 1)] [some (.ref a0), some (.int x1), some (.int x2), some (.int x3), some (.int x4), some (.int x5), some (.int v5), some (.int v6), none, none] [.ref a0] (by decide +kernel) rfl ?_
        refine i_gr (idx := 7) (ci := 11) (k := 1) (t := 2) (p := 16234) (pc' := 97) (by decide +kernel) h0 ?_
        refine i_bl (pc' := 98) [(.iconst 3, 1)] [some (.ref a0), some (.int x1), some (.int x2), some (.int x3), some (.int x4), some (.int x5), some (.int v5), some (.int v6), none, none] [.int 3, .ref (sh_r a0 1)] (by decide +kernel) rfl ?_
        refine i_al (pc' := 99) (by decide +kernel) (o_11_1 hN h0) ?_
        refine i_bl (pc' := 101) [(.istore 8, 2)] [some (.ref a0), some (.int x1), some (.int x2), some (.int x3), some (.int x4), some (.int x5), some (.int v5), some (.int v6), some (.int (m8 (sh_r a0 1) (ix 3))), none] [] (by decide +kernel) rfl ?_
        refine i_wb (fun y9 => ev_dn b z 269 101 [some (.ref a0), some (.int x1), some (.int x2), some (.int x3), some (.int x4), some (.int x5), some (.int v5), some (.int v6), some (.int y9), none] [] (nx, mem L nx m8)) (fun y9 => ?_)
        refine i_bl (pc' := 104) [(.iconst 0, 1), (.istore 9, 2)] [some (.ref a0), some (.int x1), some (.int x2), some (.int x3), some (.int x4), some (.int x5), some (.int v5), some (.int v6), some (.int y9), some (.int 0)] [] (by decide +kernel) rfl ?_
        exact t_269_104 hN (h0 := h0)
      · refine i_bl (pc' := 81) [(.bipush (-2), 2)] [some (.ref a0), some (.int x1), some (.int x2), some (.int x3), some (.int x4), some (.int x5), some (.int v5), some (.int v6), none, none] [.int (-2)] (by decide +kernel) rfl ?_
        exact i_ri (by decide +kernel) rfl
    · refine i_bl (pc' := 50) [(.iconst 0, 1)] [some (.ref a0), some (.int x1), some (.int x2), some (.int x3), some (.int x4), some (.int x5), none, none, none, none] [.int 0] (by decide +kernel) rfl ?_
      exact i_ri (by decide +kernel) rfl
  · refine i_bl (pc' := 50) [(.iconst 0, 1)] [some (.ref a0), some (.int x1), some (.int x2), some (.int x3), some (.int x4), some (.int x5), none, none, none, none] [.int 0] (by decide +kernel) rfl ?_
    exact i_ri (by decide +kernel) rfl

noncomputable def d_269 (a0 : Nat) (x1 : Int32) (x2 : Int32) (x3 : Int32) (x4 : Int32) (x5 : Int32) (m : Mm) : Option (Int32 × Mm) := (d_253 a0 x1 x2 x3 x4 m).bind fun v1 => if v1 = true then ((d_185 x5 0 200).bind fun v17 => if v17 = true then (d_269_31 a0 x1 x2 x3 x4 x5 a0 true m) else (d_269_31 a0 x1 x2 x3 x4 x5 a0 false m)) else (d_269_31 a0 x1 x2 x3 x4 x5 a0 false m)
theorem t_269 {L nx : Nat} (hN : okn nx) {b z : Nat} {m : Mm} {a0 : Nat} (h0 : ok nx a0 11) {x1 : Int32} {x2 : Int32} {x3 : Int32} {x4 : Int32} {x5 : Int32}  : Im (d_269 a0 x1 x2 x3 x4 x5 m) (wI L nx) (ev_dn b z 269 0 [some (.ref a0), some (.int x1), some (.int x2), some (.int x3), some (.int x4), some (.int x5), none, none, none, none] [] (nx, mem L nx m)) := by
  unfold d_269
  refine i_bl (pc' := 7) [(.aload_n 0, 1), (.aload_n 0, 1), (.iload_n 1, 1), (.iload_n 2, 1), (.iload_n 3, 1), (.iload 4, 2)] [some (.ref a0), some (.int x1), some (.int x2), some (.int x3), some (.int x4), some (.int x5), none, none, none, none] [.int x4, .int x3, .int x2, .int x1, .ref a0, .ref a0] (by decide +kernel) rfl ?_
  refine i_cv (ci := 11) (t := 253) (na := 5) (ml := 5) (idx := 239) (pc' := 10) (st' := [.ref a0]) (en := [some (.ref a0), some (.int x1), some (.int x2), some (.int x3), some (.int x4)]) (av := [.int x1, .int x2, .int x3, .int x4]) (vo := fun v => some (.int (bi v))) (mo := fun _ => m) (s2 := fun v => .int (bi v) :: [.ref a0]) (by decide +kernel) (by decide +kernel) h0 ⟨rfl, rfl, rfl, rfl, rfl, rfl⟩ (fun _ => rfl) (t_253 hN (h0 := h0)) (fun v1 => ?_)
  refine i_bz (off := 20) (t := 30) (pc' := 13) (by decide +kernel) ?_ ?_
  · refine i_bl (pc' := 17) [(.iload 5, 2), (.i2l, 1), (.lconst 0, 1)] [some (.ref a0), some (.int x1), some (.int x2), some (.int x3), some (.int x4), some (.int x5), none, none, none, none] [.long (0 : Int32).toInt64, .long x5.toInt64, .ref a0] (by decide +kernel) rfl ?_
    refine i_l2 (idx := 293) (p := 18189) (x := 200) (pc' := 20) (by decide +kernel) ?_
    refine i_cs (t := 185) (na := 3) (ml := 6) (idx := 148) (pc' := 23) (st' := [.ref a0]) (en := [some (.long x5.toInt64), none, some (.long (0 : Int32).toInt64), none, some (.long (200 : Int32).toInt64), none]) (av := [.long x5.toInt64, .long (0 : Int32).toInt64, .long (200 : Int32).toInt64]) (vo := fun v => some (.int (bi v))) (mo := fun _ => m) (s2 := fun v => .int (bi v) :: [.ref a0]) (by decide +kernel) ⟨rfl, rfl, rfl, rfl, rfl, rfl⟩ (fun _ => rfl) (t_185 hN ) (fun v17 => ?_)
    refine i_bz (off := 7) (t := 30) (pc' := 26) (by decide +kernel) ?_ ?_
    · refine i_bl (pc' := 27) [(.iconst 1, 1)] [some (.ref a0), some (.int x1), some (.int x2), some (.int x3), some (.int x4), some (.int x5), none, none, none, none] [.int 1, .ref a0] (by decide +kernel) rfl ?_
      refine i_go (t := 31) (off := 4) (by decide +kernel) ?_
      exact t_269_31 hN (h0 := h0) (hs0 := h0)
    · refine i_bl (pc' := 31) [(.iconst 0, 1)] [some (.ref a0), some (.int x1), some (.int x2), some (.int x3), some (.int x4), some (.int x5), none, none, none, none] [.int 0, .ref a0] (by decide +kernel) rfl ?_
      exact t_269_31 hN (h0 := h0) (hs0 := h0)
  · refine i_bl (pc' := 31) [(.iconst 0, 1)] [some (.ref a0), some (.int x1), some (.int x2), some (.int x3), some (.int x4), some (.int x5), none, none, none, none] [.int 0, .ref a0] (by decide +kernel) rfl ?_
    exact t_269_31 hN (h0 := h0) (hs0 := h0)

/-! 270 LanternChessModel.sent(II)I -/
noncomputable def d_270 (a0 : Nat) (x1 : Int32) (x2 : Int32) (m : Mm) : Option (Int32 × Mm) := if ev_in 13 (sh_n (sh_r a0 1)) = true then ((d_185 x1 0 ((m (sh_r a0 1) (ix 13)) - 1)).bind fun v1 => (d_183 a0 v1 m).bind fun r2 => if r2.1 = true then ((d_185 x2 0 7).bind fun v3 => (d_184 a0 v3 2 r2.2).bind fun r4 => if r4.1 = true then (if ev_in ((304 + (8 * x1)) + x2) (sh_n (sh_r a0 1)) = true then (some (r4.2 (sh_r a0 1) (ix ((304 + (8 * x1)) + x2)), r4.2)) else none) else (some (0, r4.2))) else (some (0, r2.2))) else none
theorem t_270 {L nx : Nat} (hN : okn nx) {b z : Nat} {m : Mm} {a0 : Nat} (h0 : ok nx a0 11) {x1 : Int32} {x2 : Int32}  : Im (d_270 a0 x1 x2 m) (wI L nx) (ev_dn b z 270 0 [some (.ref a0), some (.int x1), some (.int x2)] [] (nx, mem L nx m)) := by
  unfold d_270
  refine i_bl (pc' := 5) [(.aload_n 0, 1), (.iload_n 1, 1), (.i2l, 1), (.lconst 0, 1), (.aload_n 0, 1)] [some (.ref a0), some (.int x1), some (.int x2)] [.ref a0, .long (0 : Int32).toInt64, .long x1.toInt64, .ref a0] (by decide +kernel) rfl ?_
  refine i_gr (idx := 7) (ci := 11) (k := 1) (t := 2) (p := 16234) (pc' := 8) (by decide +kernel) h0 ?_
  refine i_bl (pc' := 10) [(.bipush (13), 2)] [some (.ref a0), some (.int x1), some (.int x2)] [.int 13, .ref (sh_r a0 1), .long (0 : Int32).toInt64, .long x1.toInt64, .ref a0] (by decide +kernel) rfl ?_
  refine i_al (pc' := 11) (by decide +kernel) (o_11_1 hN h0) ?_
  refine i_bl (pc' := 14) [(.iconst 1, 1), (.isub, 1), (.i2l, 1)] [some (.ref a0), some (.int x1), some (.int x2)] [.long ((m (sh_r a0 1) (ix 13)) - 1).toInt64, .long (0 : Int32).toInt64, .long x1.toInt64, .ref a0] (by decide +kernel) rfl ?_
  refine i_cs (t := 185) (na := 3) (ml := 6) (idx := 148) (pc' := 17) (st' := [.ref a0]) (en := [some (.long x1.toInt64), none, some (.long (0 : Int32).toInt64), none, some (.long ((m (sh_r a0 1) (ix 13)) - 1).toInt64), none]) (av := [.long x1.toInt64, .long (0 : Int32).toInt64, .long ((m (sh_r a0 1) (ix 13)) - 1).toInt64]) (vo := fun v => some (.int (bi v))) (mo := fun _ => m) (s2 := fun v => .int (bi v) :: [.ref a0]) (by decide +kernel) ⟨rfl, rfl, rfl, rfl, rfl, rfl⟩ (fun _ => rfl) (t_185 hN ) (fun v1 => ?_)
  refine i_cv (ci := 11) (t := 183) (na := 2) (ml := 2) (idx := 77) (pc' := 20) (st' := []) (en := [some (.ref a0), some (.int (bi v1))]) (av := [.int (bi v1)]) (vo := fun v => some (.int (bi v.1))) (mo := fun v => v.2) (s2 := fun v => .int (bi v.1) :: []) (by decide +kernel) (by decide +kernel) h0 ⟨rfl, rfl, rfl, rfl, rfl, rfl⟩ (fun _ => rfl) (t_183 hN (h0 := h0)) (fun r2 => ?_)
  refine i_bz (off := 20) (t := 40) (pc' := 23) (by decide +kernel) ?_ ?_
  · refine i_bl (pc' := 27) [(.aload_n 0, 1), (.iload_n 2, 1), (.i2l, 1), (.lconst 0, 1)] [some (.ref a0), some (.int x1), some (.int x2)] [.long (0 : Int32).toInt64, .long x2.toInt64, .ref a0] (by decide +kernel) rfl ?_
    refine i_l2 (idx := 295) (p := 18194) (x := 7) (pc' := 30) (by decide +kernel) ?_
    refine i_cs (t := 185) (na := 3) (ml := 6) (idx := 148) (pc' := 33) (st' := [.ref a0]) (en := [some (.long x2.toInt64), none, some (.long (0 : Int32).toInt64), none, some (.long (7 : Int32).toInt64), none]) (av := [.long x2.toInt64, .long (0 : Int32).toInt64, .long (7 : Int32).toInt64]) (vo := fun v => some (.int (bi v))) (mo := fun _ => r2.2) (s2 := fun v => .int (bi v) :: [.ref a0]) (by decide +kernel) ⟨rfl, rfl, rfl, rfl, rfl, rfl⟩ (fun _ => rfl) (t_185 hN ) (fun v3 => ?_)
    refine i_bl (pc' := 34) [(.iconst 2, 1)] [some (.ref a0), some (.int x1), some (.int x2)] [.int 2, .int (bi v3), .ref a0] (by decide +kernel) rfl ?_
    refine i_cv (ci := 11) (t := 184) (na := 3) (ml := 3) (idx := 161) (pc' := 37) (st' := []) (en := [some (.ref a0), some (.int (bi v3)), some (.int 2)]) (av := [.int (bi v3), .int 2]) (vo := fun v => some (.int (bi v.1))) (mo := fun v => v.2) (s2 := fun v => .int (bi v.1) :: []) (by decide +kernel) (by decide +kernel) h0 ⟨rfl, rfl, rfl, rfl, rfl, rfl⟩ (fun _ => rfl) (t_184 hN (h0 := h0)) (fun r4 => ?_)
    refine i_bn (off := 5) (t := 42) (pc' := 40) (by decide +kernel) ?_ ?_
    · refine i_bl (pc' := 43) [(.aload_n 0, 1)] [some (.ref a0), some (.int x1), some (.int x2)] [.ref a0] (by decide +kernel) rfl ?_
      refine i_gr (idx := 7) (ci := 11) (k := 1) (t := 2) (p := 16234) (pc' := 46) (by decide +kernel) h0 ?_
      refine i_bl (pc' := 56) [(.sipush (304), 3), (.bipush (8), 2), (.iload_n 1, 1), (.imul, 1), (.iadd, 1), (.iload_n 2, 1), (.iadd, 1)] [some (.ref a0), some (.int x1), some (.int x2)] [.int ((304 + (8 * x1)) + x2), .ref (sh_r a0 1)] (by decide +kernel) rfl ?_
      refine i_al (pc' := 57) (by decide +kernel) (o_11_1 hN h0) ?_
      exact i_ri (by decide +kernel) rfl
    · refine i_bl (pc' := 41) [(.iconst 0, 1)] [some (.ref a0), some (.int x1), some (.int x2)] [.int 0] (by decide +kernel) rfl ?_
      exact i_ri (by decide +kernel) rfl
  · refine i_bl (pc' := 41) [(.iconst 0, 1)] [some (.ref a0), some (.int x1), some (.int x2)] [.int 0] (by decide +kernel) rfl ?_
    exact i_ri (by decide +kernel) rfl

/-! 271 LanternChessModel.made(II)I -/
noncomputable def d_271 (a0 : Nat) (x1 : Int32) (x2 : Int32) (m : Mm) : Option (Int32 × Mm) := if ev_in 14 (sh_n (sh_r a0 1)) = true then ((d_185 x1 0 ((m (sh_r a0 1) (ix 14)) - 1)).bind fun v1 => (d_183 a0 v1 m).bind fun r2 => if r2.1 = true then ((d_185 x2 0 5).bind fun v3 => (d_184 a0 v3 2 r2.2).bind fun r4 => if r4.1 = true then (if ev_in ((464 + (6 * x1)) + x2) (sh_n (sh_r a0 1)) = true then (some (r4.2 (sh_r a0 1) (ix ((464 + (6 * x1)) + x2)), r4.2)) else none) else (some (0, r4.2))) else (some (0, r2.2))) else none
theorem t_271 {L nx : Nat} (hN : okn nx) {b z : Nat} {m : Mm} {a0 : Nat} (h0 : ok nx a0 11) {x1 : Int32} {x2 : Int32}  : Im (d_271 a0 x1 x2 m) (wI L nx) (ev_dn b z 271 0 [some (.ref a0), some (.int x1), some (.int x2)] [] (nx, mem L nx m)) := by
  unfold d_271
  refine i_bl (pc' := 5) [(.aload_n 0, 1), (.iload_n 1, 1), (.i2l, 1), (.lconst 0, 1), (.aload_n 0, 1)] [some (.ref a0), some (.int x1), some (.int x2)] [.ref a0, .long (0 : Int32).toInt64, .long x1.toInt64, .ref a0] (by decide +kernel) rfl ?_
  refine i_gr (idx := 7) (ci := 11) (k := 1) (t := 2) (p := 16234) (pc' := 8) (by decide +kernel) h0 ?_
  refine i_bl (pc' := 10) [(.bipush (14), 2)] [some (.ref a0), some (.int x1), some (.int x2)] [.int 14, .ref (sh_r a0 1), .long (0 : Int32).toInt64, .long x1.toInt64, .ref a0] (by decide +kernel) rfl ?_
  refine i_al (pc' := 11) (by decide +kernel) (o_11_1 hN h0) ?_
  refine i_bl (pc' := 14) [(.iconst 1, 1), (.isub, 1), (.i2l, 1)] [some (.ref a0), some (.int x1), some (.int x2)] [.long ((m (sh_r a0 1) (ix 14)) - 1).toInt64, .long (0 : Int32).toInt64, .long x1.toInt64, .ref a0] (by decide +kernel) rfl ?_
  refine i_cs (t := 185) (na := 3) (ml := 6) (idx := 148) (pc' := 17) (st' := [.ref a0]) (en := [some (.long x1.toInt64), none, some (.long (0 : Int32).toInt64), none, some (.long ((m (sh_r a0 1) (ix 14)) - 1).toInt64), none]) (av := [.long x1.toInt64, .long (0 : Int32).toInt64, .long ((m (sh_r a0 1) (ix 14)) - 1).toInt64]) (vo := fun v => some (.int (bi v))) (mo := fun _ => m) (s2 := fun v => .int (bi v) :: [.ref a0]) (by decide +kernel) ⟨rfl, rfl, rfl, rfl, rfl, rfl⟩ (fun _ => rfl) (t_185 hN ) (fun v1 => ?_)
  refine i_cv (ci := 11) (t := 183) (na := 2) (ml := 2) (idx := 77) (pc' := 20) (st' := []) (en := [some (.ref a0), some (.int (bi v1))]) (av := [.int (bi v1)]) (vo := fun v => some (.int (bi v.1))) (mo := fun v => v.2) (s2 := fun v => .int (bi v.1) :: []) (by decide +kernel) (by decide +kernel) h0 ⟨rfl, rfl, rfl, rfl, rfl, rfl⟩ (fun _ => rfl) (t_183 hN (h0 := h0)) (fun r2 => ?_)
  refine i_bz (off := 20) (t := 40) (pc' := 23) (by decide +kernel) ?_ ?_
  · refine i_bl (pc' := 27) [(.aload_n 0, 1), (.iload_n 2, 1), (.i2l, 1), (.lconst 0, 1)] [some (.ref a0), some (.int x1), some (.int x2)] [.long (0 : Int32).toInt64, .long x2.toInt64, .ref a0] (by decide +kernel) rfl ?_
    refine i_l2 (idx := 234) (p := 18073) (x := 5) (pc' := 30) (by decide +kernel) ?_
    refine i_cs (t := 185) (na := 3) (ml := 6) (idx := 148) (pc' := 33) (st' := [.ref a0]) (en := [some (.long x2.toInt64), none, some (.long (0 : Int32).toInt64), none, some (.long (5 : Int32).toInt64), none]) (av := [.long x2.toInt64, .long (0 : Int32).toInt64, .long (5 : Int32).toInt64]) (vo := fun v => some (.int (bi v))) (mo := fun _ => r2.2) (s2 := fun v => .int (bi v) :: [.ref a0]) (by decide +kernel) ⟨rfl, rfl, rfl, rfl, rfl, rfl⟩ (fun _ => rfl) (t_185 hN ) (fun v3 => ?_)
    refine i_bl (pc' := 34) [(.iconst 2, 1)] [some (.ref a0), some (.int x1), some (.int x2)] [.int 2, .int (bi v3), .ref a0] (by decide +kernel) rfl ?_
    refine i_cv (ci := 11) (t := 184) (na := 3) (ml := 3) (idx := 161) (pc' := 37) (st' := []) (en := [some (.ref a0), some (.int (bi v3)), some (.int 2)]) (av := [.int (bi v3), .int 2]) (vo := fun v => some (.int (bi v.1))) (mo := fun v => v.2) (s2 := fun v => .int (bi v.1) :: []) (by decide +kernel) (by decide +kernel) h0 ⟨rfl, rfl, rfl, rfl, rfl, rfl⟩ (fun _ => rfl) (t_184 hN (h0 := h0)) (fun r4 => ?_)
    refine i_bn (off := 5) (t := 42) (pc' := 40) (by decide +kernel) ?_ ?_
    · refine i_bl (pc' := 43) [(.aload_n 0, 1)] [some (.ref a0), some (.int x1), some (.int x2)] [.ref a0] (by decide +kernel) rfl ?_
      refine i_gr (idx := 7) (ci := 11) (k := 1) (t := 2) (p := 16234) (pc' := 46) (by decide +kernel) h0 ?_
      refine i_bl (pc' := 56) [(.sipush (464), 3), (.bipush (6), 2), (.iload_n 1, 1), (.imul, 1), (.iadd, 1), (.iload_n 2, 1), (.iadd, 1)] [some (.ref a0), some (.int x1), some (.int x2)] [.int ((464 + (6 * x1)) + x2), .ref (sh_r a0 1)] (by decide +kernel) rfl ?_
      refine i_al (pc' := 57) (by decide +kernel) (o_11_1 hN h0) ?_
      exact i_ri (by decide +kernel) rfl
    · refine i_bl (pc' := 41) [(.iconst 0, 1)] [some (.ref a0), some (.int x1), some (.int x2)] [.int 0] (by decide +kernel) rfl ?_
      exact i_ri (by decide +kernel) rfl
  · refine i_bl (pc' := 41) [(.iconst 0, 1)] [some (.ref a0), some (.int x1), some (.int x2)] [.int 0] (by decide +kernel) rfl ?_
    exact i_ri (by decide +kernel) rfl

/-! 272 LanternChessModel.meanTries()D -/
noncomputable def E_272_9 (L nx b z : Nat) (a0 : Nat) (m : Mm) (d : Unit) (s : (Int32 × Int32)) : ev_Q := ev_dn b z 272 9 [some (.ref a0), some (.int s.1), some (.int s.2)] [] (nx, mem L nx m)
noncomputable def d_272_44 (a0 : Nat) (x1 : Int32) (m : Mm) : Option (UInt64 × Mm) := if ev_in 14 (sh_n (sh_r a0 1)) = true then (if ¬ (m (sh_r a0 1) (ix 14)) = 0 then (if ev_in 14 (sh_n (sh_r a0 1)) = true then (if (FP.ddiv (FP.i2d x1) (FP.i2d (m (sh_r a0 1) (ix 14)))) &&& 0x7fffffffffffffff ≤ 0x7ff0000000000000 then (some (FP.ddiv (FP.i2d x1) (FP.i2d (m (sh_r a0 1) (ix 14))), m)) else none) else none) else (some (FP.dconst0, m))) else none
theorem t_272_44 {L nx : Nat} (hN : okn nx) {b z : Nat} {m : Mm} {a0 : Nat} (h0 : ok nx a0 11) {x1 : Int32} {o2 : Option Value} : Im (d_272_44 a0 x1 m) (wD L nx) (ev_dn b z 272 44 [some (.ref a0), some (.int x1), o2] [] (nx, mem L nx m)) := by
  unfold d_272_44
  refine i_bl (pc' := 45) [(.aload_n 0, 1)] [some (.ref a0), some (.int x1), o2] [.ref a0] (by decide +kernel) rfl ?_
  refine i_gr (idx := 7) (ci := 11) (k := 1) (t := 2) (p := 16234) (pc' := 48) (by decide +kernel) h0 ?_
  refine i_bl (pc' := 50) [(.bipush (14), 2)] [some (.ref a0), some (.int x1), o2] [.int 14, .ref (sh_r a0 1)] (by decide +kernel) rfl ?_
  refine i_al (pc' := 51) (by decide +kernel) (o_11_1 hN h0) ?_
  refine i_if (c := .ne) (off := 7) (t := 58) (pc' := 54) (p := ¬ (m (sh_r a0 1) (ix 14)) = 0) (by decide +kernel) rfl ?_ ?_
  · refine i_bl (pc' := 61) [(.iload_n 1, 1), (.i2d, 1), (.aload_n 0, 1)] [some (.ref a0), some (.int x1), o2] [.ref a0, .double (FP.i2d x1)] (by decide +kernel) rfl ?_
    refine i_gr (idx := 7) (ci := 11) (k := 1) (t := 2) (p := 16234) (pc' := 64) (by decide +kernel) h0 ?_
    refine i_bl (pc' := 66) [(.bipush (14), 2)] [some (.ref a0), some (.int x1), o2] [.int 14, .ref (sh_r a0 1), .double (FP.i2d x1)] (by decide +kernel) rfl ?_
    refine i_al (pc' := 67) (by decide +kernel) (o_11_1 hN h0) ?_
    refine i_bl (pc' := 68) [(.i2d, 1)] [some (.ref a0), some (.int x1), o2] [.double (FP.i2d (m (sh_r a0 1) (ix 14))), .double (FP.i2d x1)] (by decide +kernel) rfl ?_
    refine i_dd (pc' := 69) (by decide +kernel) ?_
    exact i_rd (by decide +kernel) rfl
  · refine i_bl (pc' := 55) [(.dconst 0, 1)] [some (.ref a0), some (.int x1), o2] [.double FP.dconst0] (by decide +kernel) rfl ?_
    refine i_go (t := 69) (off := 14) (by decide +kernel) ?_
    exact i_rd (by decide +kernel) rfl

noncomputable def s_272_9 (a0 : Nat) (m : Mm) (x1 : Int32) (x2 : Int32) : Option ((Int32 × Int32) ⊕ (UInt64 × Mm)) := if ev_in 14 (sh_n (sh_r a0 1)) = true then (if (m (sh_r a0 1) (ix 14)) ≤ x2 then ((d_272_44 a0 x1 m).map Sum.inr) else (if ev_in ((464 + (6 * x2)) + 4) (sh_n (sh_r a0 1)) = true then (wb (x1 + (m (sh_r a0 1) (ix ((464 + (6 * x2)) + 4)))) fun y2 => wb (x2 + 1) fun y3 => some (.inl (y2, y3))) else none)) else none
noncomputable def d_272_9 (a0 : Nat) (m : Mm) (x1 : Int32) (x2 : Int32) : Option (UInt64 × Mm) := it (fun s => s_272_9 a0 m s.1 s.2) (x1, x2)
theorem e_272_9 (a0 : Nat) (m : Mm) (x1 : Int32) (x2 : Int32) : d_272_9 a0 m x1 x2 = oi (s_272_9 a0 m x1 x2) (fun s => d_272_9 a0 m s.1 s.2) := it_eq _
theorem u_272_9 {L nx : Nat} (hN : okn nx) {b z : Nat} {m : Mm} {a0 : Nat} (h0 : ok nx a0 11) {x1 : Int32} {x2 : Int32}  : Im (s_272_9 a0 m x1 x2) (kL (wD L nx) (E_272_9 L nx b z a0 m)) (ev_dn b z 272 9 [some (.ref a0), some (.int x1), some (.int x2)] [] (nx, mem L nx m)) := by
  unfold s_272_9
  refine i_bl (pc' := 11) [(.iload_n 2, 1), (.aload_n 0, 1)] [some (.ref a0), some (.int x1), some (.int x2)] [.ref a0, .int x2] (by decide +kernel) rfl ?_
  refine i_gr (idx := 7) (ci := 11) (k := 1) (t := 2) (p := 16234) (pc' := 14) (by decide +kernel) h0 ?_
  refine i_bl (pc' := 16) [(.bipush (14), 2)] [some (.ref a0), some (.int x1), some (.int x2)] [.int 14, .ref (sh_r a0 1), .int x2] (by decide +kernel) rfl ?_
  refine i_al (pc' := 17) (by decide +kernel) (o_11_1 hN h0) ?_
  refine i_ic (c := .ge) (off := 27) (t := 44) (pc' := 20) (p := (m (sh_r a0 1) (ix 14)) ≤ x2) (by decide +kernel) rfl ?_ ?_
  · exact i_mr (t_272_44 hN (h0 := h0))
  · refine i_bl (pc' := 22) [(.iload_n 1, 1), (.aload_n 0, 1)] [some (.ref a0), some (.int x1), some (.int x2)] [.ref a0, .int x1] (by decide +kernel) rfl ?_
    refine i_gr (idx := 7) (ci := 11) (k := 1) (t := 2) (p := 16234) (pc' := 25) (by decide +kernel) h0 ?_
    refine i_bl (pc' := 35) [(.sipush (464), 3), (.bipush (6), 2), (.iload_n 2, 1), (.imul, 1), (.iadd, 1), (.iconst 4, 1), (.iadd, 1)] [some (.ref a0), some (.int x1), some (.int x2)] [.int ((464 + (6 * x2)) + 4), .ref (sh_r a0 1), .int x1] (by decide +kernel) rfl ?_
    refine i_al (pc' := 36) (by decide +kernel) (o_11_1 hN h0) ?_
    refine i_bl (pc' := 38) [(.iadd, 1), (.istore_n 1, 1)] [some (.ref a0), some (.int (x1 + (m (sh_r a0 1) (ix ((464 + (6 * x2)) + 4))))), some (.int x2)] [] (by decide +kernel) rfl ?_
    refine i_wb (fun y2 => ev_dn b z 272 38 [some (.ref a0), some (.int y2), some (.int x2)] [] (nx, mem L nx m)) (fun y2 => ?_)
    refine i_bl (pc' := 41) [(.iinc 2 (1), 3)] [some (.ref a0), some (.int y2), some (.int (x2 + 1))] [] (by decide +kernel) rfl ?_
    refine i_wb (fun y3 => ev_dn b z 272 41 [some (.ref a0), some (.int y2), some (.int y3)] [] (nx, mem L nx m)) (fun y3 => ?_)
    refine i_go (t := 9) (off := -32) (by decide +kernel) ?_
    exact i_co () rfl

theorem t_272_9 {L nx : Nat} (hN : okn nx) {b z : Nat} {m : Mm} {a0 : Nat} (h0 : ok nx a0 11) {x1 : Int32} {x2 : Int32}  : Im (d_272_9 a0 m x1 x2) (wD L nx) (ev_dn b z 272 9 [some (.ref a0), some (.int x1), some (.int x2)] [] (nx, mem L nx m)) := by
  exact i_it (f := fun s => s_272_9 a0 m s.1 s.2) (E := E_272_9 L nx b z a0 m) (K := (wD L nx)) (fun d s => u_272_9 hN (h0 := h0)) () (x1, x2)
noncomputable def d_272 (a0 : Nat) (m : Mm) : Option (UInt64 × Mm) := wb (wr m a0 0 0) fun m1 => d_272_9 a0 m1 0 0
theorem t_272 {L nx : Nat} (hN : okn nx) {b z : Nat} {m : Mm} {a0 : Nat} (h0 : ok nx a0 11)   : Im (d_272 a0 m) (wD L nx) (ev_dn b z 272 0 [some (.ref a0), none, none] [] (nx, mem L nx m)) := by
  unfold d_272
  refine i_bl (pc' := 2) [(.aload_n 0, 1), (.iconst 0, 1)] [some (.ref a0), none, none] [.int 0, .ref a0] (by decide +kernel) rfl ?_
  refine i_pf (x := 0) (idx := 67) (ci := 11) (k := 0) (p := 16233) (pc' := 5) (by decide +kernel) h0 (fun m1 => ?_)
  refine i_bl (pc' := 9) [(.iconst 0, 1), (.istore_n 1, 1), (.iconst 0, 1), (.istore_n 2, 1)] [some (.ref a0), some (.int 0), some (.int 0)] [] (by decide +kernel) rfl ?_
  exact t_272_9 hN (h0 := h0)

/-! 273 LanternChessModel.hiddenShare()F -/
noncomputable def E_273_11 (L nx b z : Nat) (a0 : Nat) (m : Mm) (d : Option Value) (s : (Int32 × Int32 × Int32)) : ev_Q := ev_dn b z 273 11 [some (.ref a0), some (.int s.1), some (.int s.2.1), some (.int s.2.2), d] [] (nx, mem L nx m)
noncomputable def d_273_83 (x1 : Int32) (x2 : Int32) (m : Mm) : Option (UInt32 × Mm) := if ¬ x1 = 0 then (if (FP.fdiv (FP.i2f (x1 - x2)) (FP.i2f x1)) &&& 0x7fffffff ≤ 0x7f800000 then (some (FP.fdiv (FP.i2f (x1 - x2)) (FP.i2f x1), m)) else none) else (some (FP.fconst0, m))
theorem t_273_83 {L nx : Nat} (hN : okn nx) {b z : Nat} {m : Mm}  {x1 : Int32} {x2 : Int32} {o0 : Option Value} {o3 : Option Value} {o4 : Option Value} : Im (d_273_83 x1 x2 m) (wF L nx) (ev_dn b z 273 83 [o0, some (.int x1), some (.int x2), o3, o4] [] (nx, mem L nx m)) := by
  unfold d_273_83
  refine i_bl (pc' := 84) [(.iload_n 1, 1)] [o0, some (.int x1), some (.int x2), o3, o4] [.int x1] (by decide +kernel) rfl ?_
  refine i_if (c := .ne) (off := 7) (t := 91) (pc' := 87) (p := ¬ x1 = 0) (by decide +kernel) rfl ?_ ?_
  · refine i_bl (pc' := 97) [(.iload_n 1, 1), (.iload_n 2, 1), (.isub, 1), (.i2f, 1), (.iload_n 1, 1), (.i2f, 1)] [o0, some (.int x1), some (.int x2), o3, o4] [.float (FP.i2f x1), .float (FP.i2f (x1 - x2))] (by decide +kernel) rfl ?_
    refine i_fd (pc' := 98) (by decide +kernel) ?_
    exact i_rf (by decide +kernel) rfl
  · refine i_bl (pc' := 88) [(.fconst 0, 1)] [o0, some (.int x1), some (.int x2), o3, o4] [.float FP.fconst0] (by decide +kernel) rfl ?_
    refine i_go (t := 98) (off := 10) (by decide +kernel) ?_
    exact i_rf (by decide +kernel) rfl

noncomputable def s_273_11 (a0 : Nat) (m : Mm) (x1 : Int32) (x2 : Int32) (x3 : Int32) : Option ((Int32 × Int32 × Int32) ⊕ (UInt32 × Mm)) := if ev_in 13 (sh_n (sh_r a0 1)) = true then (if (m (sh_r a0 1) (ix 13)) ≤ x3 then ((d_273_83 x1 x2 m).map Sum.inr) else (wb (304 + (8 * x3)) fun y2 => if ev_in (y2 + 2) (sh_n (sh_r a0 1)) = true then (if ev_in (y2 + 5) (sh_n (sh_r a0 1)) = true then (wb ((x1 + (m (sh_r a0 1) (ix (y2 + 2)))) + (m (sh_r a0 1) (ix (y2 + 5)))) fun y3 => if ev_in (y2 + 3) (sh_n (sh_r a0 1)) = true then (if ev_in (y2 + 6) (sh_n (sh_r a0 1)) = true then (wb ((x2 + (m (sh_r a0 1) (ix (y2 + 3)))) + (m (sh_r a0 1) (ix (y2 + 6)))) fun y4 => wb (x3 + 1) fun y5 => some (.inl (y3, y4, y5))) else none) else none) else none) else none)) else none
noncomputable def d_273_11 (a0 : Nat) (m : Mm) (x1 : Int32) (x2 : Int32) (x3 : Int32) : Option (UInt32 × Mm) := it (fun s => s_273_11 a0 m s.1 s.2.1 s.2.2) (x1, x2, x3)
theorem e_273_11 (a0 : Nat) (m : Mm) (x1 : Int32) (x2 : Int32) (x3 : Int32) : d_273_11 a0 m x1 x2 x3 = oi (s_273_11 a0 m x1 x2 x3) (fun s => d_273_11 a0 m s.1 s.2.1 s.2.2) := it_eq _
theorem u_273_11 {L nx : Nat} (hN : okn nx) {b z : Nat} {m : Mm} {a0 : Nat} (h0 : ok nx a0 11) {x1 : Int32} {x2 : Int32} {x3 : Int32} {o4 : Option Value} : Im (s_273_11 a0 m x1 x2 x3) (kL (wF L nx) (E_273_11 L nx b z a0 m)) (ev_dn b z 273 11 [some (.ref a0), some (.int x1), some (.int x2), some (.int x3), o4] [] (nx, mem L nx m)) := by
  unfold s_273_11
  refine i_bl (pc' := 13) [(.iload_n 3, 1), (.aload_n 0, 1)] [some (.ref a0), some (.int x1), some (.int x2), some (.int x3), o4] [.ref a0, .int x3] (by decide +kernel) rfl ?_
  refine i_gr (idx := 7) (ci := 11) (k := 1) (t := 2) (p := 16234) (pc' := 16) (by decide +kernel) h0 ?_
  refine i_bl (pc' := 18) [(.bipush (13), 2)] [some (.ref a0), some (.int x1), some (.int x2), some (.int x3), o4] [.int 13, .ref (sh_r a0 1), .int x3] (by decide +kernel) rfl ?_
  refine i_al (pc' := 19) (by decide +kernel) (o_11_1 hN h0) ?_
  refine i_ic (c := .ge) (off := 64) (t := 83) (pc' := 22) (p := (m (sh_r a0 1) (ix 13)) ≤ x3) (by decide +kernel) rfl ?_ ?_
  · exact i_mr (t_273_83 hN )
  · refine i_bl (pc' := 32) [(.sipush (304), 3), (.bipush (8), 2), (.iload_n 3, 1), (.imul, 1), (.iadd, 1), (.istore 4, 2)] [some (.ref a0), some (.int x1), some (.int x2), some (.int x3), some (.int (304 + (8 * x3)))] [] (by decide +kernel) rfl ?_
    refine i_wb (fun y2 => ev_dn b z 273 32 [some (.ref a0), some (.int x1), some (.int x2), some (.int x3), some (.int y2)] [] (nx, mem L nx m)) (fun y2 => ?_)
    refine i_bl (pc' := 34) [(.iload_n 1, 1), (.aload_n 0, 1)] [some (.ref a0), some (.int x1), some (.int x2), some (.int x3), some (.int y2)] [.ref a0, .int x1] (by decide +kernel) rfl ?_
    refine i_gr (idx := 7) (ci := 11) (k := 1) (t := 2) (p := 16234) (pc' := 37) (by decide +kernel) h0 ?_
    refine i_bl (pc' := 41) [(.iload 4, 2), (.iconst 2, 1), (.iadd, 1)] [some (.ref a0), some (.int x1), some (.int x2), some (.int x3), some (.int y2)] [.int (y2 + 2), .ref (sh_r a0 1), .int x1] (by decide +kernel) rfl ?_
    refine i_al (pc' := 42) (by decide +kernel) (o_11_1 hN h0) ?_
    refine i_bl (pc' := 44) [(.iadd, 1), (.aload_n 0, 1)] [some (.ref a0), some (.int x1), some (.int x2), some (.int x3), some (.int y2)] [.ref a0, .int (x1 + (m (sh_r a0 1) (ix (y2 + 2))))] (by decide +kernel) rfl ?_
    refine i_gr (idx := 7) (ci := 11) (k := 1) (t := 2) (p := 16234) (pc' := 47) (by decide +kernel) h0 ?_
    refine i_bl (pc' := 51) [(.iload 4, 2), (.iconst 5, 1), (.iadd, 1)] [some (.ref a0), some (.int x1), some (.int x2), some (.int x3), some (.int y2)] [.int (y2 + 5), .ref (sh_r a0 1), .int (x1 + (m (sh_r a0 1) (ix (y2 + 2))))] (by decide +kernel) rfl ?_
    refine i_al (pc' := 52) (by decide +kernel) (o_11_1 hN h0) ?_
    refine i_bl (pc' := 54) [(.iadd, 1), (.istore_n 1, 1)] [some (.ref a0), some (.int ((x1 + (m (sh_r a0 1) (ix (y2 + 2)))) + (m (sh_r a0 1) (ix (y2 + 5))))), some (.int x2), some (.int x3), some (.int y2)] [] (by decide +kernel) rfl ?_
    refine i_wb (fun y3 => ev_dn b z 273 54 [some (.ref a0), some (.int y3), some (.int x2), some (.int x3), some (.int y2)] [] (nx, mem L nx m)) (fun y3 => ?_)
    refine i_bl (pc' := 56) [(.iload_n 2, 1), (.aload_n 0, 1)] [some (.ref a0), some (.int y3), some (.int x2), some (.int x3), some (.int y2)] [.ref a0, .int x2] (by decide +kernel) rfl ?_
    refine i_gr (idx := 7) (ci := 11) (k := 1) (t := 2) (p := 16234) (pc' := 59) (by decide +kernel) h0 ?_
    refine i_bl (pc' := 63) [(.iload 4, 2), (.iconst 3, 1), (.iadd, 1)] [some (.ref a0), some (.int y3), some (.int x2), some (.int x3), some (.int y2)] [.int (y2 + 3), .ref (sh_r a0 1), .int x2] (by decide +kernel) rfl ?_
    refine i_al (pc' := 64) (by decide +kernel) (o_11_1 hN h0) ?_
    refine i_bl (pc' := 66) [(.iadd, 1), (.aload_n 0, 1)] [some (.ref a0), some (.int y3), some (.int x2), some (.int x3), some (.int y2)] [.ref a0, .int (x2 + (m (sh_r a0 1) (ix (y2 + 3))))] (by decide +kernel) rfl ?_
    refine i_gr (idx := 7) (ci := 11) (k := 1) (t := 2) (p := 16234) (pc' := 69) (by decide +kernel) h0 ?_
    refine i_bl (pc' := 74) [(.iload 4, 2), (.bipush (6), 2), (.iadd, 1)] [some (.ref a0), some (.int y3), some (.int x2), some (.int x3), some (.int y2)] [.int (y2 + 6), .ref (sh_r a0 1), .int (x2 + (m (sh_r a0 1) (ix (y2 + 3))))] (by decide +kernel) rfl ?_
    refine i_al (pc' := 75) (by decide +kernel) (o_11_1 hN h0) ?_
    refine i_bl (pc' := 77) [(.iadd, 1), (.istore_n 2, 1)] [some (.ref a0), some (.int y3), some (.int ((x2 + (m (sh_r a0 1) (ix (y2 + 3)))) + (m (sh_r a0 1) (ix (y2 + 6))))), some (.int x3), some (.int y2)] [] (by decide +kernel) rfl ?_
    refine i_wb (fun y4 => ev_dn b z 273 77 [some (.ref a0), some (.int y3), some (.int y4), some (.int x3), some (.int y2)] [] (nx, mem L nx m)) (fun y4 => ?_)
    refine i_bl (pc' := 80) [(.iinc 3 (1), 3)] [some (.ref a0), some (.int y3), some (.int y4), some (.int (x3 + 1)), some (.int y2)] [] (by decide +kernel) rfl ?_
    refine i_wb (fun y5 => ev_dn b z 273 80 [some (.ref a0), some (.int y3), some (.int y4), some (.int y5), some (.int y2)] [] (nx, mem L nx m)) (fun y5 => ?_)
    refine i_go (t := 11) (off := -69) (by decide +kernel) ?_
    exact i_co (some (.int y2)) rfl

theorem t_273_11 {L nx : Nat} (hN : okn nx) {b z : Nat} {m : Mm} {a0 : Nat} (h0 : ok nx a0 11) {x1 : Int32} {x2 : Int32} {x3 : Int32} {o4 : Option Value} : Im (d_273_11 a0 m x1 x2 x3) (wF L nx) (ev_dn b z 273 11 [some (.ref a0), some (.int x1), some (.int x2), some (.int x3), o4] [] (nx, mem L nx m)) := by
  exact i_it (f := fun s => s_273_11 a0 m s.1 s.2.1 s.2.2) (E := E_273_11 L nx b z a0 m) (K := (wF L nx)) (fun d s => u_273_11 hN (h0 := h0)) (o4) (x1, x2, x3)
noncomputable def d_273 (a0 : Nat) (m : Mm) : Option (UInt32 × Mm) := wb (wr m a0 0 0) fun m1 => d_273_11 a0 m1 0 0 0
theorem t_273 {L nx : Nat} (hN : okn nx) {b z : Nat} {m : Mm} {a0 : Nat} (h0 : ok nx a0 11)   : Im (d_273 a0 m) (wF L nx) (ev_dn b z 273 0 [some (.ref a0), none, none, none, none] [] (nx, mem L nx m)) := by
  unfold d_273
  refine i_bl (pc' := 2) [(.aload_n 0, 1), (.iconst 0, 1)] [some (.ref a0), none, none, none, none] [.int 0, .ref a0] (by decide +kernel) rfl ?_
  refine i_pf (x := 0) (idx := 67) (ci := 11) (k := 0) (p := 16233) (pc' := 5) (by decide +kernel) h0 (fun m1 => ?_)
  refine i_bl (pc' := 11) [(.iconst 0, 1), (.istore_n 1, 1), (.iconst 0, 1), (.istore_n 2, 1), (.iconst 0, 1), (.istore_n 3, 1)] [some (.ref a0), some (.int 0), some (.int 0), some (.int 0), none] [] (by decide +kernel) rfl ?_
  exact t_273_11 hN (h0 := h0)

/-! 274 LanternChessModel.think(I)I -/
noncomputable def d_274 (a0 : Nat) (x1 : Int32) (m : Mm) : Option (Int32 × Mm) := (d_185 x1 1 999).bind fun v1 => (d_183 a0 v1 m).bind fun r2 => if r2.1 = true then ((d_264 a0 r2.2).bind fun v3 => (d_184 a0 v3 2 r2.2).bind fun r4 => if r4.1 = true then ((d_188 a0 r4.2).bind fun m5 => if ev_in 3 (sh_n (sh_r a0 1)) = true then (wb (m5 (sh_r a0 1) (ix 3)) fun y6 => if ev_in (15 + y6) (sh_n (sh_r a0 1)) = true then (if x1 < (m5 (sh_r a0 1) (ix (15 + y6))) then (if ev_in 2 (sh_n (sh_r a0 1)) = true then (if ev_in 2 (sh_n (sh_r a0 1)) = true then (wb (wr m5 (sh_r a0 1) (ix 2) ((m5 (sh_r a0 1) (ix 2)) + x1)) fun m7 => if ev_in (15 + y6) (sh_n (sh_r a0 1)) = true then (if ev_in (15 + y6) (sh_n (sh_r a0 1)) = true then (wb (wr m7 (sh_r a0 1) (ix (15 + y6)) ((m7 (sh_r a0 1) (ix (15 + y6))) - x1)) fun m8 => if ev_in (15 + y6) (sh_n (sh_r a0 1)) = true then ((d_189 a0 (m8 (sh_r a0 1) (ix (15 + y6))) m8).bind fun r9 => some (r9.1, r9.2)) else none) else none) else none) else none) else none) else ((d_258 a0 y6 m5).bind fun m10 => (d_189 a0 0 m10).bind fun r11 => some (r11.1, r11.2))) else none) else none) else (some (0, r4.2))) else (some (0, r2.2))
theorem t_274 {L nx : Nat} (hN : okn nx) {b z : Nat} {m : Mm} {a0 : Nat} (h0 : ok nx a0 11) {x1 : Int32}  : Im (d_274 a0 x1 m) (wI L nx) (ev_dn b z 274 0 [some (.ref a0), some (.int x1), none] [] (nx, mem L nx m)) := by
  unfold d_274
  refine i_bl (pc' := 4) [(.aload_n 0, 1), (.iload_n 1, 1), (.i2l, 1), (.lconst 1, 1)] [some (.ref a0), some (.int x1), none] [.long (1 : Int32).toInt64, .long x1.toInt64, .ref a0] (by decide +kernel) rfl ?_
  refine i_l2 (idx := 202) (p := 18047) (x := 999) (pc' := 7) (by decide +kernel) ?_
  refine i_cs (t := 185) (na := 3) (ml := 6) (idx := 148) (pc' := 10) (st' := [.ref a0]) (en := [some (.long x1.toInt64), none, some (.long (1 : Int32).toInt64), none, some (.long (999 : Int32).toInt64), none]) (av := [.long x1.toInt64, .long (1 : Int32).toInt64, .long (999 : Int32).toInt64]) (vo := fun v => some (.int (bi v))) (mo := fun _ => m) (s2 := fun v => .int (bi v) :: [.ref a0]) (by decide +kernel) ⟨rfl, rfl, rfl, rfl, rfl, rfl⟩ (fun _ => rfl) (t_185 hN ) (fun v1 => ?_)
  refine i_cv (ci := 11) (t := 183) (na := 2) (ml := 2) (idx := 77) (pc' := 13) (st' := []) (en := [some (.ref a0), some (.int (bi v1))]) (av := [.int (bi v1)]) (vo := fun v => some (.int (bi v.1))) (mo := fun v => v.2) (s2 := fun v => .int (bi v.1) :: []) (by decide +kernel) (by decide +kernel) h0 ⟨rfl, rfl, rfl, rfl, rfl, rfl⟩ (fun _ => rfl) (t_183 hN (h0 := h0)) (fun r2 => ?_)
  refine i_bz (off := 15) (t := 28) (pc' := 16) (by decide +kernel) ?_ ?_
  · refine i_bl (pc' := 18) [(.aload_n 0, 1), (.aload_n 0, 1)] [some (.ref a0), some (.int x1), none] [.ref a0, .ref a0] (by decide +kernel) rfl ?_
    refine i_cv (ci := 11) (t := 264) (na := 1) (ml := 1) (idx := 275) (pc' := 21) (st' := [.ref a0]) (en := [some (.ref a0)]) (av := []) (vo := fun v => some (.int (bi v))) (mo := fun _ => r2.2) (s2 := fun v => .int (bi v) :: [.ref a0]) (by decide +kernel) (by decide +kernel) h0 ⟨rfl, rfl, rfl, rfl, rfl, rfl⟩ (fun _ => rfl) (t_264 hN (h0 := h0)) (fun v3 => ?_)
    refine i_bl (pc' := 22) [(.iconst 2, 1)] [some (.ref a0), some (.int x1), none] [.int 2, .int (bi v3), .ref a0] (by decide +kernel) rfl ?_
    refine i_cv (ci := 11) (t := 184) (na := 3) (ml := 3) (idx := 161) (pc' := 25) (st' := []) (en := [some (.ref a0), some (.int (bi v3)), some (.int 2)]) (av := [.int (bi v3), .int 2]) (vo := fun v => some (.int (bi v.1))) (mo := fun v => v.2) (s2 := fun v => .int (bi v.1) :: []) (by decide +kernel) (by decide +kernel) h0 ⟨rfl, rfl, rfl, rfl, rfl, rfl⟩ (fun _ => rfl) (t_184 hN (h0 := h0)) (fun r4 => ?_)
    refine i_bn (off := 5) (t := 30) (pc' := 28) (by decide +kernel) ?_ ?_
    · refine i_bl (pc' := 31) [(.aload_n 0, 1)] [some (.ref a0), some (.int x1), none] [.ref a0] (by decide +kernel) rfl ?_
      refine i_cv (ci := 11) (t := 188) (na := 1) (ml := 1) (idx := 281) (pc' := 34) (st' := []) (en := [some (.ref a0)]) (av := []) (vo := fun _ => none) (mo := fun m => m) (s2 := fun _ => []) (by decide +kernel) (by decide +kernel) h0 ⟨rfl, rfl, rfl, rfl, rfl, rfl⟩ (fun _ => rfl) (t_188 hN (h0 := h0)) (fun m5 => ?_)
      refine i_bl (pc' := 35) [(.aload_n 0, 1)] [some (.ref a0), some (.int x1), none] [.ref a0] (by decide +kernel) rfl ?_
      refine i_gr (idx := 7) (ci := 11) (k := 1) (t := 2) (p := 16234) (pc' := 38) (by decide +kernel) h0 ?_
      refine i_bl (pc' := 39) [(.iconst 3, 1)] [some (.ref a0), some (.int x1), none] [.int 3, .ref (sh_r a0 1)] (by decide +kernel) rfl ?_
      refine i_al (pc' := 40) (by decide +kernel) (o_11_1 hN h0) ?_
      refine i_bl (pc' := 41) [(.istore_n 2, 1)] [some (.ref a0), some (.int x1), some (.int (m5 (sh_r a0 1) (ix 3)))] [] (by decide +kernel) rfl ?_
      refine i_wb (fun y6 => ev_dn b z 274 41 [some (.ref a0), some (.int x1), some (.int y6)] [] (nx, mem L nx m5)) (fun y6 => ?_)
      refine i_bl (pc' := 42) [(.aload_n 0, 1)] [some (.ref a0), some (.int x1), some (.int y6)] [.ref a0] (by decide +kernel) rfl ?_
      refine i_gr (idx := 7) (ci := 11) (k := 1) (t := 2) (p := 16234) (pc' := 45) (by decide +kernel) h0 ?_
      refine i_bl (pc' := 49) [(.bipush (15), 2), (.iload_n 2, 1), (.iadd, 1)] [some (.ref a0), some (.int x1), some (.int y6)] [.int (15 + y6), .ref (sh_r a0 1)] (by decide +kernel) rfl ?_
      refine i_al (pc' := 50) (by decide +kernel) (o_11_1 hN h0) ?_
      refine i_bl (pc' := 51) [(.iload_n 1, 1)] [some (.ref a0), some (.int x1), some (.int y6)] [.int x1, .int (m5 (sh_r a0 1) (ix (15 + y6)))] (by decide +kernel) rfl ?_
      refine i_ic (c := .gt) (off := 14) (t := 65) (pc' := 54) (p := x1 < (m5 (sh_r a0 1) (ix (15 + y6)))) (by decide +kernel) rfl ?_ ?_
      · refine i_bl (pc' := 66) [(.aload_n 0, 1)] [some (.ref a0), some (.int x1), some (.int y6)] [.ref a0] (by decide +kernel) rfl ?_
        refine i_gr (idx := 7) (ci := 11) (k := 1) (t := 2) (p := 16234) (pc' := 69) (by decide +kernel) h0 ?_
        refine i_bl (pc' := 71) [(.iconst 2, 1), (.aload_n 0, 1)] [some (.ref a0), some (.int x1), some (.int y6)] [.ref a0, .int 2, .ref (sh_r a0 1)] (by decide +kernel) rfl ?_
        refine i_gr (idx := 7) (ci := 11) (k := 1) (t := 2) (p := 16234) (pc' := 74) (by decide +kernel) h0 ?_
        refine i_bl (pc' := 75) [(.iconst 2, 1)] [some (.ref a0), some (.int x1), some (.int y6)] [.int 2, .ref (sh_r a0 1), .int 2, .ref (sh_r a0 1)] (by decide +kernel) rfl ?_
        refine i_al (pc' := 76) (by decide +kernel) (o_11_1 hN h0) ?_
        refine i_bl (pc' := 78) [(.iload_n 1, 1), (.iadd, 1)] [some (.ref a0), some (.int x1), some (.int y6)] [.int ((m5 (sh_r a0 1) (ix 2)) + x1), .int 2, .ref (sh_r a0 1)] (by decide +kernel) rfl ?_
        refine i_as (y := ((m5 (sh_r a0 1) (ix 2)) + x1)) (pc' := 79) (by decide +kernel) (o_11_1 hN h0) (fun m7 => ?_)
        refine i_bl (pc' := 80) [(.aload_n 0, 1)] [some (.ref a0), some (.int x1), some (.int y6)] [.ref a0] (by decide +kernel) rfl ?_
        refine i_gr (idx := 7) (ci := 11) (k := 1) (t := 2) (p := 16234) (pc' := 83) (by decide +kernel) h0 ?_
        refine i_bl (pc' := 88) [(.bipush (15), 2), (.iload_n 2, 1), (.iadd, 1), (.aload_n 0, 1)] [some (.ref a0), some (.int x1), some (.int y6)] [.ref a0, .int (15 + y6), .ref (sh_r a0 1)] (by decide +kernel) rfl ?_
        refine i_gr (idx := 7) (ci := 11) (k := 1) (t := 2) (p := 16234) (pc' := 91) (by decide +kernel) h0 ?_
        refine i_bl (pc' := 95) [(.bipush (15), 2), (.iload_n 2, 1), (.iadd, 1)] [some (.ref a0), some (.int x1), some (.int y6)] [.int (15 + y6), .ref (sh_r a0 1), .int (15 + y6), .ref (sh_r a0 1)] (by decide +kernel) rfl ?_
        refine i_al (pc' := 96) (by decide +kernel) (o_11_1 hN h0) ?_
        refine i_bl (pc' := 98) [(.iload_n 1, 1), (.isub, 1)] [some (.ref a0), some (.int x1), some (.int y6)] [.int ((m7 (sh_r a0 1) (ix (15 + y6))) - x1), .int (15 + y6), .ref (sh_r a0 1)] (by decide +kernel) rfl ?_
        refine i_as (y := ((m7 (sh_r a0 1) (ix (15 + y6))) - x1)) (pc' := 99) (by decide +kernel) (o_11_1 hN h0) (fun m8 => ?_)
        refine i_bl (pc' := 101) [(.aload_n 0, 1), (.aload_n 0, 1)] [some (.ref a0), some (.int x1), some (.int y6)] [.ref a0, .ref a0] (by decide +kernel) rfl ?_
        refine i_gr (idx := 7) (ci := 11) (k := 1) (t := 2) (p := 16234) (pc' := 104) (by decide +kernel) h0 ?_
        refine i_bl (pc' := 108) [(.bipush (15), 2), (.iload_n 2, 1), (.iadd, 1)] [some (.ref a0), some (.int x1), some (.int y6)] [.int (15 + y6), .ref (sh_r a0 1), .ref a0] (by decide +kernel) rfl ?_
        refine i_al (pc' := 109) (by decide +kernel) (o_11_1 hN h0) ?_
        refine i_cv (ci := 11) (t := 189) (na := 2) (ml := 3) (idx := 287) (pc' := 112) (st' := []) (en := [some (.ref a0), some (.int (m8 (sh_r a0 1) (ix (15 + y6)))), none]) (av := [.int (m8 (sh_r a0 1) (ix (15 + y6)))]) (vo := fun v => some (.int v.1)) (mo := fun v => v.2) (s2 := fun v => .int v.1 :: []) (by decide +kernel) (by decide +kernel) h0 ⟨rfl, rfl, rfl, rfl, rfl, rfl⟩ (fun _ => rfl) (t_189 hN (h0 := h0)) (fun r9 => ?_)
        exact i_ri (by decide +kernel) rfl
      · refine i_bl (pc' := 56) [(.aload_n 0, 1), (.iload_n 2, 1)] [some (.ref a0), some (.int x1), some (.int y6)] [.int y6, .ref a0] (by decide +kernel) rfl ?_
        refine i_cv (ci := 11) (t := 258) (na := 2) (ml := 2) (idx := 258) (pc' := 59) (st' := []) (en := [some (.ref a0), some (.int y6)]) (av := [.int y6]) (vo := fun _ => none) (mo := fun m => m) (s2 := fun _ => []) (by decide +kernel) (by decide +kernel) h0 ⟨rfl, rfl, rfl, rfl, rfl, rfl⟩ (fun _ => rfl) (t_258 hN (h0 := h0)) (fun m10 => ?_)
        refine i_bl (pc' := 61) [(.aload_n 0, 1), (.iconst 0, 1)] [some (.ref a0), some (.int x1), some (.int y6)] [.int 0, .ref a0] (by decide +kernel) rfl ?_
        refine i_cv (ci := 11) (t := 189) (na := 2) (ml := 3) (idx := 287) (pc' := 64) (st' := []) (en := [some (.ref a0), some (.int 0), none]) (av := [.int 0]) (vo := fun v => some (.int v.1)) (mo := fun v => v.2) (s2 := fun v => .int v.1 :: []) (by decide +kernel) (by decide +kernel) h0 ⟨rfl, rfl, rfl, rfl, rfl, rfl⟩ (fun _ => rfl) (t_189 hN (h0 := h0)) (fun r11 => ?_)
        exact i_ri (by decide +kernel) rfl
    · refine i_bl (pc' := 29) [(.iconst 0, 1)] [some (.ref a0), some (.int x1), none] [.int 0] (by decide +kernel) rfl ?_
      exact i_ri (by decide +kernel) rfl
  · refine i_bl (pc' := 29) [(.iconst 0, 1)] [some (.ref a0), some (.int x1), none] [.int 0] (by decide +kernel) rfl ?_
    exact i_ri (by decide +kernel) rfl

/-! 275 LanternChessModel.resign()I -/
noncomputable def d_275 (a0 : Nat) (m : Mm) : Option (Int32 × Mm) := (d_264 a0 m).bind fun v1 => (d_183 a0 v1 m).bind fun r2 => if r2.1 = true then ((d_188 a0 r2.2).bind fun m3 => if ev_in 3 (sh_n (sh_r a0 1)) = true then (if ev_in 4 (sh_n (sh_r a0 1)) = true then (wb (wr m3 (sh_r a0 1) (ix 4) (2 - (m3 (sh_r a0 1) (ix 3)))) fun m4 => if ev_in 3 (sh_n (sh_r a0 1)) = true then ((d_189 a0 (1 - (m4 (sh_r a0 1) (ix 3))) m4).bind fun r5 => some (r5.1, r5.2)) else none) else none) else none) else (some (0, r2.2))
theorem t_275 {L nx : Nat} (hN : okn nx) {b z : Nat} {m : Mm} {a0 : Nat} (h0 : ok nx a0 11)   : Im (d_275 a0 m) (wI L nx) (ev_dn b z 275 0 [some (.ref a0)] [] (nx, mem L nx m)) := by
  unfold d_275
  refine i_bl (pc' := 2) [(.aload_n 0, 1), (.aload_n 0, 1)] [some (.ref a0)] [.ref a0, .ref a0] (by decide +kernel) rfl ?_
  refine i_cv (ci := 11) (t := 264) (na := 1) (ml := 1) (idx := 275) (pc' := 5) (st' := [.ref a0]) (en := [some (.ref a0)]) (av := []) (vo := fun v => some (.int (bi v))) (mo := fun _ => m) (s2 := fun v => .int (bi v) :: [.ref a0]) (by decide +kernel) (by decide +kernel) h0 ⟨rfl, rfl, rfl, rfl, rfl, rfl⟩ (fun _ => rfl) (t_264 hN (h0 := h0)) (fun v1 => ?_)
  refine i_cv (ci := 11) (t := 183) (na := 2) (ml := 2) (idx := 77) (pc' := 8) (st' := []) (en := [some (.ref a0), some (.int (bi v1))]) (av := [.int (bi v1)]) (vo := fun v => some (.int (bi v.1))) (mo := fun v => v.2) (s2 := fun v => .int (bi v.1) :: []) (by decide +kernel) (by decide +kernel) h0 ⟨rfl, rfl, rfl, rfl, rfl, rfl⟩ (fun _ => rfl) (t_183 hN (h0 := h0)) (fun r2 => ?_)
  refine i_bn (off := 5) (t := 13) (pc' := 11) (by decide +kernel) ?_ ?_
  · refine i_bl (pc' := 14) [(.aload_n 0, 1)] [some (.ref a0)] [.ref a0] (by decide +kernel) rfl ?_
    refine i_cv (ci := 11) (t := 188) (na := 1) (ml := 1) (idx := 281) (pc' := 17) (st' := []) (en := [some (.ref a0)]) (av := []) (vo := fun _ => none) (mo := fun m => m) (s2 := fun _ => []) (by decide +kernel) (by decide +kernel) h0 ⟨rfl, rfl, rfl, rfl, rfl, rfl⟩ (fun _ => rfl) (t_188 hN (h0 := h0)) (fun m3 => ?_)
    refine i_bl (pc' := 18) [(.aload_n 0, 1)] [some (.ref a0)] [.ref a0] (by decide +kernel) rfl ?_
    refine i_gr (idx := 7) (ci := 11) (k := 1) (t := 2) (p := 16234) (pc' := 21) (by decide +kernel) h0 ?_
    refine i_bl (pc' := 24) [(.iconst 4, 1), (.iconst 2, 1), (.aload_n 0, 1)] [some (.ref a0)] [.ref a0, .int 2, .int 4, .ref (sh_r a0 1)] (by decide +kernel) rfl ?_
    refine i_gr (idx := 7) (ci := 11) (k := 1) (t := 2) (p := 16234) (pc' := 27) (by decide +kernel) h0 ?_
    refine i_bl (pc' := 28) [(.iconst 3, 1)] [some (.ref a0)] [.int 3, .ref (sh_r a0 1), .int 2, .int 4, .ref (sh_r a0 1)] (by decide +kernel) rfl ?_
    refine i_al (pc' := 29) (by decide +kernel) (o_11_1 hN h0) ?_
    refine i_bl (pc' := 30) [(.isub, 1)] [some (.ref a0)] [.int (2 - (m3 (sh_r a0 1) (ix 3))), .int 4, .ref (sh_r a0 1)] (by decide +kernel) rfl ?_
    refine i_as (y := (2 - (m3 (sh_r a0 1) (ix 3)))) (pc' := 31) (by decide +kernel) (o_11_1 hN h0) (fun m4 => ?_)
    refine i_bl (pc' := 34) [(.aload_n 0, 1), (.iconst 1, 1), (.aload_n 0, 1)] [some (.ref a0)] [.ref a0, .int 1, .ref a0] (by decide +kernel) rfl ?_
    refine i_gr (idx := 7) (ci := 11) (k := 1) (t := 2) (p := 16234) (pc' := 37) (by decide +kernel) h0 ?_
    refine i_bl (pc' := 38) [(.iconst 3, 1)] [some (.ref a0)] [.int 3, .ref (sh_r a0 1), .int 1, .ref a0] (by decide +kernel) rfl ?_
    refine i_al (pc' := 39) (by decide +kernel) (o_11_1 hN h0) ?_
    refine i_bl (pc' := 40) [(.isub, 1)] [some (.ref a0)] [.int (1 - (m4 (sh_r a0 1) (ix 3))), .ref a0] (by decide +kernel) rfl ?_
    refine i_cv (ci := 11) (t := 189) (na := 2) (ml := 3) (idx := 287) (pc' := 43) (st' := []) (en := [some (.ref a0), some (.int (1 - (m4 (sh_r a0 1) (ix 3)))), none]) (av := [.int (1 - (m4 (sh_r a0 1) (ix 3)))]) (vo := fun v => some (.int v.1)) (mo := fun v => v.2) (s2 := fun v => .int v.1 :: []) (by decide +kernel) (by decide +kernel) h0 ⟨rfl, rfl, rfl, rfl, rfl, rfl⟩ (fun _ => rfl) (t_189 hN (h0 := h0)) (fun r5 => ?_)
    exact i_ri (by decide +kernel) rfl
  · refine i_bl (pc' := 12) [(.iconst 0, 1)] [some (.ref a0)] [.int 0] (by decide +kernel) rfl ?_
    exact i_ri (by decide +kernel) rfl

/-! 276 LanternChessModel.settle(I)I -/
noncomputable def E_276_29 (L nx b z : Nat) (a0 : Nat) (x1 : Int32) (x2 : Int32) (x3 : Int32) (d : Unit) (s : (Int32 × Mm)) : ev_Q := ev_dn b z 276 29 [some (.ref a0), some (.int x1), some (.int x2), some (.int x3), some (.int s.1)] [] (nx, mem L nx s.2)
noncomputable def d_276_90 (a0 : Nat) (x1 : Int32) (x2 : Int32) (x3 : Int32) (m : Mm) : Option (Int32 × Mm) := if ev_in (9 + x1) (sh_n (sh_r a0 1)) = true then (if ev_in (9 + x3) (sh_n (sh_r a0 1)) = true then (wb (wr m (sh_r a0 1) (ix (9 + x3)) (m (sh_r a0 1) (ix (9 + x1)))) fun m6 => if ev_in (17 + x1) (sh_n (sh_r a0 1)) = true then (if ev_in (17 + x3) (sh_n (sh_r a0 1)) = true then (wb (wr m6 (sh_r a0 1) (ix (17 + x3)) (m6 (sh_r a0 1) (ix (17 + x1)))) fun m7 => if ev_in (19 + x1) (sh_n (sh_r a0 1)) = true then (if ev_in (19 + x3) (sh_n (sh_r a0 1)) = true then (wb (wr m7 (sh_r a0 1) (ix (19 + x3)) (m7 (sh_r a0 1) (ix (19 + x1)))) fun m8 => if ev_in (21 + x1) (sh_n (sh_r a0 1)) = true then (if ev_in (21 + x3) (sh_n (sh_r a0 1)) = true then (wb (wr m8 (sh_r a0 1) (ix (21 + x3)) (m8 (sh_r a0 1) (ix (21 + x1)))) fun m9 => (d_189 a0 x2 m9).bind fun r10 => some (r10.1, r10.2)) else none) else none) else none) else none) else none) else none) else none) else none
theorem t_276_90 {L nx : Nat} (hN : okn nx) {b z : Nat} {m : Mm} {a0 : Nat} (h0 : ok nx a0 11) {x1 : Int32} {x2 : Int32} {x3 : Int32} {o4 : Option Value} : Im (d_276_90 a0 x1 x2 x3 m) (wI L nx) (ev_dn b z 276 90 [some (.ref a0), some (.int x1), some (.int x2), some (.int x3), o4] [] (nx, mem L nx m)) := by
  unfold d_276_90
  refine i_bl (pc' := 91) [(.aload_n 0, 1)] [some (.ref a0), some (.int x1), some (.int x2), some (.int x3), o4] [.ref a0] (by decide +kernel) rfl ?_
  refine i_gr (idx := 7) (ci := 11) (k := 1) (t := 2) (p := 16234) (pc' := 94) (by decide +kernel) h0 ?_
  refine i_bl (pc' := 99) [(.bipush (9), 2), (.iload_n 3, 1), (.iadd, 1), (.aload_n 0, 1)] [some (.ref a0), some (.int x1), some (.int x2), some (.int x3), o4] [.ref a0, .int (9 + x3), .ref (sh_r a0 1)] (by decide +kernel) rfl ?_
  refine i_gr (idx := 7) (ci := 11) (k := 1) (t := 2) (p := 16234) (pc' := 102) (by decide +kernel) h0 ?_
  refine i_bl (pc' := 106) [(.bipush (9), 2), (.iload_n 1, 1), (.iadd, 1)] [some (.ref a0), some (.int x1), some (.int x2), some (.int x3), o4] [.int (9 + x1), .ref (sh_r a0 1), .int (9 + x3), .ref (sh_r a0 1)] (by decide +kernel) rfl ?_
  refine i_al (pc' := 107) (by decide +kernel) (o_11_1 hN h0) ?_
  refine i_as (y := (m (sh_r a0 1) (ix (9 + x1)))) (pc' := 108) (by decide +kernel) (o_11_1 hN h0) (fun m6 => ?_)
  refine i_bl (pc' := 109) [(.aload_n 0, 1)] [some (.ref a0), some (.int x1), some (.int x2), some (.int x3), o4] [.ref a0] (by decide +kernel) rfl ?_
  refine i_gr (idx := 7) (ci := 11) (k := 1) (t := 2) (p := 16234) (pc' := 112) (by decide +kernel) h0 ?_
  refine i_bl (pc' := 117) [(.bipush (17), 2), (.iload_n 3, 1), (.iadd, 1), (.aload_n 0, 1)] [some (.ref a0), some (.int x1), some (.int x2), some (.int x3), o4] [.ref a0, .int (17 + x3), .ref (sh_r a0 1)] (by decide +kernel) rfl ?_
  refine i_gr (idx := 7) (ci := 11) (k := 1) (t := 2) (p := 16234) (pc' := 120) (by decide +kernel) h0 ?_
  refine i_bl (pc' := 124) [(.bipush (17), 2), (.iload_n 1, 1), (.iadd, 1)] [some (.ref a0), some (.int x1), some (.int x2), some (.int x3), o4] [.int (17 + x1), .ref (sh_r a0 1), .int (17 + x3), .ref (sh_r a0 1)] (by decide +kernel) rfl ?_
  refine i_al (pc' := 125) (by decide +kernel) (o_11_1 hN h0) ?_
  refine i_as (y := (m6 (sh_r a0 1) (ix (17 + x1)))) (pc' := 126) (by decide +kernel) (o_11_1 hN h0) (fun m7 => ?_)
  refine i_bl (pc' := 127) [(.aload_n 0, 1)] [some (.ref a0), some (.int x1), some (.int x2), some (.int x3), o4] [.ref a0] (by decide +kernel) rfl ?_
  refine i_gr (idx := 7) (ci := 11) (k := 1) (t := 2) (p := 16234) (pc' := 130) (by decide +kernel) h0 ?_
  refine i_bl (pc' := 135) [(.bipush (19), 2), (.iload_n 3, 1), (.iadd, 1), (.aload_n 0, 1)] [some (.ref a0), some (.int x1), some (.int x2), some (.int x3), o4] [.ref a0, .int (19 + x3), .ref (sh_r a0 1)] (by decide +kernel) rfl ?_
  refine i_gr (idx := 7) (ci := 11) (k := 1) (t := 2) (p := 16234) (pc' := 138) (by decide +kernel) h0 ?_
  refine i_bl (pc' := 142) [(.bipush (19), 2), (.iload_n 1, 1), (.iadd, 1)] [some (.ref a0), some (.int x1), some (.int x2), some (.int x3), o4] [.int (19 + x1), .ref (sh_r a0 1), .int (19 + x3), .ref (sh_r a0 1)] (by decide +kernel) rfl ?_
  refine i_al (pc' := 143) (by decide +kernel) (o_11_1 hN h0) ?_
  refine i_as (y := (m7 (sh_r a0 1) (ix (19 + x1)))) (pc' := 144) (by decide +kernel) (o_11_1 hN h0) (fun m8 => ?_)
  refine i_bl (pc' := 145) [(.aload_n 0, 1)] [some (.ref a0), some (.int x1), some (.int x2), some (.int x3), o4] [.ref a0] (by decide +kernel) rfl ?_
  refine i_gr (idx := 7) (ci := 11) (k := 1) (t := 2) (p := 16234) (pc' := 148) (by decide +kernel) h0 ?_
  refine i_bl (pc' := 153) [(.bipush (21), 2), (.iload_n 3, 1), (.iadd, 1), (.aload_n 0, 1)] [some (.ref a0), some (.int x1), some (.int x2), some (.int x3), o4] [.ref a0, .int (21 + x3), .ref (sh_r a0 1)] (by decide +kernel) rfl ?_
  refine i_gr (idx := 7) (ci := 11) (k := 1) (t := 2) (p := 16234) (pc' := 156) (by decide +kernel) h0 ?_
  refine i_bl (pc' := 160) [(.bipush (21), 2), (.iload_n 1, 1), (.iadd, 1)] [some (.ref a0), some (.int x1), some (.int x2), some (.int x3), o4] [.int (21 + x1), .ref (sh_r a0 1), .int (21 + x3), .ref (sh_r a0 1)] (by decide +kernel) rfl ?_
  refine i_al (pc' := 161) (by decide +kernel) (o_11_1 hN h0) ?_
  refine i_as (y := (m8 (sh_r a0 1) (ix (21 + x1)))) (pc' := 162) (by decide +kernel) (o_11_1 hN h0) (fun m9 => ?_)
  refine i_bl (pc' := 164) [(.aload_n 0, 1), (.iload_n 2, 1)] [some (.ref a0), some (.int x1), some (.int x2), some (.int x3), o4] [.int x2, .ref a0] (by decide +kernel) rfl ?_
  refine i_cv (ci := 11) (t := 189) (na := 2) (ml := 3) (idx := 287) (pc' := 167) (st' := []) (en := [some (.ref a0), some (.int x2), none]) (av := [.int x2]) (vo := fun v => some (.int v.1)) (mo := fun v => v.2) (s2 := fun v => .int v.1 :: []) (by decide +kernel) (by decide +kernel) h0 ⟨rfl, rfl, rfl, rfl, rfl, rfl⟩ (fun _ => rfl) (t_189 hN (h0 := h0)) (fun r10 => ?_)
  exact i_ri (by decide +kernel) rfl

noncomputable def s_276_29 (a0 : Nat) (x1 : Int32) (x2 : Int32) (x3 : Int32) (x4 : Int32) (m : Mm) : Option ((Int32 × Mm) ⊕ (Int32 × Mm)) := if 64 ≤ x4 then ((d_276_90 a0 x1 x2 x3 m).map Sum.inr) else ((d_194 x3).bind fun v11 => (d_194 x1).bind fun v12 => if ev_in (v12 + x4) (sh_n (sh_r a0 1)) = true then (if ev_in (v11 + x4) (sh_n (sh_r a0 1)) = true then (wb (wr m (sh_r a0 1) (ix (v11 + x4)) (m (sh_r a0 1) (ix (v12 + x4)))) fun m13 => (d_195 x3).bind fun v14 => (d_195 x1).bind fun v15 => if ev_in (v15 + x4) (sh_n (sh_r a0 1)) = true then (if ev_in (v14 + x4) (sh_n (sh_r a0 1)) = true then (wb (wr m13 (sh_r a0 1) (ix (v14 + x4)) (m13 (sh_r a0 1) (ix (v15 + x4)))) fun m16 => wb (x4 + 1) fun y17 => some (.inl (y17, m16))) else none) else none) else none) else none)
noncomputable def d_276_29 (a0 : Nat) (x1 : Int32) (x2 : Int32) (x3 : Int32) (x4 : Int32) (m : Mm) : Option (Int32 × Mm) := it (fun s => s_276_29 a0 x1 x2 x3 s.1 s.2) (x4, m)
theorem e_276_29 (a0 : Nat) (x1 : Int32) (x2 : Int32) (x3 : Int32) (x4 : Int32) (m : Mm) : d_276_29 a0 x1 x2 x3 x4 m = oi (s_276_29 a0 x1 x2 x3 x4 m) (fun s => d_276_29 a0 x1 x2 x3 s.1 s.2) := it_eq _
theorem u_276_29 {L nx : Nat} (hN : okn nx) {b z : Nat} {m : Mm} {a0 : Nat} (h0 : ok nx a0 11) {x1 : Int32} {x2 : Int32} {x3 : Int32} {x4 : Int32}  : Im (s_276_29 a0 x1 x2 x3 x4 m) (kL (wI L nx) (E_276_29 L nx b z a0 x1 x2 x3)) (ev_dn b z 276 29 [some (.ref a0), some (.int x1), some (.int x2), some (.int x3), some (.int x4)] [] (nx, mem L nx m)) := by
  unfold s_276_29
  refine i_bl (pc' := 33) [(.iload 4, 2), (.bipush (64), 2)] [some (.ref a0), some (.int x1), some (.int x2), some (.int x3), some (.int x4)] [.int 64, .int x4] (by decide +kernel) rfl ?_
  refine i_ic (c := .ge) (off := 57) (t := 90) (pc' := 36) (p := 64 ≤ x4) (by decide +kernel) rfl ?_ ?_
  · exact i_mr (t_276_90 hN (h0 := h0))
  · refine i_bl (pc' := 37) [(.aload_n 0, 1)] [some (.ref a0), some (.int x1), some (.int x2), some (.int x3), some (.int x4)] [.ref a0] (by decide +kernel) rfl ?_
    refine i_gr (idx := 7) (ci := 11) (k := 1) (t := 2) (p := 16234) (pc' := 40) (by decide +kernel) h0 ?_
    refine i_bl (pc' := 41) [(.iload_n 3, 1)] [some (.ref a0), some (.int x1), some (.int x2), some (.int x3), some (.int x4)] [.int x3, .ref (sh_r a0 1)] (by decide +kernel) rfl ?_
    refine i_cs (t := 194) (na := 1) (ml := 1) (idx := 165) (pc' := 44) (st' := [.ref (sh_r a0 1)]) (en := [some (.int x3)]) (av := [.int x3]) (vo := fun v => some (.int v)) (mo := fun _ => m) (s2 := fun v => .int v :: [.ref (sh_r a0 1)]) (by decide +kernel) ⟨rfl, rfl, rfl, rfl, rfl, rfl⟩ (fun _ => rfl) (t_194 hN ) (fun v11 => ?_)
    refine i_bl (pc' := 48) [(.iload 4, 2), (.iadd, 1), (.aload_n 0, 1)] [some (.ref a0), some (.int x1), some (.int x2), some (.int x3), some (.int x4)] [.ref a0, .int (v11 + x4), .ref (sh_r a0 1)] (by decide +kernel) rfl ?_
    refine i_gr (idx := 7) (ci := 11) (k := 1) (t := 2) (p := 16234) (pc' := 51) (by decide +kernel) h0 ?_
    refine i_bl (pc' := 52) [(.iload_n 1, 1)] [some (.ref a0), some (.int x1), some (.int x2), some (.int x3), some (.int x4)] [.int x1, .ref (sh_r a0 1), .int (v11 + x4), .ref (sh_r a0 1)] (by decide +kernel) rfl ?_
    refine i_cs (t := 194) (na := 1) (ml := 1) (idx := 165) (pc' := 55) (st' := [.ref (sh_r a0 1), .int (v11 + x4), .ref (sh_r a0 1)]) (en := [some (.int x1)]) (av := [.int x1]) (vo := fun v => some (.int v)) (mo := fun _ => m) (s2 := fun v => .int v :: [.ref (sh_r a0 1), .int (v11 + x4), .ref (sh_r a0 1)]) (by decide +kernel) ⟨rfl, rfl, rfl, rfl, rfl, rfl⟩ (fun _ => rfl) (t_194 hN ) (fun v12 => ?_)
    refine i_bl (pc' := 58) [(.iload 4, 2), (.iadd, 1)] [some (.ref a0), some (.int x1), some (.int x2), some (.int x3), some (.int x4)] [.int (v12 + x4), .ref (sh_r a0 1), .int (v11 + x4), .ref (sh_r a0 1)] (by decide +kernel) rfl ?_
    refine i_al (pc' := 59) (by decide +kernel) (o_11_1 hN h0) ?_
    refine i_as (y := (m (sh_r a0 1) (ix (v12 + x4)))) (pc' := 60) (by decide +kernel) (o_11_1 hN h0) (fun m13 => ?_)
    refine i_bl (pc' := 61) [(.aload_n 0, 1)] [some (.ref a0), some (.int x1), some (.int x2), some (.int x3), some (.int x4)] [.ref a0] (by decide +kernel) rfl ?_
    refine i_gr (idx := 7) (ci := 11) (k := 1) (t := 2) (p := 16234) (pc' := 64) (by decide +kernel) h0 ?_
    refine i_bl (pc' := 65) [(.iload_n 3, 1)] [some (.ref a0), some (.int x1), some (.int x2), some (.int x3), some (.int x4)] [.int x3, .ref (sh_r a0 1)] (by decide +kernel) rfl ?_
    refine i_cs (t := 195) (na := 1) (ml := 1) (idx := 231) (pc' := 68) (st' := [.ref (sh_r a0 1)]) (en := [some (.int x3)]) (av := [.int x3]) (vo := fun v => some (.int v)) (mo := fun _ => m13) (s2 := fun v => .int v :: [.ref (sh_r a0 1)]) (by decide +kernel) ⟨rfl, rfl, rfl, rfl, rfl, rfl⟩ (fun _ => rfl) (t_195 hN ) (fun v14 => ?_)
    refine i_bl (pc' := 72) [(.iload 4, 2), (.iadd, 1), (.aload_n 0, 1)] [some (.ref a0), some (.int x1), some (.int x2), some (.int x3), some (.int x4)] [.ref a0, .int (v14 + x4), .ref (sh_r a0 1)] (by decide +kernel) rfl ?_
    refine i_gr (idx := 7) (ci := 11) (k := 1) (t := 2) (p := 16234) (pc' := 75) (by decide +kernel) h0 ?_
    refine i_bl (pc' := 76) [(.iload_n 1, 1)] [some (.ref a0), some (.int x1), some (.int x2), some (.int x3), some (.int x4)] [.int x1, .ref (sh_r a0 1), .int (v14 + x4), .ref (sh_r a0 1)] (by decide +kernel) rfl ?_
    refine i_cs (t := 195) (na := 1) (ml := 1) (idx := 231) (pc' := 79) (st' := [.ref (sh_r a0 1), .int (v14 + x4), .ref (sh_r a0 1)]) (en := [some (.int x1)]) (av := [.int x1]) (vo := fun v => some (.int v)) (mo := fun _ => m13) (s2 := fun v => .int v :: [.ref (sh_r a0 1), .int (v14 + x4), .ref (sh_r a0 1)]) (by decide +kernel) ⟨rfl, rfl, rfl, rfl, rfl, rfl⟩ (fun _ => rfl) (t_195 hN ) (fun v15 => ?_)
    refine i_bl (pc' := 82) [(.iload 4, 2), (.iadd, 1)] [some (.ref a0), some (.int x1), some (.int x2), some (.int x3), some (.int x4)] [.int (v15 + x4), .ref (sh_r a0 1), .int (v14 + x4), .ref (sh_r a0 1)] (by decide +kernel) rfl ?_
    refine i_al (pc' := 83) (by decide +kernel) (o_11_1 hN h0) ?_
    refine i_as (y := (m13 (sh_r a0 1) (ix (v15 + x4)))) (pc' := 84) (by decide +kernel) (o_11_1 hN h0) (fun m16 => ?_)
    refine i_bl (pc' := 87) [(.iinc 4 (1), 3)] [some (.ref a0), some (.int x1), some (.int x2), some (.int x3), some (.int (x4 + 1))] [] (by decide +kernel) rfl ?_
    refine i_wb (fun y17 => ev_dn b z 276 87 [some (.ref a0), some (.int x1), some (.int x2), some (.int x3), some (.int y17)] [] (nx, mem L nx m16)) (fun y17 => ?_)
    refine i_go (t := 29) (off := -58) (by decide +kernel) ?_
    exact i_co () rfl

theorem t_276_29 {L nx : Nat} (hN : okn nx) {b z : Nat} {m : Mm} {a0 : Nat} (h0 : ok nx a0 11) {x1 : Int32} {x2 : Int32} {x3 : Int32} {x4 : Int32}  : Im (d_276_29 a0 x1 x2 x3 x4 m) (wI L nx) (ev_dn b z 276 29 [some (.ref a0), some (.int x1), some (.int x2), some (.int x3), some (.int x4)] [] (nx, mem L nx m)) := by
  exact i_it (f := fun s => s_276_29 a0 x1 x2 x3 s.1 s.2) (E := E_276_29 L nx b z a0 x1 x2 x3) (K := (wI L nx)) (fun d s => u_276_29 hN (h0 := h0)) () (x4, m)
noncomputable def d_276 (a0 : Nat) (x1 : Int32) (m : Mm) : Option (Int32 × Mm) := (d_212 x1).bind fun v1 => (d_183 a0 v1 m).bind fun r2 => if r2.1 = true then ((d_188 a0 r2.2).bind fun m3 => (d_227 a0 m3).bind fun v4 => wb (1 - x1) fun y5 => d_276_29 a0 x1 v4 y5 0 m3) else (some (0, r2.2))
theorem t_276 {L nx : Nat} (hN : okn nx) {b z : Nat} {m : Mm} {a0 : Nat} (h0 : ok nx a0 11) {x1 : Int32}  : Im (d_276 a0 x1 m) (wI L nx) (ev_dn b z 276 0 [some (.ref a0), some (.int x1), none, none, none] [] (nx, mem L nx m)) := by
  unfold d_276
  refine i_bl (pc' := 2) [(.aload_n 0, 1), (.iload_n 1, 1)] [some (.ref a0), some (.int x1), none, none, none] [.int x1, .ref a0] (by decide +kernel) rfl ?_
  refine i_cs (t := 212) (na := 1) (ml := 1) (idx := 154) (pc' := 5) (st' := [.ref a0]) (en := [some (.int x1)]) (av := [.int x1]) (vo := fun v => some (.int (bi v))) (mo := fun _ => m) (s2 := fun v => .int (bi v) :: [.ref a0]) (by decide +kernel) ⟨rfl, rfl, rfl, rfl, rfl, rfl⟩ (fun _ => rfl) (t_212 hN ) (fun v1 => ?_)
  refine i_cv (ci := 11) (t := 183) (na := 2) (ml := 2) (idx := 77) (pc' := 8) (st' := []) (en := [some (.ref a0), some (.int (bi v1))]) (av := [.int (bi v1)]) (vo := fun v => some (.int (bi v.1))) (mo := fun v => v.2) (s2 := fun v => .int (bi v.1) :: []) (by decide +kernel) (by decide +kernel) h0 ⟨rfl, rfl, rfl, rfl, rfl, rfl⟩ (fun _ => rfl) (t_183 hN (h0 := h0)) (fun r2 => ?_)
  refine i_bn (off := 5) (t := 13) (pc' := 11) (by decide +kernel) ?_ ?_
  · refine i_bl (pc' := 14) [(.aload_n 0, 1)] [some (.ref a0), some (.int x1), none, none, none] [.ref a0] (by decide +kernel) rfl ?_
    refine i_cv (ci := 11) (t := 188) (na := 1) (ml := 1) (idx := 281) (pc' := 17) (st' := []) (en := [some (.ref a0)]) (av := []) (vo := fun _ => none) (mo := fun m => m) (s2 := fun _ => []) (by decide +kernel) (by decide +kernel) h0 ⟨rfl, rfl, rfl, rfl, rfl, rfl⟩ (fun _ => rfl) (t_188 hN (h0 := h0)) (fun m3 => ?_)
    refine i_bl (pc' := 18) [(.aload_n 0, 1)] [some (.ref a0), some (.int x1), none, none, none] [.ref a0] (by decide +kernel) rfl ?_
    refine i_cv (ci := 11) (t := 227) (na := 1) (ml := 3) (idx := 185) (pc' := 21) (st' := []) (en := [some (.ref a0), none, none]) (av := []) (vo := fun v => some (.int v)) (mo := fun _ => m3) (s2 := fun v => .int v :: []) (by decide +kernel) (by decide +kernel) h0 ⟨rfl, rfl, rfl, rfl, rfl, rfl⟩ (fun _ => rfl) (t_227 hN (h0 := h0)) (fun v4 => ?_)
    refine i_bl (pc' := 26) [(.istore_n 2, 1), (.iconst 1, 1), (.iload_n 1, 1), (.isub, 1), (.istore_n 3, 1)] [some (.ref a0), some (.int x1), some (.int v4), some (.int (1 - x1)), none] [] (by decide +kernel) rfl ?_
    refine i_wb (fun y5 => ev_dn b z 276 26 [some (.ref a0), some (.int x1), some (.int v4), some (.int y5), none] [] (nx, mem L nx m3)) (fun y5 => ?_)
    refine i_bl (pc' := 29) [(.iconst 0, 1), (.istore 4, 2)] [some (.ref a0), some (.int x1), some (.int v4), some (.int y5), some (.int 0)] [] (by decide +kernel) rfl ?_
    exact t_276_29 hN (h0 := h0)
  · refine i_bl (pc' := 12) [(.iconst 0, 1)] [some (.ref a0), some (.int x1), none, none, none] [.int 0] (by decide +kernel) rfl ?_
    exact i_ri (by decide +kernel) rfl

/-! 277 LanternChessModel.wind(II)I -/
noncomputable def d_277_51 (a0 : Nat) (x1 : Int32) (x2 : Int32) (s0 : Nat) (s1 : Bool) (m : Mm) : Option (Int32 × Mm) := (d_184 s0 s1 3 m).bind fun r5 => if r5.1 = true then ((d_188 a0 r5.2).bind fun m6 => if ev_in (15 + x1) (sh_n (sh_r a0 1)) = true then (if ev_in (15 + x1) (sh_n (sh_r a0 1)) = true then (wb (wr m6 (sh_r a0 1) (ix (15 + x1)) ((m6 (sh_r a0 1) (ix (15 + x1))) + x2)) fun m7 => if ev_in (15 + x1) (sh_n (sh_r a0 1)) = true then ((d_189 a0 (m7 (sh_r a0 1) (ix (15 + x1))) m7).bind fun r8 => some (r8.1, r8.2)) else none) else none) else none) else (some (0, r5.2))
theorem t_277_51 {L nx : Nat} (hN : okn nx) {b z : Nat} {m : Mm} {a0 : Nat} (h0 : ok nx a0 11) {s0 : Nat} (hs0 : ok nx s0 11) {x1 : Int32} {x2 : Int32} {s1 : Bool}  : Im (d_277_51 a0 x1 x2 s0 s1 m) (wI L nx) (ev_dn b z 277 51 [some (.ref a0), some (.int x1), some (.int x2)] [.int (bi s1), .ref s0] (nx, mem L nx m)) := by
  unfold d_277_51
  refine i_bl (pc' := 52) [(.iconst 3, 1)] [some (.ref a0), some (.int x1), some (.int x2)] [.int 3, .int (bi s1), .ref s0] (by decide +kernel) rfl ?_
  refine i_cv (ci := 11) (t := 184) (na := 3) (ml := 3) (idx := 161) (pc' := 55) (st' := []) (en := [some (.ref s0), some (.int (bi s1)), some (.int 3)]) (av := [.int (bi s1), .int 3]) (vo := fun v => some (.int (bi v.1))) (mo := fun v => v.2) (s2 := fun v => .int (bi v.1) :: []) (by decide +kernel) (by decide +kernel) hs0 ⟨rfl, rfl, rfl, rfl, rfl, rfl⟩ (fun _ => rfl) (t_184 hN (h0 := hs0)) (fun r5 => ?_)
  refine i_bn (off := 5) (t := 60) (pc' := 58) (by decide +kernel) ?_ ?_
  · refine i_bl (pc' := 61) [(.aload_n 0, 1)] [some (.ref a0), some (.int x1), some (.int x2)] [.ref a0] (by decide +kernel) rfl ?_
    refine i_cv (ci := 11) (t := 188) (na := 1) (ml := 1) (idx := 281) (pc' := 64) (st' := []) (en := [some (.ref a0)]) (av := []) (vo := fun _ => none) (mo := fun m => m) (s2 := fun _ => []) (by decide +kernel) (by decide +kernel) h0 ⟨rfl, rfl, rfl, rfl, rfl, rfl⟩ (fun _ => rfl) (t_188 hN (h0 := h0)) (fun m6 => ?_)
    refine i_bl (pc' := 65) [(.aload_n 0, 1)] [some (.ref a0), some (.int x1), some (.int x2)] [.ref a0] (by decide +kernel) rfl ?_
    refine i_gr (idx := 7) (ci := 11) (k := 1) (t := 2) (p := 16234) (pc' := 68) (by decide +kernel) h0 ?_
    refine i_bl (pc' := 73) [(.bipush (15), 2), (.iload_n 1, 1), (.iadd, 1), (.aload_n 0, 1)] [some (.ref a0), some (.int x1), some (.int x2)] [.ref a0, .int (15 + x1), .ref (sh_r a0 1)] (by decide +kernel) rfl ?_
    refine i_gr (idx := 7) (ci := 11) (k := 1) (t := 2) (p := 16234) (pc' := 76) (by decide +kernel) h0 ?_
    refine i_bl (pc' := 80) [(.bipush (15), 2), (.iload_n 1, 1), (.iadd, 1)] [some (.ref a0), some (.int x1), some (.int x2)] [.int (15 + x1), .ref (sh_r a0 1), .int (15 + x1), .ref (sh_r a0 1)] (by decide +kernel) rfl ?_
    refine i_al (pc' := 81) (by decide +kernel) (o_11_1 hN h0) ?_
    refine i_bl (pc' := 83) [(.iload_n 2, 1), (.iadd, 1)] [some (.ref a0), some (.int x1), some (.int x2)] [.int ((m6 (sh_r a0 1) (ix (15 + x1))) + x2), .int (15 + x1), .ref (sh_r a0 1)] (by decide +kernel) rfl ?_
    refine i_as (y := ((m6 (sh_r a0 1) (ix (15 + x1))) + x2)) (pc' := 84) (by decide +kernel) (o_11_1 hN h0) (fun m7 => ?_)
    refine i_bl (pc' := 86) [(.aload_n 0, 1), (.aload_n 0, 1)] [some (.ref a0), some (.int x1), some (.int x2)] [.ref a0, .ref a0] (by decide +kernel) rfl ?_
    refine i_gr (idx := 7) (ci := 11) (k := 1) (t := 2) (p := 16234) (pc' := 89) (by decide +kernel) h0 ?_
    refine i_bl (pc' := 93) [(.bipush (15), 2), (.iload_n 1, 1), (.iadd, 1)] [some (.ref a0), some (.int x1), some (.int x2)] [.int (15 + x1), .ref (sh_r a0 1), .ref a0] (by decide +kernel) rfl ?_
    refine i_al (pc' := 94) (by decide +kernel) (o_11_1 hN h0) ?_
    refine i_cv (ci := 11) (t := 189) (na := 2) (ml := 3) (idx := 287) (pc' := 97) (st' := []) (en := [some (.ref a0), some (.int (m7 (sh_r a0 1) (ix (15 + x1)))), none]) (av := [.int (m7 (sh_r a0 1) (ix (15 + x1)))]) (vo := fun v => some (.int v.1)) (mo := fun v => v.2) (s2 := fun v => .int v.1 :: []) (by decide +kernel) (by decide +kernel) h0 ⟨rfl, rfl, rfl, rfl, rfl, rfl⟩ (fun _ => rfl) (t_189 hN (h0 := h0)) (fun r8 => ?_)
    exact i_ri (by decide +kernel) rfl
  · refine i_bl (pc' := 59) [(.iconst 0, 1)] [some (.ref a0), some (.int x1), some (.int x2)] [.int 0] (by decide +kernel) rfl ?_
    exact i_ri (by decide +kernel) rfl

noncomputable def d_277 (a0 : Nat) (x1 : Int32) (x2 : Int32) (m : Mm) : Option (Int32 × Mm) := (d_212 x1).bind fun v1 => (d_183 a0 v1 m).bind fun r2 => if r2.1 = true then ((d_185 x2 1 999).bind fun v3 => (d_184 a0 v3 2 r2.2).bind fun r4 => if r4.1 = true then (if ev_in (15 + x1) (sh_n (sh_r a0 1)) = true then (if 9999 < ((r4.2 (sh_r a0 1) (ix (15 + x1))) + x2) then (d_277_51 a0 x1 x2 a0 false r4.2) else (d_277_51 a0 x1 x2 a0 true r4.2)) else none) else (some (0, r4.2))) else (some (0, r2.2))
theorem t_277 {L nx : Nat} (hN : okn nx) {b z : Nat} {m : Mm} {a0 : Nat} (h0 : ok nx a0 11) {x1 : Int32} {x2 : Int32}  : Im (d_277 a0 x1 x2 m) (wI L nx) (ev_dn b z 277 0 [some (.ref a0), some (.int x1), some (.int x2)] [] (nx, mem L nx m)) := by
  unfold d_277
  refine i_bl (pc' := 2) [(.aload_n 0, 1), (.iload_n 1, 1)] [some (.ref a0), some (.int x1), some (.int x2)] [.int x1, .ref a0] (by decide +kernel) rfl ?_
  refine i_cs (t := 212) (na := 1) (ml := 1) (idx := 154) (pc' := 5) (st' := [.ref a0]) (en := [some (.int x1)]) (av := [.int x1]) (vo := fun v => some (.int (bi v))) (mo := fun _ => m) (s2 := fun v => .int (bi v) :: [.ref a0]) (by decide +kernel) ⟨rfl, rfl, rfl, rfl, rfl, rfl⟩ (fun _ => rfl) (t_212 hN ) (fun v1 => ?_)
  refine i_cv (ci := 11) (t := 183) (na := 2) (ml := 2) (idx := 77) (pc' := 8) (st' := []) (en := [some (.ref a0), some (.int (bi v1))]) (av := [.int (bi v1)]) (vo := fun v => some (.int (bi v.1))) (mo := fun v => v.2) (s2 := fun v => .int (bi v.1) :: []) (by decide +kernel) (by decide +kernel) h0 ⟨rfl, rfl, rfl, rfl, rfl, rfl⟩ (fun _ => rfl) (t_183 hN (h0 := h0)) (fun r2 => ?_)
  refine i_bz (off := 50) (t := 58) (pc' := 11) (by decide +kernel) ?_ ?_
  · refine i_bl (pc' := 15) [(.aload_n 0, 1), (.iload_n 2, 1), (.i2l, 1), (.lconst 1, 1)] [some (.ref a0), some (.int x1), some (.int x2)] [.long (1 : Int32).toInt64, .long x2.toInt64, .ref a0] (by decide +kernel) rfl ?_
    refine i_l2 (idx := 202) (p := 18047) (x := 999) (pc' := 18) (by decide +kernel) ?_
    refine i_cs (t := 185) (na := 3) (ml := 6) (idx := 148) (pc' := 21) (st' := [.ref a0]) (en := [some (.long x2.toInt64), none, some (.long (1 : Int32).toInt64), none, some (.long (999 : Int32).toInt64), none]) (av := [.long x2.toInt64, .long (1 : Int32).toInt64, .long (999 : Int32).toInt64]) (vo := fun v => some (.int (bi v))) (mo := fun _ => r2.2) (s2 := fun v => .int (bi v) :: [.ref a0]) (by decide +kernel) ⟨rfl, rfl, rfl, rfl, rfl, rfl⟩ (fun _ => rfl) (t_185 hN ) (fun v3 => ?_)
    refine i_bl (pc' := 22) [(.iconst 2, 1)] [some (.ref a0), some (.int x1), some (.int x2)] [.int 2, .int (bi v3), .ref a0] (by decide +kernel) rfl ?_
    refine i_cv (ci := 11) (t := 184) (na := 3) (ml := 3) (idx := 161) (pc' := 25) (st' := []) (en := [some (.ref a0), some (.int (bi v3)), some (.int 2)]) (av := [.int (bi v3), .int 2]) (vo := fun v => some (.int (bi v.1))) (mo := fun v => v.2) (s2 := fun v => .int (bi v.1) :: []) (by decide +kernel) (by decide +kernel) h0 ⟨rfl, rfl, rfl, rfl, rfl, rfl⟩ (fun _ => rfl) (t_184 hN (h0 := h0)) (fun r4 => ?_)
    refine i_bz (off := 33) (t := 58) (pc' := 28) (by decide +kernel) ?_ ?_
    · refine i_bl (pc' := 30) [(.aload_n 0, 1), (.aload_n 0, 1)] [some (.ref a0), some (.int x1), some (.int x2)] [.ref a0, .ref a0] (by decide +kernel) rfl ?_
      refine i_gr (idx := 7) (ci := 11) (k := 1) (t := 2) (p := 16234) (pc' := 33) (by decide +kernel) h0 ?_
      refine i_bl (pc' := 37) [(.bipush (15), 2), (.iload_n 1, 1), (.iadd, 1)] [some (.ref a0), some (.int x1), some (.int x2)] [.int (15 + x1), .ref (sh_r a0 1), .ref a0] (by decide +kernel) rfl ?_
      refine i_al (pc' := 38) (by decide +kernel) (o_11_1 hN h0) ?_
      refine i_bl (pc' := 43) [(.iload_n 2, 1), (.iadd, 1), (.sipush (9999), 3)] [some (.ref a0), some (.int x1), some (.int x2)] [.int 9999, .int ((r4.2 (sh_r a0 1) (ix (15 + x1))) + x2), .ref a0] (by decide +kernel) rfl ?_
      refine i_ic (c := .gt) (off := 7) (t := 50) (pc' := 46) (p := 9999 < ((r4.2 (sh_r a0 1) (ix (15 + x1))) + x2)) (by decide +kernel) rfl ?_ ?_
      · refine i_bl (pc' := 51) [(.iconst 0, 1)] [some (.ref a0), some (.int x1), some (.int x2)] [.int 0, .ref a0] (by decide +kernel) rfl ?_
        exact t_277_51 hN (h0 := h0) (hs0 := h0)
      · refine i_bl (pc' := 47) [(.iconst 1, 1)] [some (.ref a0), some (.int x1), some (.int x2)] [.int 1, .ref a0] (by decide +kernel) rfl ?_
        refine i_go (t := 51) (off := 4) (by decide +kernel) ?_
        exact t_277_51 hN (h0 := h0) (hs0 := h0)
    · refine i_bl (pc' := 59) [(.iconst 0, 1)] [some (.ref a0), some (.int x1), some (.int x2)] [.int 0] (by decide +kernel) rfl ?_
      exact i_ri (by decide +kernel) rfl
  · refine i_bl (pc' := 59) [(.iconst 0, 1)] [some (.ref a0), some (.int x1), some (.int x2)] [.int 0] (by decide +kernel) rfl ?_
    exact i_ri (by decide +kernel) rfl

/-! 278 LanternChessModel.addFog(III)I -/
noncomputable def d_278_79 (a0 : Nat) (x1 : Int32) (x2 : Int32) (x3 : Int32) (s0 : Nat) (s1 : Bool) (m : Mm) : Option (Int32 × Mm) := (d_184 s0 s1 2 m).bind fun r3 => if r3.1 = true then ((d_188 a0 r3.2).bind fun m4 => (d_241 a0 x1 x2 x3 m4).bind fun r5 => (d_189 a0 r5.1 r5.2).bind fun r6 => some (r6.1, r6.2)) else (some (0, r3.2))
theorem t_278_79 {L nx : Nat} (hN : okn nx) {b z : Nat} {m : Mm} {a0 : Nat} (h0 : ok nx a0 11) {s0 : Nat} (hs0 : ok nx s0 11) {x1 : Int32} {x2 : Int32} {x3 : Int32} {s1 : Bool} {o4 : Option Value} : Im (d_278_79 a0 x1 x2 x3 s0 s1 m) (wI L nx) (ev_dn b z 278 79 [some (.ref a0), some (.int x1), some (.int x2), some (.int x3), o4] [.int (bi s1), .ref s0] (nx, mem L nx m)) := by
  unfold d_278_79
  refine i_bl (pc' := 80) [(.iconst 2, 1)] [some (.ref a0), some (.int x1), some (.int x2), some (.int x3), o4] [.int 2, .int (bi s1), .ref s0] (by decide +kernel) rfl ?_
  refine i_cv (ci := 11) (t := 184) (na := 3) (ml := 3) (idx := 161) (pc' := 83) (st' := []) (en := [some (.ref s0), some (.int (bi s1)), some (.int 2)]) (av := [.int (bi s1), .int 2]) (vo := fun v => some (.int (bi v.1))) (mo := fun v => v.2) (s2 := fun v => .int (bi v.1) :: []) (by decide +kernel) (by decide +kernel) hs0 ⟨rfl, rfl, rfl, rfl, rfl, rfl⟩ (fun _ => rfl) (t_184 hN (h0 := hs0)) (fun r3 => ?_)
  refine i_bn (off := 5) (t := 88) (pc' := 86) (by decide +kernel) ?_ ?_
  · refine i_bl (pc' := 89) [(.aload_n 0, 1)] [some (.ref a0), some (.int x1), some (.int x2), some (.int x3), o4] [.ref a0] (by decide +kernel) rfl ?_
    refine i_cv (ci := 11) (t := 188) (na := 1) (ml := 1) (idx := 281) (pc' := 92) (st' := []) (en := [some (.ref a0)]) (av := []) (vo := fun _ => none) (mo := fun m => m) (s2 := fun _ => []) (by decide +kernel) (by decide +kernel) h0 ⟨rfl, rfl, rfl, rfl, rfl, rfl⟩ (fun _ => rfl) (t_188 hN (h0 := h0)) (fun m4 => ?_)
    refine i_bl (pc' := 97) [(.aload_n 0, 1), (.aload_n 0, 1), (.iload_n 1, 1), (.iload_n 2, 1), (.iload_n 3, 1)] [some (.ref a0), some (.int x1), some (.int x2), some (.int x3), o4] [.int x3, .int x2, .int x1, .ref a0, .ref a0] (by decide +kernel) rfl ?_
    refine i_cv (ci := 11) (t := 241) (na := 4) (ml := 6) (idx := 304) (pc' := 100) (st' := [.ref a0]) (en := [some (.ref a0), some (.int x1), some (.int x2), some (.int x3), none, none]) (av := [.int x1, .int x2, .int x3]) (vo := fun v => some (.int v.1)) (mo := fun v => v.2) (s2 := fun v => .int v.1 :: [.ref a0]) (by decide +kernel) (by decide +kernel) h0 ⟨rfl, rfl, rfl, rfl, rfl, rfl⟩ (fun _ => rfl) (t_241 hN (h0 := h0)) (fun r5 => ?_)
    refine i_cv (ci := 11) (t := 189) (na := 2) (ml := 3) (idx := 287) (pc' := 103) (st' := []) (en := [some (.ref a0), some (.int r5.1), none]) (av := [.int r5.1]) (vo := fun v => some (.int v.1)) (mo := fun v => v.2) (s2 := fun v => .int v.1 :: []) (by decide +kernel) (by decide +kernel) h0 ⟨rfl, rfl, rfl, rfl, rfl, rfl⟩ (fun _ => rfl) (t_189 hN (h0 := h0)) (fun r6 => ?_)
    exact i_ri (by decide +kernel) rfl
  · refine i_bl (pc' := 87) [(.iconst 0, 1)] [some (.ref a0), some (.int x1), some (.int x2), some (.int x3), o4] [.int 0] (by decide +kernel) rfl ?_
    exact i_ri (by decide +kernel) rfl

noncomputable def d_278_41 (a0 : Nat) (x1 : Int32) (x2 : Int32) (x3 : Int32) (s0 : Bool) (m : Mm) : Option (Int32 × Mm) := (d_183 a0 s0 m).bind fun r2 => if r2.1 = true then (if ev_in 8 (sh_n (sh_r a0 1)) = true then (if 8 ≤ (r2.2 (sh_r a0 1) (ix 8)) then (d_278_79 a0 x1 x2 x3 a0 false r2.2) else ((d_240 a0 x1 r2.2).bind fun v7 => if ¬ v7 = (-1) then (d_278_79 a0 x1 x2 x3 a0 false r2.2) else (d_278_79 a0 x1 x2 x3 a0 true r2.2))) else none) else (some (0, r2.2))
theorem t_278_41 {L nx : Nat} (hN : okn nx) {b z : Nat} {m : Mm} {a0 : Nat} (h0 : ok nx a0 11) {x1 : Int32} {x2 : Int32} {x3 : Int32} {s0 : Bool}  : Im (d_278_41 a0 x1 x2 x3 s0 m) (wI L nx) (ev_dn b z 278 41 [some (.ref a0), some (.int x1), some (.int x2), some (.int x3), none] [.int (bi s0)] (nx, mem L nx m)) := by
  unfold d_278_41
  refine i_bl (pc' := 46) [(.istore 4, 2), (.aload_n 0, 1), (.iload 4, 2)] [some (.ref a0), some (.int x1), some (.int x2), some (.int x3), some (.int (bi s0))] [.int (bi s0), .ref a0] (by decide +kernel) rfl ?_
  refine i_cv (ci := 11) (t := 183) (na := 2) (ml := 2) (idx := 77) (pc' := 49) (st' := []) (en := [some (.ref a0), some (.int (bi s0))]) (av := [.int (bi s0)]) (vo := fun v => some (.int (bi v.1))) (mo := fun v => v.2) (s2 := fun v => .int (bi v.1) :: []) (by decide +kernel) (by decide +kernel) h0 ⟨rfl, rfl, rfl, rfl, rfl, rfl⟩ (fun _ => rfl) (t_183 hN (h0 := h0)) (fun r2 => ?_)
  refine i_bz (off := 37) (t := 86) (pc' := 52) (by decide +kernel) ?_ ?_
  · refine i_bl (pc' := 54) [(.aload_n 0, 1), (.aload_n 0, 1)] [some (.ref a0), some (.int x1), some (.int x2), some (.int x3), some (.int (bi s0))] [.ref a0, .ref a0] (by decide +kernel) rfl ?_
    refine i_gr (idx := 7) (ci := 11) (k := 1) (t := 2) (p := 16234) (pc' := 57) (by decide +kernel) h0 ?_
    refine i_bl (pc' := 59) [(.bipush (8), 2)] [some (.ref a0), some (.int x1), some (.int x2), some (.int x3), some (.int (bi s0))] [.int 8, .ref (sh_r a0 1), .ref a0] (by decide +kernel) rfl ?_
    refine i_al (pc' := 60) (by decide +kernel) (o_11_1 hN h0) ?_
    refine i_bl (pc' := 62) [(.bipush (8), 2)] [some (.ref a0), some (.int x1), some (.int x2), some (.int x3), some (.int (bi s0))] [.int 8, .int (r2.2 (sh_r a0 1) (ix 8)), .ref a0] (by decide +kernel) rfl ?_
    refine i_ic (c := .ge) (off := 16) (t := 78) (pc' := 65) (p := 8 ≤ (r2.2 (sh_r a0 1) (ix 8))) (by decide +kernel) rfl ?_ ?_
    · refine i_bl (pc' := 79) [(.iconst 0, 1)] [some (.ref a0), some (.int x1), some (.int x2), some (.int x3), some (.int (bi s0))] [.int 0, .ref a0] (by decide +kernel) rfl ?_
      exact t_278_79 hN (h0 := h0) (hs0 := h0)
    · refine i_bl (pc' := 67) [(.aload_n 0, 1), (.iload_n 1, 1)] [some (.ref a0), some (.int x1), some (.int x2), some (.int x3), some (.int (bi s0))] [.int x1, .ref a0, .ref a0] (by decide +kernel) rfl ?_
      refine i_cv (ci := 11) (t := 240) (na := 2) (ml := 3) (idx := 301) (pc' := 70) (st' := [.ref a0]) (en := [some (.ref a0), some (.int x1), none]) (av := [.int x1]) (vo := fun v => some (.int v)) (mo := fun _ => r2.2) (s2 := fun v => .int v :: [.ref a0]) (by decide +kernel) (by decide +kernel) h0 ⟨rfl, rfl, rfl, rfl, rfl, rfl⟩ (fun _ => rfl) (t_240 hN (h0 := h0)) (fun v7 => ?_)
      refine i_bl (pc' := 71) [(.iconst (-1), 1)] [some (.ref a0), some (.int x1), some (.int x2), some (.int x3), some (.int (bi s0))] [.int (-1), .int v7, .ref a0] (by decide +kernel) rfl ?_
      refine i_ic (c := .ne) (off := 7) (t := 78) (pc' := 74) (p := ¬ v7 = (-1)) (by decide +kernel) rfl ?_ ?_
      · refine i_bl (pc' := 79) [(.iconst 0, 1)] [some (.ref a0), some (.int x1), some (.int x2), some (.int x3), some (.int (bi s0))] [.int 0, .ref a0] (by decide +kernel) rfl ?_
        exact t_278_79 hN (h0 := h0) (hs0 := h0)
      · refine i_bl (pc' := 75) [(.iconst 1, 1)] [some (.ref a0), some (.int x1), some (.int x2), some (.int x3), some (.int (bi s0))] [.int 1, .ref a0] (by decide +kernel) rfl ?_
        refine i_go (t := 79) (off := 4) (by decide +kernel) ?_
        exact t_278_79 hN (h0 := h0) (hs0 := h0)
  · refine i_bl (pc' := 87) [(.iconst 0, 1)] [some (.ref a0), some (.int x1), some (.int x2), some (.int x3), some (.int (bi s0))] [.int 0] (by decide +kernel) rfl ?_
    exact i_ri (by decide +kernel) rfl

noncomputable def d_278 (a0 : Nat) (x1 : Int32) (x2 : Int32) (x3 : Int32) (m : Mm) : Option (Int32 × Mm) := (d_185 x1 0 9999).bind fun v1 => if v1 = true then ((d_185 x2 1 999).bind fun v8 => if v8 = true then ((d_185 x3 1 9).bind fun v9 => if v9 = true then (d_278_41 a0 x1 x2 x3 true m) else (d_278_41 a0 x1 x2 x3 false m)) else (d_278_41 a0 x1 x2 x3 false m)) else (d_278_41 a0 x1 x2 x3 false m)
theorem t_278 {L nx : Nat} (hN : okn nx) {b z : Nat} {m : Mm} {a0 : Nat} (h0 : ok nx a0 11) {x1 : Int32} {x2 : Int32} {x3 : Int32}  : Im (d_278 a0 x1 x2 x3 m) (wI L nx) (ev_dn b z 278 0 [some (.ref a0), some (.int x1), some (.int x2), some (.int x3), none] [] (nx, mem L nx m)) := by
  unfold d_278
  refine i_bl (pc' := 3) [(.iload_n 1, 1), (.i2l, 1), (.lconst 0, 1)] [some (.ref a0), some (.int x1), some (.int x2), some (.int x3), none] [.long (0 : Int32).toInt64, .long x1.toInt64] (by decide +kernel) rfl ?_
  refine i_l2 (idx := 297) (p := 18227) (x := 9999) (pc' := 6) (by decide +kernel) ?_
  refine i_cs (t := 185) (na := 3) (ml := 6) (idx := 148) (pc' := 9) (st' := []) (en := [some (.long x1.toInt64), none, some (.long (0 : Int32).toInt64), none, some (.long (9999 : Int32).toInt64), none]) (av := [.long x1.toInt64, .long (0 : Int32).toInt64, .long (9999 : Int32).toInt64]) (vo := fun v => some (.int (bi v))) (mo := fun _ => m) (s2 := fun v => .int (bi v) :: []) (by decide +kernel) ⟨rfl, rfl, rfl, rfl, rfl, rfl⟩ (fun _ => rfl) (t_185 hN ) (fun v1 => ?_)
  refine i_bz (off := 31) (t := 40) (pc' := 12) (by decide +kernel) ?_ ?_
  · refine i_bl (pc' := 15) [(.iload_n 2, 1), (.i2l, 1), (.lconst 1, 1)] [some (.ref a0), some (.int x1), some (.int x2), some (.int x3), none] [.long (1 : Int32).toInt64, .long x2.toInt64] (by decide +kernel) rfl ?_
    refine i_l2 (idx := 202) (p := 18047) (x := 999) (pc' := 18) (by decide +kernel) ?_
    refine i_cs (t := 185) (na := 3) (ml := 6) (idx := 148) (pc' := 21) (st' := []) (en := [some (.long x2.toInt64), none, some (.long (1 : Int32).toInt64), none, some (.long (999 : Int32).toInt64), none]) (av := [.long x2.toInt64, .long (1 : Int32).toInt64, .long (999 : Int32).toInt64]) (vo := fun v => some (.int (bi v))) (mo := fun _ => m) (s2 := fun v => .int (bi v) :: []) (by decide +kernel) ⟨rfl, rfl, rfl, rfl, rfl, rfl⟩ (fun _ => rfl) (t_185 hN ) (fun v8 => ?_)
    refine i_bz (off := 19) (t := 40) (pc' := 24) (by decide +kernel) ?_ ?_
    · refine i_bl (pc' := 27) [(.iload_n 3, 1), (.i2l, 1), (.lconst 1, 1)] [some (.ref a0), some (.int x1), some (.int x2), some (.int x3), none] [.long (1 : Int32).toInt64, .long x3.toInt64] (by decide +kernel) rfl ?_
      refine i_l2 (idx := 299) (p := 18228) (x := 9) (pc' := 30) (by decide +kernel) ?_
      refine i_cs (t := 185) (na := 3) (ml := 6) (idx := 148) (pc' := 33) (st' := []) (en := [some (.long x3.toInt64), none, some (.long (1 : Int32).toInt64), none, some (.long (9 : Int32).toInt64), none]) (av := [.long x3.toInt64, .long (1 : Int32).toInt64, .long (9 : Int32).toInt64]) (vo := fun v => some (.int (bi v))) (mo := fun _ => m) (s2 := fun v => .int (bi v) :: []) (by decide +kernel) ⟨rfl, rfl, rfl, rfl, rfl, rfl⟩ (fun _ => rfl) (t_185 hN ) (fun v9 => ?_)
      refine i_bz (off := 7) (t := 40) (pc' := 36) (by decide +kernel) ?_ ?_
      · refine i_bl (pc' := 37) [(.iconst 1, 1)] [some (.ref a0), some (.int x1), some (.int x2), some (.int x3), none] [.int 1] (by decide +kernel) rfl ?_
        refine i_go (t := 41) (off := 4) (by decide +kernel) ?_
        exact t_278_41 hN (h0 := h0)
      · refine i_bl (pc' := 41) [(.iconst 0, 1)] [some (.ref a0), some (.int x1), some (.int x2), some (.int x3), none] [.int 0] (by decide +kernel) rfl ?_
        exact t_278_41 hN (h0 := h0)
    · refine i_bl (pc' := 41) [(.iconst 0, 1)] [some (.ref a0), some (.int x1), some (.int x2), some (.int x3), none] [.int 0] (by decide +kernel) rfl ?_
      exact t_278_41 hN (h0 := h0)
  · refine i_bl (pc' := 41) [(.iconst 0, 1)] [some (.ref a0), some (.int x1), some (.int x2), some (.int x3), none] [.int 0] (by decide +kernel) rfl ?_
    exact t_278_41 hN (h0 := h0)

/-! 279 LanternChessModel.dropFog(I)I -/
noncomputable def E_279_42 (L nx b z : Nat) (a0 : Nat) (d : Option Value) (s : (Int32 × Mm)) : ev_Q := ev_dn b z 279 42 [some (.ref a0), d, some (.int s.1)] [] (nx, mem L nx s.2)
noncomputable def d_279_79 (a0 : Nat) (m : Mm) : Option (Int32 × Mm) := if ev_in 8 (sh_n (sh_r a0 1)) = true then ((d_189 a0 (m (sh_r a0 1) (ix 8)) m).bind fun r5 => some (r5.1, r5.2)) else none
theorem t_279_79 {L nx : Nat} (hN : okn nx) {b z : Nat} {m : Mm} {a0 : Nat} (h0 : ok nx a0 11)  {o1 : Option Value} {o2 : Option Value} : Im (d_279_79 a0 m) (wI L nx) (ev_dn b z 279 79 [some (.ref a0), o1, o2] [] (nx, mem L nx m)) := by
  unfold d_279_79
  refine i_bl (pc' := 81) [(.aload_n 0, 1), (.aload_n 0, 1)] [some (.ref a0), o1, o2] [.ref a0, .ref a0] (by decide +kernel) rfl ?_
  refine i_gr (idx := 7) (ci := 11) (k := 1) (t := 2) (p := 16234) (pc' := 84) (by decide +kernel) h0 ?_
  refine i_bl (pc' := 86) [(.bipush (8), 2)] [some (.ref a0), o1, o2] [.int 8, .ref (sh_r a0 1), .ref a0] (by decide +kernel) rfl ?_
  refine i_al (pc' := 87) (by decide +kernel) (o_11_1 hN h0) ?_
  refine i_cv (ci := 11) (t := 189) (na := 2) (ml := 3) (idx := 287) (pc' := 90) (st' := []) (en := [some (.ref a0), some (.int (m (sh_r a0 1) (ix 8))), none]) (av := [.int (m (sh_r a0 1) (ix 8))]) (vo := fun v => some (.int v.1)) (mo := fun v => v.2) (s2 := fun v => .int v.1 :: []) (by decide +kernel) (by decide +kernel) h0 ⟨rfl, rfl, rfl, rfl, rfl, rfl⟩ (fun _ => rfl) (t_189 hN (h0 := h0)) (fun r5 => ?_)
  exact i_ri (by decide +kernel) rfl

noncomputable def s_279_42 (a0 : Nat) (x2 : Int32) (m : Mm) : Option ((Int32 × Mm) ⊕ (Int32 × Mm)) := if ev_in 8 (sh_n (sh_r a0 1)) = true then (if (280 + (3 * (m (sh_r a0 1) (ix 8)))) ≤ x2 then ((d_279_79 a0 m).map Sum.inr) else (if ev_in (x2 + 3) (sh_n (sh_r a0 1)) = true then (if ev_in x2 (sh_n (sh_r a0 1)) = true then (wb (wr m (sh_r a0 1) (ix x2) (m (sh_r a0 1) (ix (x2 + 3)))) fun m6 => wb (x2 + 1) fun y7 => some (.inl (y7, m6))) else none) else none)) else none
noncomputable def d_279_42 (a0 : Nat) (x2 : Int32) (m : Mm) : Option (Int32 × Mm) := it (fun s => s_279_42 a0 s.1 s.2) (x2, m)
theorem e_279_42 (a0 : Nat) (x2 : Int32) (m : Mm) : d_279_42 a0 x2 m = oi (s_279_42 a0 x2 m) (fun s => d_279_42 a0 s.1 s.2) := it_eq _
theorem u_279_42 {L nx : Nat} (hN : okn nx) {b z : Nat} {m : Mm} {a0 : Nat} (h0 : ok nx a0 11) {x2 : Int32} {o1 : Option Value} : Im (s_279_42 a0 x2 m) (kL (wI L nx) (E_279_42 L nx b z a0)) (ev_dn b z 279 42 [some (.ref a0), o1, some (.int x2)] [] (nx, mem L nx m)) := by
  unfold s_279_42
  refine i_bl (pc' := 48) [(.iload_n 2, 1), (.sipush (280), 3), (.iconst 3, 1), (.aload_n 0, 1)] [some (.ref a0), o1, some (.int x2)] [.ref a0, .int 3, .int 280, .int x2] (by decide +kernel) rfl ?_
  refine i_gr (idx := 7) (ci := 11) (k := 1) (t := 2) (p := 16234) (pc' := 51) (by decide +kernel) h0 ?_
  refine i_bl (pc' := 53) [(.bipush (8), 2)] [some (.ref a0), o1, some (.int x2)] [.int 8, .ref (sh_r a0 1), .int 3, .int 280, .int x2] (by decide +kernel) rfl ?_
  refine i_al (pc' := 54) (by decide +kernel) (o_11_1 hN h0) ?_
  refine i_bl (pc' := 56) [(.imul, 1), (.iadd, 1)] [some (.ref a0), o1, some (.int x2)] [.int (280 + (3 * (m (sh_r a0 1) (ix 8)))), .int x2] (by decide +kernel) rfl ?_
  refine i_ic (c := .ge) (off := 23) (t := 79) (pc' := 59) (p := (280 + (3 * (m (sh_r a0 1) (ix 8)))) ≤ x2) (by decide +kernel) rfl ?_ ?_
  · exact i_mr (t_279_79 hN (h0 := h0))
  · refine i_bl (pc' := 60) [(.aload_n 0, 1)] [some (.ref a0), o1, some (.int x2)] [.ref a0] (by decide +kernel) rfl ?_
    refine i_gr (idx := 7) (ci := 11) (k := 1) (t := 2) (p := 16234) (pc' := 63) (by decide +kernel) h0 ?_
    refine i_bl (pc' := 65) [(.iload_n 2, 1), (.aload_n 0, 1)] [some (.ref a0), o1, some (.int x2)] [.ref a0, .int x2, .ref (sh_r a0 1)] (by decide +kernel) rfl ?_
    refine i_gr (idx := 7) (ci := 11) (k := 1) (t := 2) (p := 16234) (pc' := 68) (by decide +kernel) h0 ?_
    refine i_bl (pc' := 71) [(.iload_n 2, 1), (.iconst 3, 1), (.iadd, 1)] [some (.ref a0), o1, some (.int x2)] [.int (x2 + 3), .ref (sh_r a0 1), .int x2, .ref (sh_r a0 1)] (by decide +kernel) rfl ?_
    refine i_al (pc' := 72) (by decide +kernel) (o_11_1 hN h0) ?_
    refine i_as (y := (m (sh_r a0 1) (ix (x2 + 3)))) (pc' := 73) (by decide +kernel) (o_11_1 hN h0) (fun m6 => ?_)
    refine i_bl (pc' := 76) [(.iinc 2 (1), 3)] [some (.ref a0), (ev_kl o1), some (.int (x2 + 1))] [] (by decide +kernel) rfl ?_
    refine i_wb (fun y7 => ev_dn b z 279 76 [some (.ref a0), (ev_kl o1), some (.int y7)] [] (nx, mem L nx m6)) (fun y7 => ?_)
    refine i_go (t := 42) (off := -34) (by decide +kernel) ?_
    exact i_co ((ev_kl o1)) rfl

theorem t_279_42 {L nx : Nat} (hN : okn nx) {b z : Nat} {m : Mm} {a0 : Nat} (h0 : ok nx a0 11) {x2 : Int32} {o1 : Option Value} : Im (d_279_42 a0 x2 m) (wI L nx) (ev_dn b z 279 42 [some (.ref a0), o1, some (.int x2)] [] (nx, mem L nx m)) := by
  exact i_it (f := fun s => s_279_42 a0 s.1 s.2) (E := E_279_42 L nx b z a0) (K := (wI L nx)) (fun d s => u_279_42 hN (h0 := h0)) (o1) (x2, m)
noncomputable def d_279 (a0 : Nat) (x1 : Int32) (m : Mm) : Option (Int32 × Mm) := (d_238 a0 x1 m).bind fun v1 => (d_183 a0 v1 m).bind fun r2 => if r2.1 = true then ((d_188 a0 r2.2).bind fun m3 => if ev_in 8 (sh_n (sh_r a0 1)) = true then (if ev_in 8 (sh_n (sh_r a0 1)) = true then (wb (wr m3 (sh_r a0 1) (ix 8) ((m3 (sh_r a0 1) (ix 8)) - 1)) fun m4 => d_279_42 a0 (280 + (3 * x1)) m4) else none) else none) else (some (0, r2.2))
theorem t_279 {L nx : Nat} (hN : okn nx) {b z : Nat} {m : Mm} {a0 : Nat} (h0 : ok nx a0 11) {x1 : Int32}  : Im (d_279 a0 x1 m) (wI L nx) (ev_dn b z 279 0 [some (.ref a0), some (.int x1), none] [] (nx, mem L nx m)) := by
  unfold d_279
  refine i_bl (pc' := 3) [(.aload_n 0, 1), (.aload_n 0, 1), (.iload_n 1, 1)] [some (.ref a0), some (.int x1), none] [.int x1, .ref a0, .ref a0] (by decide +kernel) rfl ?_
  refine i_cv (ci := 11) (t := 238) (na := 2) (ml := 2) (idx := 209) (pc' := 6) (st' := [.ref a0]) (en := [some (.ref a0), some (.int x1)]) (av := [.int x1]) (vo := fun v => some (.int (bi v))) (mo := fun _ => m) (s2 := fun v => .int (bi v) :: [.ref a0]) (by decide +kernel) (by decide +kernel) h0 ⟨rfl, rfl, rfl, rfl, rfl, rfl⟩ (fun _ => rfl) (t_238 hN (h0 := h0)) (fun v1 => ?_)
  refine i_cv (ci := 11) (t := 183) (na := 2) (ml := 2) (idx := 77) (pc' := 9) (st' := []) (en := [some (.ref a0), some (.int (bi v1))]) (av := [.int (bi v1)]) (vo := fun v => some (.int (bi v.1))) (mo := fun v => v.2) (s2 := fun v => .int (bi v.1) :: []) (by decide +kernel) (by decide +kernel) h0 ⟨rfl, rfl, rfl, rfl, rfl, rfl⟩ (fun _ => rfl) (t_183 hN (h0 := h0)) (fun r2 => ?_)
  refine i_bn (off := 5) (t := 14) (pc' := 12) (by decide +kernel) ?_ ?_
  · refine i_bl (pc' := 15) [(.aload_n 0, 1)] [some (.ref a0), some (.int x1), none] [.ref a0] (by decide +kernel) rfl ?_
    refine i_cv (ci := 11) (t := 188) (na := 1) (ml := 1) (idx := 281) (pc' := 18) (st' := []) (en := [some (.ref a0)]) (av := []) (vo := fun _ => none) (mo := fun m => m) (s2 := fun _ => []) (by decide +kernel) (by decide +kernel) h0 ⟨rfl, rfl, rfl, rfl, rfl, rfl⟩ (fun _ => rfl) (t_188 hN (h0 := h0)) (fun m3 => ?_)
    refine i_bl (pc' := 19) [(.aload_n 0, 1)] [some (.ref a0), some (.int x1), none] [.ref a0] (by decide +kernel) rfl ?_
    refine i_gr (idx := 7) (ci := 11) (k := 1) (t := 2) (p := 16234) (pc' := 22) (by decide +kernel) h0 ?_
    refine i_bl (pc' := 25) [(.bipush (8), 2), (.aload_n 0, 1)] [some (.ref a0), some (.int x1), none] [.ref a0, .int 8, .ref (sh_r a0 1)] (by decide +kernel) rfl ?_
    refine i_gr (idx := 7) (ci := 11) (k := 1) (t := 2) (p := 16234) (pc' := 28) (by decide +kernel) h0 ?_
    refine i_bl (pc' := 30) [(.bipush (8), 2)] [some (.ref a0), some (.int x1), none] [.int 8, .ref (sh_r a0 1), .int 8, .ref (sh_r a0 1)] (by decide +kernel) rfl ?_
    refine i_al (pc' := 31) (by decide +kernel) (o_11_1 hN h0) ?_
    refine i_bl (pc' := 33) [(.iconst 1, 1), (.isub, 1)] [some (.ref a0), some (.int x1), none] [.int ((m3 (sh_r a0 1) (ix 8)) - 1), .int 8, .ref (sh_r a0 1)] (by decide +kernel) rfl ?_
    refine i_as (y := ((m3 (sh_r a0 1) (ix 8)) - 1)) (pc' := 34) (by decide +kernel) (o_11_1 hN h0) (fun m4 => ?_)
    refine i_bl (pc' := 42) [(.sipush (280), 3), (.iconst 3, 1), (.iload_n 1, 1), (.imul, 1), (.iadd, 1), (.istore_n 2, 1)] [some (.ref a0), some (.int x1), some (.int (280 + (3 * x1)))] [] (by decide +kernel) rfl ?_
    exact t_279_42 hN (h0 := h0)
  · refine i_bl (pc' := 13) [(.iconst 0, 1)] [some (.ref a0), some (.int x1), none] [.int 0] (by decide +kernel) rfl ?_
    exact i_ri (by decide +kernel) rfl

/-! 280 LanternChessModel.isSetting(II)Z -/
noncomputable def d_280_41 (s0 : Int32) (s1 : Int32) (s2 : Int32) : Option Bool := (d_185 s0 s1 s2).bind fun v2 => if v2 = true then (some true) else (some false)
theorem t_280_41 {L nx : Nat} (hN : okn nx) {b z : Nat} {m : Mm}  {s0 : Int32} {s1 : Int32} {s2 : Int32} {o0 : Option Value} {o1 : Option Value} : Im (d_280_41 s0 s1 s2) (kZ L nx m) (ev_dn b z 280 41 [o0, o1] [.long s2.toInt64, .long s1.toInt64, .long s0.toInt64] (nx, mem L nx m)) := by
  unfold d_280_41
  refine i_cs (t := 185) (na := 3) (ml := 6) (idx := 148) (pc' := 44) (st' := []) (en := [some (.long s0.toInt64), none, some (.long s1.toInt64), none, some (.long s2.toInt64), none]) (av := [.long s0.toInt64, .long s1.toInt64, .long s2.toInt64]) (vo := fun v => some (.int (bi v))) (mo := fun _ => m) (s2 := fun v => .int (bi v) :: []) (by decide +kernel) ⟨rfl, rfl, rfl, rfl, rfl, rfl⟩ (fun _ => rfl) (t_185 hN ) (fun v2 => ?_)
  refine i_bz (off := 7) (t := 51) (pc' := 47) (by decide +kernel) ?_ ?_
  · refine i_bl (pc' := 48) [(.iconst 1, 1)] [o0, o1] [.int 1] (by decide +kernel) rfl ?_
    refine i_go (t := 52) (off := 4) (by decide +kernel) ?_
    exact i_rz (B := true) (by decide +kernel) rfl
  · refine i_bl (pc' := 52) [(.iconst 0, 1)] [o0, o1] [.int 0] (by decide +kernel) rfl ?_
    exact i_rz (B := false) (by decide +kernel) rfl

noncomputable def d_280_27 (x0 : Int32) (s0 : Int32) (s1 : Int32) : Option Bool := if ¬ x0 = 5 then (d_280_41 s0 s1 9) else (d_280_41 s0 s1 5)
theorem t_280_27 {L nx : Nat} (hN : okn nx) {b z : Nat} {m : Mm}  {x0 : Int32} {s0 : Int32} {s1 : Int32} {o1 : Option Value} : Im (d_280_27 x0 s0 s1) (kZ L nx m) (ev_dn b z 280 27 [some (.int x0), o1] [.long s1.toInt64, .long s0.toInt64] (nx, mem L nx m)) := by
  unfold d_280_27
  refine i_bl (pc' := 29) [(.iload_n 0, 1), (.iconst 5, 1)] [some (.int x0), o1] [.int 5, .int x0, .long s1.toInt64, .long s0.toInt64] (by decide +kernel) rfl ?_
  refine i_ic (c := .ne) (off := 9) (t := 38) (pc' := 32) (p := ¬ x0 = 5) (by decide +kernel) rfl ?_ ?_
  · refine i_l2 (idx := 299) (p := 18228) (x := 9) (pc' := 41) (by decide +kernel) ?_
    exact t_280_41 hN 
  · refine i_l2 (idx := 234) (p := 18073) (x := 5) (pc' := 35) (by decide +kernel) ?_
    refine i_go (t := 41) (off := 6) (by decide +kernel) ?_
    exact t_280_41 hN 

noncomputable def d_280 (x0 : Int32) (x1 : Int32) : Option Bool := (d_185 x0 5 7).bind fun v1 => if v1 = true then (if ¬ x0 = 6 then (d_280_27 x0 x1 1) else (d_280_27 x0 x1 0)) else (some false)
theorem t_280 {L nx : Nat} (hN : okn nx) {b z : Nat} {m : Mm}  {x0 : Int32} {x1 : Int32}  : Im (d_280 x0 x1) (kZ L nx m) (ev_dn b z 280 0 [some (.int x0), some (.int x1)] [] (nx, mem L nx m)) := by
  unfold d_280
  refine i_bl (pc' := 2) [(.iload_n 0, 1), (.i2l, 1)] [some (.int x0), some (.int x1)] [.long x0.toInt64] (by decide +kernel) rfl ?_
  refine i_l2 (idx := 234) (p := 18073) (x := 5) (pc' := 5) (by decide +kernel) ?_
  refine i_l2 (idx := 295) (p := 18194) (x := 7) (pc' := 8) (by decide +kernel) ?_
  refine i_cs (t := 185) (na := 3) (ml := 6) (idx := 148) (pc' := 11) (st' := []) (en := [some (.long x0.toInt64), none, some (.long (5 : Int32).toInt64), none, some (.long (7 : Int32).toInt64), none]) (av := [.long x0.toInt64, .long (5 : Int32).toInt64, .long (7 : Int32).toInt64]) (vo := fun v => some (.int (bi v))) (mo := fun _ => m) (s2 := fun v => .int (bi v) :: []) (by decide +kernel) ⟨rfl, rfl, rfl, rfl, rfl, rfl⟩ (fun _ => rfl) (t_185 hN ) (fun v1 => ?_)
  refine i_bz (off := 40) (t := 51) (pc' := 14) (by decide +kernel) ?_ ?_
  · refine i_bl (pc' := 19) [(.iload_n 1, 1), (.i2l, 1), (.iload_n 0, 1), (.bipush (6), 2)] [some (.int x0), some (.int x1)] [.int 6, .int x0, .long x1.toInt64] (by decide +kernel) rfl ?_
    refine i_ic (c := .ne) (off := 7) (t := 26) (pc' := 22) (p := ¬ x0 = 6) (by decide +kernel) rfl ?_ ?_
    · refine i_bl (pc' := 27) [(.lconst 1, 1)] [some (.int x0), some (.int x1)] [.long (1 : Int32).toInt64, .long x1.toInt64] (by decide +kernel) rfl ?_
      exact t_280_27 hN 
    · refine i_bl (pc' := 23) [(.lconst 0, 1)] [some (.int x0), some (.int x1)] [.long (0 : Int32).toInt64, .long x1.toInt64] (by decide +kernel) rfl ?_
      refine i_go (t := 27) (off := 4) (by decide +kernel) ?_
      exact t_280_27 hN 
  · refine i_bl (pc' := 52) [(.iconst 0, 1)] [some (.int x0), some (.int x1)] [.int 0] (by decide +kernel) rfl ?_
    exact i_rz (B := false) (by decide +kernel) rfl

/-! 281 LanternChessModel.set(II)I -/
noncomputable def d_281 (a0 : Nat) (x1 : Int32) (x2 : Int32) (m : Mm) : Option (Int32 × Mm) := (d_280 x1 x2).bind fun v1 => (d_183 a0 v1 m).bind fun r2 => if r2.1 = true then ((d_188 a0 r2.2).bind fun m3 => if ev_in x1 (sh_n (sh_r a0 1)) = true then (wb (m3 (sh_r a0 1) (ix x1)) fun y4 => if ev_in x1 (sh_n (sh_r a0 1)) = true then (wb (wr m3 (sh_r a0 1) (ix x1) x2) fun m5 => (d_189 a0 y4 m5).bind fun r6 => some (r6.1, r6.2)) else none) else none) else (some (0, r2.2))
theorem t_281 {L nx : Nat} (hN : okn nx) {b z : Nat} {m : Mm} {a0 : Nat} (h0 : ok nx a0 11) {x1 : Int32} {x2 : Int32}  : Im (d_281 a0 x1 x2 m) (wI L nx) (ev_dn b z 281 0 [some (.ref a0), some (.int x1), some (.int x2), none] [] (nx, mem L nx m)) := by
  unfold d_281
  refine i_bl (pc' := 3) [(.aload_n 0, 1), (.iload_n 1, 1), (.iload_n 2, 1)] [some (.ref a0), some (.int x1), some (.int x2), none] [.int x2, .int x1, .ref a0] (by decide +kernel) rfl ?_
  refine i_cs (t := 280) (na := 2) (ml := 2) (idx := 307) (pc' := 6) (st' := [.ref a0]) (en := [some (.int x1), some (.int x2)]) (av := [.int x1, .int x2]) (vo := fun v => some (.int (bi v))) (mo := fun _ => m) (s2 := fun v => .int (bi v) :: [.ref a0]) (by decide +kernel) ⟨rfl, rfl, rfl, rfl, rfl, rfl⟩ (fun _ => rfl) (t_280 hN ) (fun v1 => ?_)
  refine i_cv (ci := 11) (t := 183) (na := 2) (ml := 2) (idx := 77) (pc' := 9) (st' := []) (en := [some (.ref a0), some (.int (bi v1))]) (av := [.int (bi v1)]) (vo := fun v => some (.int (bi v.1))) (mo := fun v => v.2) (s2 := fun v => .int (bi v.1) :: []) (by decide +kernel) (by decide +kernel) h0 ⟨rfl, rfl, rfl, rfl, rfl, rfl⟩ (fun _ => rfl) (t_183 hN (h0 := h0)) (fun r2 => ?_)
  refine i_bn (off := 5) (t := 14) (pc' := 12) (by decide +kernel) ?_ ?_
  · refine i_bl (pc' := 15) [(.aload_n 0, 1)] [some (.ref a0), some (.int x1), some (.int x2), none] [.ref a0] (by decide +kernel) rfl ?_
    refine i_cv (ci := 11) (t := 188) (na := 1) (ml := 1) (idx := 281) (pc' := 18) (st' := []) (en := [some (.ref a0)]) (av := []) (vo := fun _ => none) (mo := fun m => m) (s2 := fun _ => []) (by decide +kernel) (by decide +kernel) h0 ⟨rfl, rfl, rfl, rfl, rfl, rfl⟩ (fun _ => rfl) (t_188 hN (h0 := h0)) (fun m3 => ?_)
    refine i_bl (pc' := 19) [(.aload_n 0, 1)] [some (.ref a0), some (.int x1), some (.int x2), none] [.ref a0] (by decide +kernel) rfl ?_
    refine i_gr (idx := 7) (ci := 11) (k := 1) (t := 2) (p := 16234) (pc' := 22) (by decide +kernel) h0 ?_
    refine i_bl (pc' := 23) [(.iload_n 1, 1)] [some (.ref a0), some (.int x1), some (.int x2), none] [.int x1, .ref (sh_r a0 1)] (by decide +kernel) rfl ?_
    refine i_al (pc' := 24) (by decide +kernel) (o_11_1 hN h0) ?_
    refine i_bl (pc' := 25) [(.istore_n 3, 1)] [some (.ref a0), some (.int x1), some (.int x2), some (.int (m3 (sh_r a0 1) (ix x1)))] [] (by decide +kernel) rfl ?_
    refine i_wb (fun y4 => ev_dn b z 281 25 [some (.ref a0), some (.int x1), some (.int x2), some (.int y4)] [] (nx, mem L nx m3)) (fun y4 => ?_)
    refine i_bl (pc' := 26) [(.aload_n 0, 1)] [some (.ref a0), some (.int x1), some (.int x2), some (.int y4)] [.ref a0] (by decide +kernel) rfl ?_
    refine i_gr (idx := 7) (ci := 11) (k := 1) (t := 2) (p := 16234) (pc' := 29) (by decide +kernel) h0 ?_
    refine i_bl (pc' := 31) [(.iload_n 1, 1), (.iload_n 2, 1)] [some (.ref a0), some (.int x1), some (.int x2), some (.int y4)] [.int x2, .int x1, .ref (sh_r a0 1)] (by decide +kernel) rfl ?_
    refine i_as (y := x2) (pc' := 32) (by decide +kernel) (o_11_1 hN h0) (fun m5 => ?_)
    refine i_bl (pc' := 34) [(.aload_n 0, 1), (.iload_n 3, 1)] [some (.ref a0), some (.int x1), some (.int x2), some (.int y4)] [.int y4, .ref a0] (by decide +kernel) rfl ?_
    refine i_cv (ci := 11) (t := 189) (na := 2) (ml := 3) (idx := 287) (pc' := 37) (st' := []) (en := [some (.ref a0), some (.int y4), none]) (av := [.int y4]) (vo := fun v => some (.int v.1)) (mo := fun v => v.2) (s2 := fun v => .int v.1 :: []) (by decide +kernel) (by decide +kernel) h0 ⟨rfl, rfl, rfl, rfl, rfl, rfl⟩ (fun _ => rfl) (t_189 hN (h0 := h0)) (fun r6 => ?_)
    exact i_ri (by decide +kernel) rfl
  · refine i_bl (pc' := 13) [(.iconst 0, 1)] [some (.ref a0), some (.int x1), some (.int x2), none] [.int 0] (by decide +kernel) rfl ?_
    exact i_ri (by decide +kernel) rfl

/-! 282 LanternChessModel.appendInput(IIIII)I -/
noncomputable def E_282_23 (L nx b z : Nat) (a0 : Nat) (x1 : Int32) (x2 : Int32) (x3 : Int32) (x4 : Int32) (x5 : Int32) (d : Option Value) (s : (Int32 × Mm)) : ev_Q := ev_dn b z 282 23 [some (.ref a0), some (.int x1), some (.int x2), some (.int x3), some (.int x4), some (.int x5), some (.int s.1), d] [] (nx, mem L nx s.2)
noncomputable def d_282_117 (a0 : Nat) (m : Mm) : Option (Int32 × Mm) := some (m a0 18, m)
theorem t_282_117 {L nx : Nat} (hN : okn nx) {b z : Nat} {m : Mm} {a0 : Nat} (h0 : ok nx a0 11)  {o1 : Option Value} {o2 : Option Value} {o3 : Option Value} {o4 : Option Value} {o5 : Option Value} {o6 : Option Value} {o7 : Option Value} : Im (d_282_117 a0 m) (wI L nx) (ev_dn b z 282 117 [some (.ref a0), o1, o2, o3, o4, o5, o6, o7] [] (nx, mem L nx m)) := by
  unfold d_282_117
  refine i_bl (pc' := 118) [(.aload_n 0, 1)] [some (.ref a0), o1, o2, o3, o4, o5, o6, o7] [.ref a0] (by decide +kernel) rfl ?_
  refine i_gf (idx := 310) (ci := 11) (k := 18) (t := 0) (p := 17011) (pc' := 121) (by decide +kernel) h0 ?_
  exact i_ri (by decide +kernel) rfl

noncomputable def d_282_76 (a0 : Nat) (x1 : Int32) (x2 : Int32) (x3 : Int32) (x4 : Int32) (x5 : Int32) (x6 : Int32) (s0 : Int32) (m : Mm) : Option ((Int32 × Mm) ⊕ (Int32 × Mm)) := if ev_in (m a0 18) (sh_n (sh_r a0 17)) = true then (wb (wr m (sh_r a0 17) (ix (m a0 18)) ((s0 >>> ((24 - (8 * (x6 - x6 / 4 * 4))) &&& (31 : Int32))).toInt8.toInt32).toInt8.toInt32) fun m2 => wb (wr m2 a0 18 ((m2 a0 18) + 1)) fun m3 => wb (x6 + 1) fun y4 => some (.inl (y4, m3))) else none
theorem t_282_76 {L nx : Nat} (hN : okn nx) {b z : Nat} {m : Mm} {a0 : Nat} (h0 : ok nx a0 11) {x1 : Int32} {x2 : Int32} {x3 : Int32} {x4 : Int32} {x5 : Int32} {x6 : Int32} {s0 : Int32} {o7 : Option Value} : Im (d_282_76 a0 x1 x2 x3 x4 x5 x6 s0 m) (kL (wI L nx) (E_282_23 L nx b z a0 x1 x2 x3 x4 x5)) (ev_dn b z 282 76 [some (.ref a0), some (.int x1), some (.int x2), some (.int x3), some (.int x4), some (.int x5), some (.int x6), o7] [.int s0] (nx, mem L nx m)) := by
  unfold d_282_76
  refine i_bl (pc' := 79) [(.istore 7, 2), (.aload_n 0, 1)] [some (.ref a0), some (.int x1), some (.int x2), some (.int x3), some (.int x4), some (.int x5), some (.int x6), some (.int s0)] [.ref a0] (by decide +kernel) rfl ?_
  refine i_gr (idx := 52) (ci := 11) (k := 17) (t := 2) (p := 17010) (pc' := 82) (by decide +kernel) h0 ?_
  refine i_bl (pc' := 83) [(.aload_n 0, 1)] [some (.ref a0), some (.int x1), some (.int x2), some (.int x3), some (.int x4), some (.int x5), some (.int x6), some (.int s0)] [.ref a0, .ref (sh_r a0 17)] (by decide +kernel) rfl ?_
  refine i_gf (idx := 310) (ci := 11) (k := 18) (t := 0) (p := 17011) (pc' := 86) (by decide +kernel) h0 ?_
  refine i_bl (pc' := 95) [(.iload 7, 2), (.bipush (24), 2), (.bipush (8), 2), (.iload 6, 2), (.iconst 4, 1)] [some (.ref a0), some (.int x1), some (.int x2), some (.int x3), some (.int x4), some (.int x5), some (.int x6), some (.int s0)] [.int 4, .int x6, .int 8, .int 24, .int s0, .int (m a0 18), .ref (sh_r a0 17)] (by decide +kernel) rfl ?_
  refine i_rem0 (pc' := 96) (by decide +kernel) (by decide) ?_
  refine i_bl (pc' := 100) [(.imul, 1), (.isub, 1), (.ishr, 1), (.i2b, 1)] [some (.ref a0), some (.int x1), some (.int x2), some (.int x3), some (.int x4), some (.int x5), some (.int x6), some (.int s0)] [.int ((s0 >>> ((24 - (8 * (x6 - x6 / 4 * 4))) &&& (31 : Int32))).toInt8.toInt32), .int (m a0 18), .ref (sh_r a0 17)] (by decide +kernel) rfl ?_
  refine i_bs (y := ((s0 >>> ((24 - (8 * (x6 - x6 / 4 * 4))) &&& (31 : Int32))).toInt8.toInt32)) (pc' := 101) (by decide +kernel) (o_11_17 hN h0) (fun m2 => ?_)
  refine i_bl (pc' := 103) [(.aload_n 0, 1), (.aload_n 0, 1)] [some (.ref a0), some (.int x1), some (.int x2), some (.int x3), some (.int x4), some (.int x5), some (.int x6), some (.int s0)] [.ref a0, .ref a0] (by decide +kernel) rfl ?_
  refine i_gf (idx := 310) (ci := 11) (k := 18) (t := 0) (p := 17011) (pc' := 106) (by decide +kernel) h0 ?_
  refine i_bl (pc' := 108) [(.iconst 1, 1), (.iadd, 1)] [some (.ref a0), some (.int x1), some (.int x2), some (.int x3), some (.int x4), some (.int x5), some (.int x6), some (.int s0)] [.int ((m2 a0 18) + 1), .ref a0] (by decide +kernel) rfl ?_
  refine i_pf (x := ((m2 a0 18) + 1)) (idx := 310) (ci := 11) (k := 18) (p := 17011) (pc' := 111) (by decide +kernel) h0 (fun m3 => ?_)
  refine i_bl (pc' := 114) [(.iinc 6 (1), 3)] [some (.ref a0), some (.int x1), some (.int x2), some (.int x3), some (.int x4), some (.int x5), some (.int (x6 + 1)), some (.int s0)] [] (by decide +kernel) rfl ?_
  refine i_wb (fun y4 => ev_dn b z 282 114 [some (.ref a0), some (.int x1), some (.int x2), some (.int x3), some (.int x4), some (.int x5), some (.int y4), some (.int s0)] [] (nx, mem L nx m3)) (fun y4 => ?_)
  refine i_go (t := 23) (off := -91) (by decide +kernel) ?_
  exact i_co (some (.int s0)) rfl

noncomputable def s_282_23 (a0 : Nat) (x1 : Int32) (x2 : Int32) (x3 : Int32) (x4 : Int32) (x5 : Int32) (x6 : Int32) (m : Mm) : Option ((Int32 × Mm) ⊕ (Int32 × Mm)) := if 20 ≤ x6 then ((d_282_117 a0 m).map Sum.inr) else (if 4 ≤ x6 then (if 8 ≤ x6 then (if 12 ≤ x6 then (if 16 ≤ x6 then (d_282_76 a0 x1 x2 x3 x4 x5 x6 x5 m) else (d_282_76 a0 x1 x2 x3 x4 x5 x6 x4 m)) else (d_282_76 a0 x1 x2 x3 x4 x5 x6 x3 m)) else (d_282_76 a0 x1 x2 x3 x4 x5 x6 x2 m)) else (d_282_76 a0 x1 x2 x3 x4 x5 x6 x1 m))
noncomputable def d_282_23 (a0 : Nat) (x1 : Int32) (x2 : Int32) (x3 : Int32) (x4 : Int32) (x5 : Int32) (x6 : Int32) (m : Mm) : Option (Int32 × Mm) := it (fun s => s_282_23 a0 x1 x2 x3 x4 x5 s.1 s.2) (x6, m)
theorem e_282_23 (a0 : Nat) (x1 : Int32) (x2 : Int32) (x3 : Int32) (x4 : Int32) (x5 : Int32) (x6 : Int32) (m : Mm) : d_282_23 a0 x1 x2 x3 x4 x5 x6 m = oi (s_282_23 a0 x1 x2 x3 x4 x5 x6 m) (fun s => d_282_23 a0 x1 x2 x3 x4 x5 s.1 s.2) := it_eq _
theorem u_282_23 {L nx : Nat} (hN : okn nx) {b z : Nat} {m : Mm} {a0 : Nat} (h0 : ok nx a0 11) {x1 : Int32} {x2 : Int32} {x3 : Int32} {x4 : Int32} {x5 : Int32} {x6 : Int32} {o7 : Option Value} : Im (s_282_23 a0 x1 x2 x3 x4 x5 x6 m) (kL (wI L nx) (E_282_23 L nx b z a0 x1 x2 x3 x4 x5)) (ev_dn b z 282 23 [some (.ref a0), some (.int x1), some (.int x2), some (.int x3), some (.int x4), some (.int x5), some (.int x6), o7] [] (nx, mem L nx m)) := by
  unfold s_282_23
  refine i_bl (pc' := 27) [(.iload 6, 2), (.bipush (20), 2)] [some (.ref a0), some (.int x1), some (.int x2), some (.int x3), some (.int x4), some (.int x5), some (.int x6), o7] [.int 20, .int x6] (by decide +kernel) rfl ?_
  refine i_ic (c := .ge) (off := 90) (t := 117) (pc' := 30) (p := 20 ≤ x6) (by decide +kernel) rfl ?_ ?_
  · exact i_mr (t_282_117 hN (h0 := h0))
  · refine i_bl (pc' := 33) [(.iload 6, 2), (.iconst 4, 1)] [some (.ref a0), some (.int x1), some (.int x2), some (.int x3), some (.int x4), some (.int x5), some (.int x6), o7] [.int 4, .int x6] (by decide +kernel) rfl ?_
    refine i_ic (c := .ge) (off := 7) (t := 40) (pc' := 36) (p := 4 ≤ x6) (by decide +kernel) rfl ?_ ?_
    · refine i_bl (pc' := 44) [(.iload 6, 2), (.bipush (8), 2)] [some (.ref a0), some (.int x1), some (.int x2), some (.int x3), some (.int x4), some (.int x5), some (.int x6), o7] [.int 8, .int x6] (by decide +kernel) rfl ?_
      refine i_ic (c := .ge) (off := 7) (t := 51) (pc' := 47) (p := 8 ≤ x6) (by decide +kernel) rfl ?_ ?_
      · refine i_bl (pc' := 55) [(.iload 6, 2), (.bipush (12), 2)] [some (.ref a0), some (.int x1), some (.int x2), some (.int x3), some (.int x4), some (.int x5), some (.int x6), o7] [.int 12, .int x6] (by decide +kernel) rfl ?_
        refine i_ic (c := .ge) (off := 7) (t := 62) (pc' := 58) (p := 12 ≤ x6) (by decide +kernel) rfl ?_ ?_
        · refine i_bl (pc' := 66) [(.iload 6, 2), (.bipush (16), 2)] [some (.ref a0), some (.int x1), some (.int x2), some (.int x3), some (.int x4), some (.int x5), some (.int x6), o7] [.int 16, .int x6] (by decide +kernel) rfl ?_
          refine i_ic (c := .ge) (off := 8) (t := 74) (pc' := 69) (p := 16 ≤ x6) (by decide +kernel) rfl ?_ ?_
          · refine i_bl (pc' := 76) [(.iload 5, 2)] [some (.ref a0), some (.int x1), some (.int x2), some (.int x3), some (.int x4), some (.int x5), some (.int x6), o7] [.int x5] (by decide +kernel) rfl ?_
            exact t_282_76 hN (h0 := h0)
          · refine i_bl (pc' := 71) [(.iload 4, 2)] [some (.ref a0), some (.int x1), some (.int x2), some (.int x3), some (.int x4), some (.int x5), some (.int x6), o7] [.int x4] (by decide +kernel) rfl ?_
            refine i_go (t := 76) (off := 5) (by decide +kernel) ?_
            exact t_282_76 hN (h0 := h0)
        · refine i_bl (pc' := 59) [(.iload_n 3, 1)] [some (.ref a0), some (.int x1), some (.int x2), some (.int x3), some (.int x4), some (.int x5), some (.int x6), o7] [.int x3] (by decide +kernel) rfl ?_
          refine i_go (t := 76) (off := 17) (by decide +kernel) ?_
          exact t_282_76 hN (h0 := h0)
      · refine i_bl (pc' := 48) [(.iload_n 2, 1)] [some (.ref a0), some (.int x1), some (.int x2), some (.int x3), some (.int x4), some (.int x5), some (.int x6), o7] [.int x2] (by decide +kernel) rfl ?_
        refine i_go (t := 76) (off := 28) (by decide +kernel) ?_
        exact t_282_76 hN (h0 := h0)
    · refine i_bl (pc' := 37) [(.iload_n 1, 1)] [some (.ref a0), some (.int x1), some (.int x2), some (.int x3), some (.int x4), some (.int x5), some (.int x6), o7] [.int x1] (by decide +kernel) rfl ?_
      refine i_go (t := 76) (off := 39) (by decide +kernel) ?_
      exact t_282_76 hN (h0 := h0)

theorem t_282_23 {L nx : Nat} (hN : okn nx) {b z : Nat} {m : Mm} {a0 : Nat} (h0 : ok nx a0 11) {x1 : Int32} {x2 : Int32} {x3 : Int32} {x4 : Int32} {x5 : Int32} {x6 : Int32} {o7 : Option Value} : Im (d_282_23 a0 x1 x2 x3 x4 x5 x6 m) (wI L nx) (ev_dn b z 282 23 [some (.ref a0), some (.int x1), some (.int x2), some (.int x3), some (.int x4), some (.int x5), some (.int x6), o7] [] (nx, mem L nx m)) := by
  exact i_it (f := fun s => s_282_23 a0 x1 x2 x3 x4 x5 s.1 s.2) (E := E_282_23 L nx b z a0 x1 x2 x3 x4 x5) (K := (wI L nx)) (fun d s => u_282_23 hN (h0 := h0)) (o7) (x6, m)
noncomputable def d_282 (a0 : Nat) (x1 : Int32) (x2 : Int32) (x3 : Int32) (x4 : Int32) (x5 : Int32) (m : Mm) : Option (Int32 × Mm) := wb (wr m a0 0 0) fun m1 => if ((m1 a0 18) + 20) ≤ 600 then (d_282_23 a0 x1 x2 x3 x4 x5 0 m1) else (some ((-1), m1))
theorem t_282 {L nx : Nat} (hN : okn nx) {b z : Nat} {m : Mm} {a0 : Nat} (h0 : ok nx a0 11) {x1 : Int32} {x2 : Int32} {x3 : Int32} {x4 : Int32} {x5 : Int32}  : Im (d_282 a0 x1 x2 x3 x4 x5 m) (wI L nx) (ev_dn b z 282 0 [some (.ref a0), some (.int x1), some (.int x2), some (.int x3), some (.int x4), some (.int x5), none, none] [] (nx, mem L nx m)) := by
  unfold d_282
  refine i_bl (pc' := 2) [(.aload_n 0, 1), (.iconst 0, 1)] [some (.ref a0), some (.int x1), some (.int x2), some (.int x3), some (.int x4), some (.int x5), none, none] [.int 0, .ref a0] (by decide +kernel) rfl ?_
  refine i_pf (x := 0) (idx := 67) (ci := 11) (k := 0) (p := 16233) (pc' := 5) (by decide +kernel) h0 (fun m1 => ?_)
  refine i_bl (pc' := 6) [(.aload_n 0, 1)] [some (.ref a0), some (.int x1), some (.int x2), some (.int x3), some (.int x4), some (.int x5), none, none] [.ref a0] (by decide +kernel) rfl ?_
  refine i_gf (idx := 310) (ci := 11) (k := 18) (t := 0) (p := 17011) (pc' := 9) (by decide +kernel) h0 ?_
  refine i_bl (pc' := 15) [(.bipush (20), 2), (.iadd, 1), (.sipush (600), 3)] [some (.ref a0), some (.int x1), some (.int x2), some (.int x3), some (.int x4), some (.int x5), none, none] [.int 600, .int ((m1 a0 18) + 20)] (by decide +kernel) rfl ?_
  refine i_ic (c := .le) (off := 5) (t := 20) (pc' := 18) (p := ((m1 a0 18) + 20) ≤ 600) (by decide +kernel) rfl ?_ ?_
  · refine i_bl (pc' := 23) [(.iconst 0, 1), (.istore 6, 2)] [some (.ref a0), some (.int x1), some (.int x2), some (.int x3), some (.int x4), some (.int x5), some (.int 0), none] [] (by decide +kernel) rfl ?_
    exact t_282_23 hN (h0 := h0)
  · refine i_bl (pc' := 19) [(.iconst (-1), 1)] [some (.ref a0), some (.int x1), some (.int x2), some (.int x3), some (.int x4), some (.int x5), none, none] [.int (-1)] (by decide +kernel) rfl ?_
    exact i_ri (by decide +kernel) rfl

/-! 283 LanternChessModel.truncateInput(I)Z -/
noncomputable def d_283 (a0 : Nat) (x1 : Int32) (m : Mm) : Option (Bool × Mm) := wb (wr m a0 0 0) fun m1 => (d_185 x1 0 (m1 a0 18)).bind fun v2 => if v2 = true then (wb (wr m1 a0 18 x1) fun m3 => some (true, m3)) else (some (false, m1))
theorem t_283 {L nx : Nat} (hN : okn nx) {b z : Nat} {m : Mm} {a0 : Nat} (h0 : ok nx a0 11) {x1 : Int32}  : Im (d_283 a0 x1 m) (wZ L nx) (ev_dn b z 283 0 [some (.ref a0), some (.int x1)] [] (nx, mem L nx m)) := by
  unfold d_283
  refine i_bl (pc' := 2) [(.aload_n 0, 1), (.iconst 0, 1)] [some (.ref a0), some (.int x1)] [.int 0, .ref a0] (by decide +kernel) rfl ?_
  refine i_pf (x := 0) (idx := 67) (ci := 11) (k := 0) (p := 16233) (pc' := 5) (by decide +kernel) h0 (fun m1 => ?_)
  refine i_bl (pc' := 9) [(.iload_n 1, 1), (.i2l, 1), (.lconst 0, 1), (.aload_n 0, 1)] [some (.ref a0), some (.int x1)] [.ref a0, .long (0 : Int32).toInt64, .long x1.toInt64] (by decide +kernel) rfl ?_
  refine i_gf (idx := 310) (ci := 11) (k := 18) (t := 0) (p := 17011) (pc' := 12) (by decide +kernel) h0 ?_
  refine i_bl (pc' := 13) [(.i2l, 1)] [some (.ref a0), some (.int x1)] [.long (m1 a0 18).toInt64, .long (0 : Int32).toInt64, .long x1.toInt64] (by decide +kernel) rfl ?_
  refine i_cs (t := 185) (na := 3) (ml := 6) (idx := 148) (pc' := 16) (st' := []) (en := [some (.long x1.toInt64), none, some (.long (0 : Int32).toInt64), none, some (.long (m1 a0 18).toInt64), none]) (av := [.long x1.toInt64, .long (0 : Int32).toInt64, .long (m1 a0 18).toInt64]) (vo := fun v => some (.int (bi v))) (mo := fun _ => m1) (s2 := fun v => .int (bi v) :: []) (by decide +kernel) ⟨rfl, rfl, rfl, rfl, rfl, rfl⟩ (fun _ => rfl) (t_185 hN ) (fun v2 => ?_)
  refine i_bn (off := 5) (t := 21) (pc' := 19) (by decide +kernel) ?_ ?_
  · refine i_bl (pc' := 23) [(.aload_n 0, 1), (.iload_n 1, 1)] [some (.ref a0), some (.int x1)] [.int x1, .ref a0] (by decide +kernel) rfl ?_
    refine i_pf (x := x1) (idx := 310) (ci := 11) (k := 18) (p := 17011) (pc' := 26) (by decide +kernel) h0 (fun m3 => ?_)
    refine i_bl (pc' := 27) [(.iconst 1, 1)] [some (.ref a0), some (.int x1)] [.int 1] (by decide +kernel) rfl ?_
    exact i_rz (B := true) (by decide +kernel) rfl
  · refine i_bl (pc' := 20) [(.iconst 0, 1)] [some (.ref a0), some (.int x1)] [.int 0] (by decide +kernel) rfl ?_
    exact i_rz (B := false) (by decide +kernel) rfl

/-! 284 LanternChessModel.here(I)I -/
noncomputable def d_284 (a0 : Nat) (x1 : Int32) (m : Mm) : Option Int32 := if (m a0 19) ≤ x1 then (some (-1)) else (if ev_in x1 (sh_n (sh_r a0 17)) = true then (some ((m (sh_r a0 17) (ix x1)) &&& (255 : Int32))) else none)
theorem t_284 {L nx : Nat} (hN : okn nx) {b z : Nat} {m : Mm} {a0 : Nat} (h0 : ok nx a0 11) {x1 : Int32}  : Im (d_284 a0 x1 m) (kI L nx m) (ev_dn b z 284 0 [some (.ref a0), some (.int x1)] [] (nx, mem L nx m)) := by
  unfold d_284
  refine i_bl (pc' := 2) [(.iload_n 1, 1), (.aload_n 0, 1)] [some (.ref a0), some (.int x1)] [.ref a0, .int x1] (by decide +kernel) rfl ?_
  refine i_gf (idx := 313) (ci := 11) (k := 19) (t := 0) (p := 17012) (pc' := 5) (by decide +kernel) h0 ?_
  refine i_ic (c := .ge) (off := 16) (t := 21) (pc' := 8) (p := (m a0 19) ≤ x1) (by decide +kernel) rfl ?_ ?_
  · refine i_bl (pc' := 22) [(.iconst (-1), 1)] [some (.ref a0), some (.int x1)] [.int (-1)] (by decide +kernel) rfl ?_
    exact i_ri (by decide +kernel) rfl
  · refine i_bl (pc' := 9) [(.aload_n 0, 1)] [some (.ref a0), some (.int x1)] [.ref a0] (by decide +kernel) rfl ?_
    refine i_gr (idx := 52) (ci := 11) (k := 17) (t := 2) (p := 17010) (pc' := 12) (by decide +kernel) h0 ?_
    refine i_bl (pc' := 13) [(.iload_n 1, 1)] [some (.ref a0), some (.int x1)] [.int x1, .ref (sh_r a0 17)] (by decide +kernel) rfl ?_
    refine i_ba (pc' := 14) (by decide +kernel) (o_11_17 hN h0) ?_
    refine i_bl (pc' := 18) [(.sipush (255), 3), (.iand, 1)] [some (.ref a0), some (.int x1)] [.int ((m (sh_r a0 17) (ix x1)) &&& (255 : Int32))] (by decide +kernel) rfl ?_
    refine i_go (t := 22) (off := 4) (by decide +kernel) ?_
    exact i_ri (by decide +kernel) rfl

/-! 285 LanternChessModel.isLetter(I)Z -/
noncomputable def d_285 (a0 : Nat) (x1 : Int32) (m : Mm) : Option Bool := (d_284 a0 x1 m).bind fun v1 => (d_185 v1 97 122).bind fun v2 => some v2
theorem t_285 {L nx : Nat} (hN : okn nx) {b z : Nat} {m : Mm} {a0 : Nat} (h0 : ok nx a0 11) {x1 : Int32}  : Im (d_285 a0 x1 m) (kZ L nx m) (ev_dn b z 285 0 [some (.ref a0), some (.int x1)] [] (nx, mem L nx m)) := by
  unfold d_285
  refine i_bl (pc' := 2) [(.aload_n 0, 1), (.iload_n 1, 1)] [some (.ref a0), some (.int x1)] [.int x1, .ref a0] (by decide +kernel) rfl ?_
  refine i_cv (ci := 11) (t := 284) (na := 2) (ml := 2) (idx := 316) (pc' := 5) (st' := []) (en := [some (.ref a0), some (.int x1)]) (av := [.int x1]) (vo := fun v => some (.int v)) (mo := fun _ => m) (s2 := fun v => .int v :: []) (by decide +kernel) (by decide +kernel) h0 ⟨rfl, rfl, rfl, rfl, rfl, rfl⟩ (fun _ => rfl) (t_284 hN (h0 := h0)) (fun v1 => ?_)
  refine i_bl (pc' := 6) [(.i2l, 1)] [some (.ref a0), some (.int x1)] [.long v1.toInt64] (by decide +kernel) rfl ?_
  refine i_l2 (idx := 319) (p := 19032) (x := 97) (pc' := 9) (by decide +kernel) ?_
  refine i_l2 (idx := 321) (p := 19033) (x := 122) (pc' := 12) (by decide +kernel) ?_
  refine i_cs (t := 185) (na := 3) (ml := 6) (idx := 148) (pc' := 15) (st' := []) (en := [some (.long v1.toInt64), none, some (.long (97 : Int32).toInt64), none, some (.long (122 : Int32).toInt64), none]) (av := [.long v1.toInt64, .long (97 : Int32).toInt64, .long (122 : Int32).toInt64]) (vo := fun v => some (.int (bi v))) (mo := fun _ => m) (s2 := fun v => .int (bi v) :: []) (by decide +kernel) ⟨rfl, rfl, rfl, rfl, rfl, rfl⟩ (fun _ => rfl) (t_185 hN ) (fun v2 => ?_)
  exact i_rz (B := v2) (by decide +kernel) rfl

/-! 287 LanternChessModel.wordHere()I -/
noncomputable def E_287_4 (L nx b z : Nat) (a0 : Nat) (m : Mm) (d : Option Value) (s : (Int32 × Int32)) : ev_Q := ev_dn b z 287 4 [some (.ref a0), some (.int s.1), some (.int s.2), d] [] (nx, mem L nx m)
noncomputable def E_287_16 (L nx b z : Nat) (a0 : Nat) (x1 : Int32) (x2 : Int32) (m : Mm) (d : Unit) (s : (Int32)) : ev_Q := ev_dn b z 287 16 [some (.ref a0), some (.int x1), some (.int x2), some (.int s)] [] (nx, mem L nx m)
noncomputable def E_287_102 (L nx b z : Nat) (a0 : Nat) (x1 : Int32) (m : Mm) (d : Option Value) (s : (Int32)) : ev_Q := ev_dn b z 287 102 [some (.ref a0), some (.int x1), some (.int s), d] [] (nx, mem L nx m)
noncomputable def d_287_121 (a0 : Nat) (x1 : Int32) (x2 : Int32) (m : Mm) : Option ((Int32 × Int32) ⊕ Int32) := wb (x2 + 1) fun y1 => wb (x1 + 1) fun y2 => some (.inl (y2, y1))
theorem t_287_121 {L nx : Nat} (hN : okn nx) {b z : Nat} {m : Mm} {a0 : Nat} (h0 : ok nx a0 11) {x1 : Int32} {x2 : Int32} {o3 : Option Value} : Im (d_287_121 a0 x1 x2 m) (kL (kI L nx m) (E_287_4 L nx b z a0 m)) (ev_dn b z 287 121 [some (.ref a0), some (.int x1), some (.int x2), o3] [] (nx, mem L nx m)) := by
  unfold d_287_121
  refine i_bl (pc' := 125) [(.iload_n 2, 1), (.iconst 1, 1), (.iadd, 1), (.istore_n 2, 1)] [some (.ref a0), some (.int x1), some (.int (x2 + 1)), o3] [] (by decide +kernel) rfl ?_
  refine i_wb (fun y1 => ev_dn b z 287 125 [some (.ref a0), some (.int x1), some (.int y1), o3] [] (nx, mem L nx m)) (fun y1 => ?_)
  refine i_bl (pc' := 129) [(.iload_n 1, 1), (.iconst 1, 1), (.iadd, 1), (.istore_n 1, 1)] [some (.ref a0), some (.int (x1 + 1)), some (.int y1), o3] [] (by decide +kernel) rfl ?_
  refine i_wb (fun y2 => ev_dn b z 287 129 [some (.ref a0), some (.int y2), some (.int y1), o3] [] (nx, mem L nx m)) (fun y2 => ?_)
  refine i_go (t := 4) (off := -125) (by decide +kernel) ?_
  exact i_co (o3) rfl

noncomputable def s_287_102 (a0 : Nat) (x1 : Int32) (m : Mm) (x2 : Int32) : Option ((Int32) ⊕ ((Int32 × Int32) ⊕ Int32)) := if ev_in x2 (sh_n 18) = true then (if (m 18 (ix x2)) = 32 then ((d_287_121 a0 x1 x2 m).map Sum.inr) else (wb (x2 + 1) fun y3 => some (.inl (y3)))) else none
noncomputable def d_287_102 (a0 : Nat) (x1 : Int32) (m : Mm) (x2 : Int32) : Option ((Int32 × Int32) ⊕ Int32) := it (fun s => s_287_102 a0 x1 m s) (x2)
theorem e_287_102 (a0 : Nat) (x1 : Int32) (m : Mm) (x2 : Int32) : d_287_102 a0 x1 m x2 = oi (s_287_102 a0 x1 m x2) (fun s => d_287_102 a0 x1 m s) := it_eq _
theorem u_287_102 {L nx : Nat} (hN : okn nx) {b z : Nat} {m : Mm} {a0 : Nat} (h0 : ok nx a0 11) {x1 : Int32} {x2 : Int32} {o3 : Option Value} : Im (s_287_102 a0 x1 m x2) (kL (kL (kI L nx m) (E_287_4 L nx b z a0 m)) (E_287_102 L nx b z a0 x1 m)) (ev_dn b z 287 102 [some (.ref a0), some (.int x1), some (.int x2), o3] [] (nx, mem L nx m)) := by
  unfold s_287_102
  refine i_ltw (idx := 348) (p := 19038) (w := 18) (tx := "game clock pause wait tries white black fog king queen rook bishop knight pawn ") (pc' := 105) (by decide +kernel) ?_
  refine i_bl (pc' := 106) [(.iload_n 2, 1)] [some (.ref a0), some (.int x1), some (.int x2), o3] [.int x2, .ref 18] (by decide +kernel) rfl ?_
  refine i_sx (idx := 354) (pc' := 109) (by decide +kernel) rfl (o_lo hN (by decide +kernel)) ?_
  refine i_bl (pc' := 111) [(.bipush (32), 2)] [some (.ref a0), some (.int x1), some (.int x2), o3] [.int 32, .int (m 18 (ix x2))] (by decide +kernel) rfl ?_
  refine i_ic (c := .eq) (off := 10) (t := 121) (pc' := 114) (p := (m 18 (ix x2)) = 32) (by decide +kernel) rfl ?_ ?_
  · exact i_mr (t_287_121 hN (h0 := h0))
  · refine i_bl (pc' := 118) [(.iload_n 2, 1), (.iconst 1, 1), (.iadd, 1), (.istore_n 2, 1)] [some (.ref a0), some (.int x1), some (.int (x2 + 1)), o3] [] (by decide +kernel) rfl ?_
    refine i_wb (fun y3 => ev_dn b z 287 118 [some (.ref a0), some (.int x1), some (.int y3), o3] [] (nx, mem L nx m)) (fun y3 => ?_)
    refine i_go (t := 102) (off := -16) (by decide +kernel) ?_
    exact i_co (o3) rfl

theorem t_287_102 {L nx : Nat} (hN : okn nx) {b z : Nat} {m : Mm} {a0 : Nat} (h0 : ok nx a0 11) {x1 : Int32} {x2 : Int32} {o3 : Option Value} : Im (d_287_102 a0 x1 m x2) (kL (kI L nx m) (E_287_4 L nx b z a0 m)) (ev_dn b z 287 102 [some (.ref a0), some (.int x1), some (.int x2), o3] [] (nx, mem L nx m)) := by
  exact i_it (f := fun s => s_287_102 a0 x1 m s) (E := E_287_102 L nx b z a0 x1 m) (K := (kL (kI L nx m) (E_287_4 L nx b z a0 m))) (fun d s => u_287_102 hN (h0 := h0)) (o3) (x2)
noncomputable def d_287_73 (a0 : Nat) (x1 : Int32) (x2 : Int32) (x3 : Int32) (m : Mm) : Option ((Int32 × Int32) ⊕ Int32) := if ev_in (x2 + x3) (sh_n 18) = true then (if ¬ (m 18 (ix (x2 + x3))) = 32 then (d_287_102 a0 x1 m x2) else (if ¬ ((m a0 21) + x3) = (m a0 20) then (d_287_102 a0 x1 m x2) else (some (.inr x1)))) else none
theorem t_287_73 {L nx : Nat} (hN : okn nx) {b z : Nat} {m : Mm} {a0 : Nat} (h0 : ok nx a0 11) {x1 : Int32} {x2 : Int32} {x3 : Int32}  : Im (d_287_73 a0 x1 x2 x3 m) (kL (kI L nx m) (E_287_4 L nx b z a0 m)) (ev_dn b z 287 73 [some (.ref a0), some (.int x1), some (.int x2), some (.int x3)] [] (nx, mem L nx m)) := by
  unfold d_287_73
  refine i_ltw (idx := 348) (p := 19038) (w := 18) (tx := "game clock pause wait tries white black fog king queen rook bishop knight pawn ") (pc' := 76) (by decide +kernel) ?_
  refine i_bl (pc' := 79) [(.iload_n 2, 1), (.iload_n 3, 1), (.iadd, 1)] [some (.ref a0), some (.int x1), some (.int x2), some (.int x3)] [.int (x2 + x3), .ref 18] (by decide +kernel) rfl ?_
  refine i_sx (idx := 354) (pc' := 82) (by decide +kernel) rfl (o_lo hN (by decide +kernel)) ?_
  refine i_bl (pc' := 84) [(.bipush (32), 2)] [some (.ref a0), some (.int x1), some (.int x2), some (.int x3)] [.int 32, .int (m 18 (ix (x2 + x3)))] (by decide +kernel) rfl ?_
  refine i_ic (c := .ne) (off := 18) (t := 102) (pc' := 87) (p := ¬ (m 18 (ix (x2 + x3))) = 32) (by decide +kernel) rfl ?_ ?_
  · exact t_287_102 hN (h0 := h0)
  · refine i_bl (pc' := 88) [(.aload_n 0, 1)] [some (.ref a0), some (.int x1), some (.int x2), some (.int x3)] [.ref a0] (by decide +kernel) rfl ?_
    refine i_gf (idx := 326) (ci := 11) (k := 21) (t := 0) (p := 17014) (pc' := 91) (by decide +kernel) h0 ?_
    refine i_bl (pc' := 94) [(.iload_n 3, 1), (.iadd, 1), (.aload_n 0, 1)] [some (.ref a0), some (.int x1), some (.int x2), some (.int x3)] [.ref a0, .int ((m a0 21) + x3)] (by decide +kernel) rfl ?_
    refine i_gf (idx := 323) (ci := 11) (k := 20) (t := 0) (p := 17013) (pc' := 97) (by decide +kernel) h0 ?_
    refine i_ic (c := .ne) (off := 5) (t := 102) (pc' := 100) (p := ¬ ((m a0 21) + x3) = (m a0 20)) (by decide +kernel) rfl ?_ ?_
    · exact t_287_102 hN (h0 := h0)
    · refine i_bl (pc' := 101) [(.iload_n 1, 1)] [some (.ref a0), some (.int x1), some (.int x2), some (.int x3)] [.int x1] (by decide +kernel) rfl ?_
      exact i_ir (i_ri (by decide +kernel) rfl)

noncomputable def s_287_16 (a0 : Nat) (x1 : Int32) (x2 : Int32) (m : Mm) (x3 : Int32) : Option ((Int32) ⊕ ((Int32 × Int32) ⊕ Int32)) := if ev_in (x2 + x3) (sh_n 18) = true then (if (m 18 (ix (x2 + x3))) = 32 then ((d_287_73 a0 x1 x2 x3 m).map Sum.inr) else (if (m a0 20) ≤ ((m a0 21) + x3) then ((d_287_73 a0 x1 x2 x3 m).map Sum.inr) else (if ev_in ((m a0 21) + x3) (sh_n (sh_r a0 17)) = true then (if ev_in (x2 + x3) (sh_n 18) = true then (if ¬ (m (sh_r a0 17) (ix ((m a0 21) + x3))) = (m 18 (ix (x2 + x3))) then ((d_287_73 a0 x1 x2 x3 m).map Sum.inr) else (wb (x3 + 1) fun y4 => some (.inl (y4)))) else none) else none))) else none
noncomputable def d_287_16 (a0 : Nat) (x1 : Int32) (x2 : Int32) (m : Mm) (x3 : Int32) : Option ((Int32 × Int32) ⊕ Int32) := it (fun s => s_287_16 a0 x1 x2 m s) (x3)
theorem e_287_16 (a0 : Nat) (x1 : Int32) (x2 : Int32) (m : Mm) (x3 : Int32) : d_287_16 a0 x1 x2 m x3 = oi (s_287_16 a0 x1 x2 m x3) (fun s => d_287_16 a0 x1 x2 m s) := it_eq _
theorem u_287_16 {L nx : Nat} (hN : okn nx) {b z : Nat} {m : Mm} {a0 : Nat} (h0 : ok nx a0 11) {x1 : Int32} {x2 : Int32} {x3 : Int32}  : Im (s_287_16 a0 x1 x2 m x3) (kL (kL (kI L nx m) (E_287_4 L nx b z a0 m)) (E_287_16 L nx b z a0 x1 x2 m)) (ev_dn b z 287 16 [some (.ref a0), some (.int x1), some (.int x2), some (.int x3)] [] (nx, mem L nx m)) := by
  unfold s_287_16
  refine i_ltw (idx := 348) (p := 19038) (w := 18) (tx := "game clock pause wait tries white black fog king queen rook bishop knight pawn ") (pc' := 19) (by decide +kernel) ?_
  refine i_bl (pc' := 22) [(.iload_n 2, 1), (.iload_n 3, 1), (.iadd, 1)] [some (.ref a0), some (.int x1), some (.int x2), some (.int x3)] [.int (x2 + x3), .ref 18] (by decide +kernel) rfl ?_
  refine i_sx (idx := 354) (pc' := 25) (by decide +kernel) rfl (o_lo hN (by decide +kernel)) ?_
  refine i_bl (pc' := 27) [(.bipush (32), 2)] [some (.ref a0), some (.int x1), some (.int x2), some (.int x3)] [.int 32, .int (m 18 (ix (x2 + x3)))] (by decide +kernel) rfl ?_
  refine i_ic (c := .eq) (off := 46) (t := 73) (pc' := 30) (p := (m 18 (ix (x2 + x3))) = 32) (by decide +kernel) rfl ?_ ?_
  · exact i_mr (t_287_73 hN (h0 := h0))
  · refine i_bl (pc' := 31) [(.aload_n 0, 1)] [some (.ref a0), some (.int x1), some (.int x2), some (.int x3)] [.ref a0] (by decide +kernel) rfl ?_
    refine i_gf (idx := 326) (ci := 11) (k := 21) (t := 0) (p := 17014) (pc' := 34) (by decide +kernel) h0 ?_
    refine i_bl (pc' := 37) [(.iload_n 3, 1), (.iadd, 1), (.aload_n 0, 1)] [some (.ref a0), some (.int x1), some (.int x2), some (.int x3)] [.ref a0, .int ((m a0 21) + x3)] (by decide +kernel) rfl ?_
    refine i_gf (idx := 323) (ci := 11) (k := 20) (t := 0) (p := 17013) (pc' := 40) (by decide +kernel) h0 ?_
    refine i_ic (c := .ge) (off := 33) (t := 73) (pc' := 43) (p := (m a0 20) ≤ ((m a0 21) + x3)) (by decide +kernel) rfl ?_ ?_
    · exact i_mr (t_287_73 hN (h0 := h0))
    · refine i_bl (pc' := 44) [(.aload_n 0, 1)] [some (.ref a0), some (.int x1), some (.int x2), some (.int x3)] [.ref a0] (by decide +kernel) rfl ?_
      refine i_gr (idx := 52) (ci := 11) (k := 17) (t := 2) (p := 17010) (pc' := 47) (by decide +kernel) h0 ?_
      refine i_bl (pc' := 48) [(.aload_n 0, 1)] [some (.ref a0), some (.int x1), some (.int x2), some (.int x3)] [.ref a0, .ref (sh_r a0 17)] (by decide +kernel) rfl ?_
      refine i_gf (idx := 326) (ci := 11) (k := 21) (t := 0) (p := 17014) (pc' := 51) (by decide +kernel) h0 ?_
      refine i_bl (pc' := 53) [(.iload_n 3, 1), (.iadd, 1)] [some (.ref a0), some (.int x1), some (.int x2), some (.int x3)] [.int ((m a0 21) + x3), .ref (sh_r a0 17)] (by decide +kernel) rfl ?_
      refine i_ba (pc' := 54) (by decide +kernel) (o_11_17 hN h0) ?_
      refine i_ltw (idx := 348) (p := 19038) (w := 18) (tx := "game clock pause wait tries white black fog king queen rook bishop knight pawn ") (pc' := 57) (by decide +kernel) ?_
      refine i_bl (pc' := 60) [(.iload_n 2, 1), (.iload_n 3, 1), (.iadd, 1)] [some (.ref a0), some (.int x1), some (.int x2), some (.int x3)] [.int (x2 + x3), .ref 18, .int (m (sh_r a0 17) (ix ((m a0 21) + x3)))] (by decide +kernel) rfl ?_
      refine i_sx (idx := 354) (pc' := 63) (by decide +kernel) rfl (o_lo hN (by decide +kernel)) ?_
      refine i_ic (c := .ne) (off := 10) (t := 73) (pc' := 66) (p := ¬ (m (sh_r a0 17) (ix ((m a0 21) + x3))) = (m 18 (ix (x2 + x3)))) (by decide +kernel) rfl ?_ ?_
      · exact i_mr (t_287_73 hN (h0 := h0))
      · refine i_bl (pc' := 70) [(.iload_n 3, 1), (.iconst 1, 1), (.iadd, 1), (.istore_n 3, 1)] [some (.ref a0), some (.int x1), some (.int x2), some (.int (x3 + 1))] [] (by decide +kernel) rfl ?_
        refine i_wb (fun y4 => ev_dn b z 287 70 [some (.ref a0), some (.int x1), some (.int x2), some (.int y4)] [] (nx, mem L nx m)) (fun y4 => ?_)
        refine i_go (t := 16) (off := -54) (by decide +kernel) ?_
        exact i_co () rfl

theorem t_287_16 {L nx : Nat} (hN : okn nx) {b z : Nat} {m : Mm} {a0 : Nat} (h0 : ok nx a0 11) {x1 : Int32} {x2 : Int32} {x3 : Int32}  : Im (d_287_16 a0 x1 x2 m x3) (kL (kI L nx m) (E_287_4 L nx b z a0 m)) (ev_dn b z 287 16 [some (.ref a0), some (.int x1), some (.int x2), some (.int x3)] [] (nx, mem L nx m)) := by
  exact i_it (f := fun s => s_287_16 a0 x1 x2 m s) (E := E_287_16 L nx b z a0 x1 x2 m) (K := (kL (kI L nx m) (E_287_4 L nx b z a0 m))) (fun d s => u_287_16 hN (h0 := h0)) () (x3)
noncomputable def s_287_4 (a0 : Nat) (m : Mm) (x1 : Int32) (x2 : Int32) : Option ((Int32 × Int32) ⊕ Int32) := if (Int32.ofNat (sh_n 18)) ≤ x2 then (some (.inr (-1))) else (d_287_16 a0 x1 x2 m 0)
noncomputable def d_287_4 (a0 : Nat) (m : Mm) (x1 : Int32) (x2 : Int32) : Option Int32 := it (fun s => s_287_4 a0 m s.1 s.2) (x1, x2)
theorem e_287_4 (a0 : Nat) (m : Mm) (x1 : Int32) (x2 : Int32) : d_287_4 a0 m x1 x2 = oi (s_287_4 a0 m x1 x2) (fun s => d_287_4 a0 m s.1 s.2) := it_eq _
theorem u_287_4 {L nx : Nat} (hN : okn nx) {b z : Nat} {m : Mm} {a0 : Nat} (h0 : ok nx a0 11) {x1 : Int32} {x2 : Int32} {o3 : Option Value} : Im (s_287_4 a0 m x1 x2) (kL (kI L nx m) (E_287_4 L nx b z a0 m)) (ev_dn b z 287 4 [some (.ref a0), some (.int x1), some (.int x2), o3] [] (nx, mem L nx m)) := by
  unfold s_287_4
  refine i_bl (pc' := 5) [(.iload_n 2, 1)] [some (.ref a0), some (.int x1), some (.int x2), o3] [.int x2] (by decide +kernel) rfl ?_
  refine i_ltw (idx := 348) (p := 19038) (w := 18) (tx := "game clock pause wait tries white black fog king queen rook bishop knight pawn ") (pc' := 8) (by decide +kernel) ?_
  refine i_sl (idx := 350) (pc' := 11) (by decide +kernel) rfl (o_lo hN (by decide +kernel)) ?_
  refine i_ic (c := .ge) (off := 121) (t := 132) (pc' := 14) (p := (Int32.ofNat (sh_n 18)) ≤ x2) (by decide +kernel) rfl ?_ ?_
  · refine i_bl (pc' := 133) [(.iconst (-1), 1)] [some (.ref a0), some (.int x1), some (.int x2), o3] [.int (-1)] (by decide +kernel) rfl ?_
    exact i_ir (i_ri (by decide +kernel) rfl)
  · refine i_bl (pc' := 16) [(.iconst 0, 1), (.istore_n 3, 1)] [some (.ref a0), some (.int x1), some (.int x2), some (.int 0)] [] (by decide +kernel) rfl ?_
    exact t_287_16 hN (h0 := h0)

theorem t_287_4 {L nx : Nat} (hN : okn nx) {b z : Nat} {m : Mm} {a0 : Nat} (h0 : ok nx a0 11) {x1 : Int32} {x2 : Int32} {o3 : Option Value} : Im (d_287_4 a0 m x1 x2) (kI L nx m) (ev_dn b z 287 4 [some (.ref a0), some (.int x1), some (.int x2), o3] [] (nx, mem L nx m)) := by
  exact i_it (f := fun s => s_287_4 a0 m s.1 s.2) (E := E_287_4 L nx b z a0 m) (K := (kI L nx m)) (fun d s => u_287_4 hN (h0 := h0)) (o3) (x1, x2)
noncomputable def d_287 (a0 : Nat) (m : Mm) : Option Int32 := d_287_4 a0 m 0 0
theorem t_287 {L nx : Nat} (hN : okn nx) {b z : Nat} {m : Mm} {a0 : Nat} (h0 : ok nx a0 11)   : Im (d_287 a0 m) (kI L nx m) (ev_dn b z 287 0 [some (.ref a0), none, none, none] [] (nx, mem L nx m)) := by
  unfold d_287
  refine i_bl (pc' := 4) [(.iconst 0, 1), (.istore_n 1, 1), (.iconst 0, 1), (.istore_n 2, 1)] [some (.ref a0), some (.int 0), some (.int 0), none] [] (by decide +kernel) rfl ?_
  exact t_287_4 hN (h0 := h0)

/-! 286 LanternChessModel.next()V -/
noncomputable def E_286_0 (L nx b z : Nat) (a0 : Nat) (d : Unit) (s : (Mm)) : ev_Q := ev_dn b z 286 0 [some (.ref a0), none] [] (nx, mem L nx s)
noncomputable def d_286_26 (a0 : Nat) (m : Mm) : Option ((Mm) ⊕ Mm) := wb (wr m a0 20 ((m a0 20) + 1)) fun m2 => some (.inl (m2))
theorem t_286_26 {L nx : Nat} (hN : okn nx) {b z : Nat} {m : Mm} {a0 : Nat} (h0 : ok nx a0 11)   : Im (d_286_26 a0 m) (kL (wV L nx) (E_286_0 L nx b z a0)) (ev_dn b z 286 26 [some (.ref a0), none] [] (nx, mem L nx m)) := by
  unfold d_286_26
  refine i_bl (pc' := 28) [(.aload_n 0, 1), (.aload_n 0, 1)] [some (.ref a0), none] [.ref a0, .ref a0] (by decide +kernel) rfl ?_
  refine i_gf (idx := 323) (ci := 11) (k := 20) (t := 0) (p := 17013) (pc' := 31) (by decide +kernel) h0 ?_
  refine i_bl (pc' := 33) [(.iconst 1, 1), (.iadd, 1)] [some (.ref a0), none] [.int ((m a0 20) + 1), .ref a0] (by decide +kernel) rfl ?_
  refine i_pf (x := ((m a0 20) + 1)) (idx := 323) (ci := 11) (k := 20) (p := 17013) (pc' := 36) (by decide +kernel) h0 (fun m2 => ?_)
  refine i_go (t := 0) (off := -36) (by decide +kernel) ?_
  exact i_co () rfl

noncomputable def d_286_256 (s0 : Nat) (s1 : Int32) (m : Mm) : Option Mm := wb (wr m s0 22 s1) fun m9 => some m9
theorem t_286_256 {L nx : Nat} (hN : okn nx) {b z : Nat} {m : Mm} {s0 : Nat} (hs0 : ok nx s0 11) {s1 : Int32} {o0 : Option Value} {o1 : Option Value} : Im (d_286_256 s0 s1 m) (wV L nx) (ev_dn b z 286 256 [o0, o1] [.int s1, .ref s0] (nx, mem L nx m)) := by
  unfold d_286_256
  refine i_pf (x := s1) (idx := 329) (ci := 11) (k := 22) (p := 17015) (pc' := 259) (by decide +kernel) hs0 (fun m9 => ?_)
  exact i_rv (by decide +kernel) rfl

noncomputable def E_286_139 (L nx b z : Nat) (a0 : Nat) (d : Option Value) (s : (Mm)) : ev_Q := ev_dn b z 286 139 [some (.ref a0), d] [] (nx, mem L nx s)
noncomputable def d_286_228 (s0 : Nat) (s1 : Int32) (m : Mm) : Option Mm := wb (wr m s0 22 s1) fun m13 => some m13
theorem t_286_228 {L nx : Nat} (hN : okn nx) {b z : Nat} {m : Mm} {s0 : Nat} (hs0 : ok nx s0 11) {s1 : Int32} {o0 : Option Value} {o1 : Option Value} : Im (d_286_228 s0 s1 m) (wV L nx) (ev_dn b z 286 228 [o0, o1] [.int s1, .ref s0] (nx, mem L nx m)) := by
  unfold d_286_228
  refine i_pf (x := s1) (idx := 329) (ci := 11) (k := 22) (p := 17015) (pc' := 231) (by decide +kernel) hs0 (fun m13 => ?_)
  refine i_go (t := 259) (off := 28) (by decide +kernel) ?_
  exact i_rv (by decide +kernel) rfl

noncomputable def d_286_209 (a0 : Nat) (m : Mm) : Option Mm := if ((m a0 20) - (m a0 21)) ≤ 4 then (d_286_228 a0 2 m) else (d_286_228 a0 4 m)
theorem t_286_209 {L nx : Nat} (hN : okn nx) {b z : Nat} {m : Mm} {a0 : Nat} (h0 : ok nx a0 11)  {o1 : Option Value} : Im (d_286_209 a0 m) (wV L nx) (ev_dn b z 286 209 [some (.ref a0), o1] [] (nx, mem L nx m)) := by
  unfold d_286_209
  refine i_bl (pc' := 211) [(.aload_n 0, 1), (.aload_n 0, 1)] [some (.ref a0), o1] [.ref a0, .ref a0] (by decide +kernel) rfl ?_
  refine i_gf (idx := 323) (ci := 11) (k := 20) (t := 0) (p := 17013) (pc' := 214) (by decide +kernel) h0 ?_
  refine i_bl (pc' := 215) [(.aload_n 0, 1)] [some (.ref a0), o1] [.ref a0, .int (m a0 20), .ref a0] (by decide +kernel) rfl ?_
  refine i_gf (idx := 326) (ci := 11) (k := 21) (t := 0) (p := 17014) (pc' := 218) (by decide +kernel) h0 ?_
  refine i_bl (pc' := 220) [(.isub, 1), (.iconst 4, 1)] [some (.ref a0), o1] [.int 4, .int ((m a0 20) - (m a0 21)), .ref a0] (by decide +kernel) rfl ?_
  refine i_ic (c := .le) (off := 7) (t := 227) (pc' := 223) (p := ((m a0 20) - (m a0 21)) ≤ 4) (by decide +kernel) rfl ?_ ?_
  · refine i_bl (pc' := 228) [(.iconst 2, 1)] [some (.ref a0), o1] [.int 2, .ref a0] (by decide +kernel) rfl ?_
    exact t_286_228 hN (hs0 := h0)
  · refine i_bl (pc' := 224) [(.iconst 4, 1)] [some (.ref a0), o1] [.int 4, .ref a0] (by decide +kernel) rfl ?_
    refine i_go (t := 228) (off := 4) (by decide +kernel) ?_
    exact t_286_228 hN (hs0 := h0)

noncomputable def d_286_196 (a0 : Nat) (m : Mm) : Option ((Mm) ⊕ Mm) := wb (wr m a0 20 ((m a0 20) + 1)) fun m14 => some (.inl (m14))
theorem t_286_196 {L nx : Nat} (hN : okn nx) {b z : Nat} {m : Mm} {a0 : Nat} (h0 : ok nx a0 11)  {o1 : Option Value} : Im (d_286_196 a0 m) (kL (wV L nx) (E_286_139 L nx b z a0)) (ev_dn b z 286 196 [some (.ref a0), o1] [] (nx, mem L nx m)) := by
  unfold d_286_196
  refine i_bl (pc' := 198) [(.aload_n 0, 1), (.dup, 1)] [some (.ref a0), o1] [.ref a0, .ref a0] (by decide +kernel) rfl ?_
  refine i_gf (idx := 323) (ci := 11) (k := 20) (t := 0) (p := 17013) (pc' := 201) (by decide +kernel) h0 ?_
  refine i_bl (pc' := 203) [(.iconst 1, 1), (.iadd, 1)] [some (.ref a0), o1] [.int ((m a0 20) + 1), .ref a0] (by decide +kernel) rfl ?_
  refine i_pf (x := ((m a0 20) + 1)) (idx := 323) (ci := 11) (k := 20) (p := 17013) (pc' := 206) (by decide +kernel) h0 (fun m14 => ?_)
  refine i_go (t := 139) (off := -67) (by decide +kernel) ?_
  exact i_co (o1) rfl

noncomputable def s_286_139 (a0 : Nat) (m : Mm) : Option ((Mm) ⊕ Mm) := (d_284 a0 (m a0 20) m).bind fun v11 => (d_185 v11 48 57).bind fun v12 => if v12 = true then (if 4 ≤ ((m a0 20) - (m a0 21)) then (d_286_196 a0 m) else ((d_284 a0 (m a0 20) m).bind fun v15 => wb (wr m a0 24 (((10 * (m a0 24)) + v15) - 48)) fun m16 => d_286_196 a0 m16)) else ((d_286_209 a0 m).map Sum.inr)
noncomputable def d_286_139 (a0 : Nat) (m : Mm) : Option Mm := it (fun s => s_286_139 a0 s) (m)
theorem e_286_139 (a0 : Nat) (m : Mm) : d_286_139 a0 m = oi (s_286_139 a0 m) (fun s => d_286_139 a0 s) := it_eq _
theorem u_286_139 {L nx : Nat} (hN : okn nx) {b z : Nat} {m : Mm} {a0 : Nat} (h0 : ok nx a0 11)  {o1 : Option Value} : Im (s_286_139 a0 m) (kL (wV L nx) (E_286_139 L nx b z a0)) (ev_dn b z 286 139 [some (.ref a0), o1] [] (nx, mem L nx m)) := by
  unfold s_286_139
  refine i_bl (pc' := 141) [(.aload_n 0, 1), (.aload_n 0, 1)] [some (.ref a0), o1] [.ref a0, .ref a0] (by decide +kernel) rfl ?_
  refine i_gf (idx := 323) (ci := 11) (k := 20) (t := 0) (p := 17013) (pc' := 144) (by decide +kernel) h0 ?_
  refine i_cv (ci := 11) (t := 284) (na := 2) (ml := 2) (idx := 316) (pc' := 147) (st' := []) (en := [some (.ref a0), some (.int (m a0 20))]) (av := [.int (m a0 20)]) (vo := fun v => some (.int v)) (mo := fun _ => m) (s2 := fun v => .int v :: []) (by decide +kernel) (by decide +kernel) h0 ⟨rfl, rfl, rfl, rfl, rfl, rfl⟩ (fun _ => rfl) (t_284 hN (h0 := h0)) (fun v11 => ?_)
  refine i_bl (pc' := 148) [(.i2l, 1)] [some (.ref a0), o1] [.long v11.toInt64] (by decide +kernel) rfl ?_
  refine i_l2 (idx := 341) (p := 19041) (x := 48) (pc' := 151) (by decide +kernel) ?_
  refine i_l2 (idx := 343) (p := 19042) (x := 57) (pc' := 154) (by decide +kernel) ?_
  refine i_cs (t := 185) (na := 3) (ml := 6) (idx := 148) (pc' := 157) (st' := []) (en := [some (.long v11.toInt64), none, some (.long (48 : Int32).toInt64), none, some (.long (57 : Int32).toInt64), none]) (av := [.long v11.toInt64, .long (48 : Int32).toInt64, .long (57 : Int32).toInt64]) (vo := fun v => some (.int (bi v))) (mo := fun _ => m) (s2 := fun v => .int (bi v) :: []) (by decide +kernel) ⟨rfl, rfl, rfl, rfl, rfl, rfl⟩ (fun _ => rfl) (t_185 hN ) (fun v12 => ?_)
  refine i_bz (off := 52) (t := 209) (pc' := 160) (by decide +kernel) ?_ ?_
  · refine i_bl (pc' := 161) [(.aload_n 0, 1)] [some (.ref a0), o1] [.ref a0] (by decide +kernel) rfl ?_
    refine i_gf (idx := 323) (ci := 11) (k := 20) (t := 0) (p := 17013) (pc' := 164) (by decide +kernel) h0 ?_
    refine i_bl (pc' := 165) [(.aload_n 0, 1)] [some (.ref a0), o1] [.ref a0, .int (m a0 20)] (by decide +kernel) rfl ?_
    refine i_gf (idx := 326) (ci := 11) (k := 21) (t := 0) (p := 17014) (pc' := 168) (by decide +kernel) h0 ?_
    refine i_bl (pc' := 170) [(.isub, 1), (.iconst 4, 1)] [some (.ref a0), o1] [.int 4, .int ((m a0 20) - (m a0 21))] (by decide +kernel) rfl ?_
    refine i_ic (c := .ge) (off := 26) (t := 196) (pc' := 173) (p := 4 ≤ ((m a0 20) - (m a0 21))) (by decide +kernel) rfl ?_ ?_
    · exact t_286_196 hN (h0 := h0)
    · refine i_bl (pc' := 177) [(.aload_n 0, 1), (.bipush (10), 2), (.aload_n 0, 1)] [some (.ref a0), o1] [.ref a0, .int 10, .ref a0] (by decide +kernel) rfl ?_
      refine i_gf (idx := 345) (ci := 11) (k := 24) (t := 0) (p := 17017) (pc' := 180) (by decide +kernel) h0 ?_
      refine i_bl (pc' := 183) [(.imul, 1), (.aload_n 0, 1), (.aload_n 0, 1)] [some (.ref a0), o1] [.ref a0, .ref a0, .int (10 * (m a0 24)), .ref a0] (by decide +kernel) rfl ?_
      refine i_gf (idx := 323) (ci := 11) (k := 20) (t := 0) (p := 17013) (pc' := 186) (by decide +kernel) h0 ?_
      refine i_cv (ci := 11) (t := 284) (na := 2) (ml := 2) (idx := 316) (pc' := 189) (st' := [.int (10 * (m a0 24)), .ref a0]) (en := [some (.ref a0), some (.int (m a0 20))]) (av := [.int (m a0 20)]) (vo := fun v => some (.int v)) (mo := fun _ => m) (s2 := fun v => .int v :: [.int (10 * (m a0 24)), .ref a0]) (by decide +kernel) (by decide +kernel) h0 ⟨rfl, rfl, rfl, rfl, rfl, rfl⟩ (fun _ => rfl) (t_284 hN (h0 := h0)) (fun v15 => ?_)
      refine i_bl (pc' := 193) [(.iadd, 1), (.bipush (48), 2), (.isub, 1)] [some (.ref a0), o1] [.int (((10 * (m a0 24)) + v15) - 48), .ref a0] (by decide +kernel) rfl ?_
      refine i_pf (x := (((10 * (m a0 24)) + v15) - 48)) (idx := 345) (ci := 11) (k := 24) (p := 17017) (pc' := 196) (by decide +kernel) h0 (fun m16 => ?_)
      exact t_286_196 hN (h0 := h0)
  · exact i_mr (t_286_209 hN (h0 := h0))

theorem t_286_139 {L nx : Nat} (hN : okn nx) {b z : Nat} {m : Mm} {a0 : Nat} (h0 : ok nx a0 11)  {o1 : Option Value} : Im (d_286_139 a0 m) (wV L nx) (ev_dn b z 286 139 [some (.ref a0), o1] [] (nx, mem L nx m)) := by
  exact i_it (f := fun s => s_286_139 a0 s) (E := E_286_139 L nx b z a0) (K := (wV L nx)) (fun d s => u_286_139 hN (h0 := h0)) (o1) (m)
noncomputable def E_286_80 (L nx b z : Nat) (a0 : Nat) (d : Option Value) (s : (Mm)) : ev_Q := ev_dn b z 286 80 [some (.ref a0), d] [] (nx, mem L nx s)
noncomputable def d_286_104 (a0 : Nat) (m : Mm) : Option Mm := wb (wr m a0 22 1) fun m18 => (d_287 a0 m18).bind fun v19 => wb (wr m18 a0 23 v19) fun m20 => some m20
theorem t_286_104 {L nx : Nat} (hN : okn nx) {b z : Nat} {m : Mm} {a0 : Nat} (h0 : ok nx a0 11)  {o1 : Option Value} : Im (d_286_104 a0 m) (wV L nx) (ev_dn b z 286 104 [some (.ref a0), o1] [] (nx, mem L nx m)) := by
  unfold d_286_104
  refine i_bl (pc' := 106) [(.aload_n 0, 1), (.iconst 1, 1)] [some (.ref a0), o1] [.int 1, .ref a0] (by decide +kernel) rfl ?_
  refine i_pf (x := 1) (idx := 329) (ci := 11) (k := 22) (p := 17015) (pc' := 109) (by decide +kernel) h0 (fun m18 => ?_)
  refine i_bl (pc' := 111) [(.aload_n 0, 1), (.aload_n 0, 1)] [some (.ref a0), o1] [.ref a0, .ref a0] (by decide +kernel) rfl ?_
  refine i_cv (ci := 11) (t := 287) (na := 1) (ml := 4) (idx := 335) (pc' := 114) (st' := [.ref a0]) (en := [some (.ref a0), none, none, none]) (av := []) (vo := fun v => some (.int v)) (mo := fun _ => m18) (s2 := fun v => .int v :: [.ref a0]) (by decide +kernel) (by decide +kernel) h0 ⟨rfl, rfl, rfl, rfl, rfl, rfl⟩ (fun _ => rfl) (t_287 hN (h0 := h0)) (fun v19 => ?_)
  refine i_pf (x := v19) (idx := 338) (ci := 11) (k := 23) (p := 17016) (pc' := 117) (by decide +kernel) h0 (fun m20 => ?_)
  refine i_go (t := 259) (off := 142) (by decide +kernel) ?_
  exact i_rv (by decide +kernel) rfl

noncomputable def s_286_80 (a0 : Nat) (m : Mm) : Option ((Mm) ⊕ Mm) := (d_285 a0 (m a0 20) m).bind fun v17 => if v17 = true then (wb (wr m a0 20 ((m a0 20) + 1)) fun m21 => some (.inl (m21))) else ((d_286_104 a0 m).map Sum.inr)
noncomputable def d_286_80 (a0 : Nat) (m : Mm) : Option Mm := it (fun s => s_286_80 a0 s) (m)
theorem e_286_80 (a0 : Nat) (m : Mm) : d_286_80 a0 m = oi (s_286_80 a0 m) (fun s => d_286_80 a0 s) := it_eq _
theorem u_286_80 {L nx : Nat} (hN : okn nx) {b z : Nat} {m : Mm} {a0 : Nat} (h0 : ok nx a0 11)  {o1 : Option Value} : Im (s_286_80 a0 m) (kL (wV L nx) (E_286_80 L nx b z a0)) (ev_dn b z 286 80 [some (.ref a0), o1] [] (nx, mem L nx m)) := by
  unfold s_286_80
  refine i_bl (pc' := 82) [(.aload_n 0, 1), (.aload_n 0, 1)] [some (.ref a0), o1] [.ref a0, .ref a0] (by decide +kernel) rfl ?_
  refine i_gf (idx := 323) (ci := 11) (k := 20) (t := 0) (p := 17013) (pc' := 85) (by decide +kernel) h0 ?_
  refine i_cv (ci := 11) (t := 285) (na := 2) (ml := 2) (idx := 332) (pc' := 88) (st' := []) (en := [some (.ref a0), some (.int (m a0 20))]) (av := [.int (m a0 20)]) (vo := fun v => some (.int (bi v))) (mo := fun _ => m) (s2 := fun v => .int (bi v) :: []) (by decide +kernel) (by decide +kernel) h0 ⟨rfl, rfl, rfl, rfl, rfl, rfl⟩ (fun _ => rfl) (t_285 hN (h0 := h0)) (fun v17 => ?_)
  refine i_bz (off := 16) (t := 104) (pc' := 91) (by decide +kernel) ?_ ?_
  · refine i_bl (pc' := 93) [(.aload_n 0, 1), (.aload_n 0, 1)] [some (.ref a0), o1] [.ref a0, .ref a0] (by decide +kernel) rfl ?_
    refine i_gf (idx := 323) (ci := 11) (k := 20) (t := 0) (p := 17013) (pc' := 96) (by decide +kernel) h0 ?_
    refine i_bl (pc' := 98) [(.iconst 1, 1), (.iadd, 1)] [some (.ref a0), o1] [.int ((m a0 20) + 1), .ref a0] (by decide +kernel) rfl ?_
    refine i_pf (x := ((m a0 20) + 1)) (idx := 323) (ci := 11) (k := 20) (p := 17013) (pc' := 101) (by decide +kernel) h0 (fun m21 => ?_)
    refine i_go (t := 80) (off := -21) (by decide +kernel) ?_
    exact i_co (o1) rfl
  · exact i_mr (t_286_104 hN (h0 := h0))

theorem t_286_80 {L nx : Nat} (hN : okn nx) {b z : Nat} {m : Mm} {a0 : Nat} (h0 : ok nx a0 11)  {o1 : Option Value} : Im (d_286_80 a0 m) (wV L nx) (ev_dn b z 286 80 [some (.ref a0), o1] [] (nx, mem L nx m)) := by
  exact i_it (f := fun s => s_286_80 a0 s) (E := E_286_80 L nx b z a0) (K := (wV L nx)) (fun d s => u_286_80 hN (h0 := h0)) (o1) (m)
noncomputable def d_286_39 (a0 : Nat) (m : Mm) : Option Mm := wb (wr m a0 21 (m a0 20)) fun m4 => (d_284 a0 (m4 a0 20) m4).bind fun v5 => if ¬ v5 = (-1) then ((d_285 a0 (m4 a0 20) m4).bind fun v6 => if v6 = true then (d_286_80 a0 m4) else ((d_185 v5 48 57).bind fun v7 => if v7 = true then (wb (wr m4 a0 24 0) fun m10 => d_286_139 a0 m10) else (wb (wr m4 a0 20 ((m4 a0 20) + 1)) fun m8 => if ¬ v5 = 59 then (d_286_256 a0 4 m8) else (d_286_256 a0 3 m8)))) else (wb (wr m4 a0 22 0) fun m22 => some m22)
theorem t_286_39 {L nx : Nat} (hN : okn nx) {b z : Nat} {m : Mm} {a0 : Nat} (h0 : ok nx a0 11)   : Im (d_286_39 a0 m) (wV L nx) (ev_dn b z 286 39 [some (.ref a0), none] [] (nx, mem L nx m)) := by
  unfold d_286_39
  refine i_bl (pc' := 41) [(.aload_n 0, 1), (.aload_n 0, 1)] [some (.ref a0), none] [.ref a0, .ref a0] (by decide +kernel) rfl ?_
  refine i_gf (idx := 323) (ci := 11) (k := 20) (t := 0) (p := 17013) (pc' := 44) (by decide +kernel) h0 ?_
  refine i_pf (x := (m a0 20)) (idx := 326) (ci := 11) (k := 21) (p := 17014) (pc' := 47) (by decide +kernel) h0 (fun m4 => ?_)
  refine i_bl (pc' := 49) [(.aload_n 0, 1), (.aload_n 0, 1)] [some (.ref a0), none] [.ref a0, .ref a0] (by decide +kernel) rfl ?_
  refine i_gf (idx := 323) (ci := 11) (k := 20) (t := 0) (p := 17013) (pc' := 52) (by decide +kernel) h0 ?_
  refine i_cv (ci := 11) (t := 284) (na := 2) (ml := 2) (idx := 316) (pc' := 55) (st' := []) (en := [some (.ref a0), some (.int (m4 a0 20))]) (av := [.int (m4 a0 20)]) (vo := fun v => some (.int v)) (mo := fun _ => m4) (s2 := fun v => .int v :: []) (by decide +kernel) (by decide +kernel) h0 ⟨rfl, rfl, rfl, rfl, rfl, rfl⟩ (fun _ => rfl) (t_284 hN (h0 := h0)) (fun v5 => ?_)
  refine i_bl (pc' := 58) [(.istore_n 1, 1), (.iload_n 1, 1), (.iconst (-1), 1)] [some (.ref a0), some (.int v5)] [.int (-1), .int v5] (by decide +kernel) rfl ?_
  refine i_ic (c := .ne) (off := 11) (t := 69) (pc' := 61) (p := ¬ v5 = (-1)) (by decide +kernel) rfl ?_ ?_
  · refine i_bl (pc' := 71) [(.aload_n 0, 1), (.aload_n 0, 1)] [some (.ref a0), some (.int v5)] [.ref a0, .ref a0] (by decide +kernel) rfl ?_
    refine i_gf (idx := 323) (ci := 11) (k := 20) (t := 0) (p := 17013) (pc' := 74) (by decide +kernel) h0 ?_
    refine i_cv (ci := 11) (t := 285) (na := 2) (ml := 2) (idx := 332) (pc' := 77) (st' := []) (en := [some (.ref a0), some (.int (m4 a0 20))]) (av := [.int (m4 a0 20)]) (vo := fun v => some (.int (bi v))) (mo := fun _ => m4) (s2 := fun v => .int (bi v) :: []) (by decide +kernel) (by decide +kernel) h0 ⟨rfl, rfl, rfl, rfl, rfl, rfl⟩ (fun _ => rfl) (t_285 hN (h0 := h0)) (fun v6 => ?_)
    refine i_bz (off := 43) (t := 120) (pc' := 80) (by decide +kernel) ?_ ?_
    · exact t_286_80 hN (h0 := h0)
    · refine i_bl (pc' := 122) [(.iload_n 1, 1), (.i2l, 1)] [some (.ref a0), some (.int v5)] [.long v5.toInt64] (by decide +kernel) rfl ?_
      refine i_l2 (idx := 341) (p := 19041) (x := 48) (pc' := 125) (by decide +kernel) ?_
      refine i_l2 (idx := 343) (p := 19042) (x := 57) (pc' := 128) (by decide +kernel) ?_
      refine i_cs (t := 185) (na := 3) (ml := 6) (idx := 148) (pc' := 131) (st' := []) (en := [some (.long v5.toInt64), none, some (.long (48 : Int32).toInt64), none, some (.long (57 : Int32).toInt64), none]) (av := [.long v5.toInt64, .long (48 : Int32).toInt64, .long (57 : Int32).toInt64]) (vo := fun v => some (.int (bi v))) (mo := fun _ => m4) (s2 := fun v => .int (bi v) :: []) (by decide +kernel) ⟨rfl, rfl, rfl, rfl, rfl, rfl⟩ (fun _ => rfl) (t_185 hN ) (fun v7 => ?_)
      refine i_bz (off := 103) (t := 234) (pc' := 134) (by decide +kernel) ?_ ?_
      · refine i_bl (pc' := 136) [(.aload_n 0, 1), (.iconst 0, 1)] [some (.ref a0), some (.int v5)] [.int 0, .ref a0] (by decide +kernel) rfl ?_
        refine i_pf (x := 0) (idx := 345) (ci := 11) (k := 24) (p := 17017) (pc' := 139) (by decide +kernel) h0 (fun m10 => ?_)
        exact t_286_139 hN (h0 := h0)
      · refine i_bl (pc' := 236) [(.aload_n 0, 1), (.aload_n 0, 1)] [some (.ref a0), some (.int v5)] [.ref a0, .ref a0] (by decide +kernel) rfl ?_
        refine i_gf (idx := 323) (ci := 11) (k := 20) (t := 0) (p := 17013) (pc' := 239) (by decide +kernel) h0 ?_
        refine i_bl (pc' := 241) [(.iconst 1, 1), (.iadd, 1)] [some (.ref a0), some (.int v5)] [.int ((m4 a0 20) + 1), .ref a0] (by decide +kernel) rfl ?_
        refine i_pf (x := ((m4 a0 20) + 1)) (idx := 323) (ci := 11) (k := 20) (p := 17013) (pc' := 244) (by decide +kernel) h0 (fun m8 => ?_)
        refine i_bl (pc' := 248) [(.aload_n 0, 1), (.iload_n 1, 1), (.bipush (59), 2)] [some (.ref a0), some (.int v5)] [.int 59, .int v5, .ref a0] (by decide +kernel) rfl ?_
        refine i_ic (c := .ne) (off := 7) (t := 255) (pc' := 251) (p := ¬ v5 = 59) (by decide +kernel) rfl ?_ ?_
        · refine i_bl (pc' := 256) [(.iconst 4, 1)] [some (.ref a0), some (.int v5)] [.int 4, .ref a0] (by decide +kernel) rfl ?_
          exact t_286_256 hN (hs0 := h0)
        · refine i_bl (pc' := 252) [(.iconst 3, 1)] [some (.ref a0), some (.int v5)] [.int 3, .ref a0] (by decide +kernel) rfl ?_
          refine i_go (t := 256) (off := 4) (by decide +kernel) ?_
          exact t_286_256 hN (hs0 := h0)
  · refine i_bl (pc' := 63) [(.aload_n 0, 1), (.iconst 0, 1)] [some (.ref a0), some (.int v5)] [.int 0, .ref a0] (by decide +kernel) rfl ?_
    refine i_pf (x := 0) (idx := 329) (ci := 11) (k := 22) (p := 17015) (pc' := 66) (by decide +kernel) h0 (fun m22 => ?_)
    refine i_go (t := 259) (off := 193) (by decide +kernel) ?_
    exact i_rv (by decide +kernel) rfl

noncomputable def s_286_0 (a0 : Nat) (m : Mm) : Option ((Mm) ⊕ Mm) := (d_284 a0 (m a0 20) m).bind fun v1 => if v1 = 32 then (d_286_26 a0 m) else ((d_284 a0 (m a0 20) m).bind fun v3 => if ¬ v3 = 10 then ((d_286_39 a0 m).map Sum.inr) else (d_286_26 a0 m))
noncomputable def d_286_0 (a0 : Nat) (m : Mm) : Option Mm := it (fun s => s_286_0 a0 s) (m)
theorem e_286_0 (a0 : Nat) (m : Mm) : d_286_0 a0 m = oi (s_286_0 a0 m) (fun s => d_286_0 a0 s) := it_eq _
theorem u_286_0 {L nx : Nat} (hN : okn nx) {b z : Nat} {m : Mm} {a0 : Nat} (h0 : ok nx a0 11)   : Im (s_286_0 a0 m) (kL (wV L nx) (E_286_0 L nx b z a0)) (ev_dn b z 286 0 [some (.ref a0), none] [] (nx, mem L nx m)) := by
  unfold s_286_0
  refine i_bl (pc' := 2) [(.aload_n 0, 1), (.aload_n 0, 1)] [some (.ref a0), none] [.ref a0, .ref a0] (by decide +kernel) rfl ?_
  refine i_gf (idx := 323) (ci := 11) (k := 20) (t := 0) (p := 17013) (pc' := 5) (by decide +kernel) h0 ?_
  refine i_cv (ci := 11) (t := 284) (na := 2) (ml := 2) (idx := 316) (pc' := 8) (st' := []) (en := [some (.ref a0), some (.int (m a0 20))]) (av := [.int (m a0 20)]) (vo := fun v => some (.int v)) (mo := fun _ => m) (s2 := fun v => .int v :: []) (by decide +kernel) (by decide +kernel) h0 ⟨rfl, rfl, rfl, rfl, rfl, rfl⟩ (fun _ => rfl) (t_284 hN (h0 := h0)) (fun v1 => ?_)
  refine i_bl (pc' := 10) [(.bipush (32), 2)] [some (.ref a0), none] [.int 32, .int v1] (by decide +kernel) rfl ?_
  refine i_ic (c := .eq) (off := 16) (t := 26) (pc' := 13) (p := v1 = 32) (by decide +kernel) rfl ?_ ?_
  · exact t_286_26 hN (h0 := h0)
  · refine i_bl (pc' := 15) [(.aload_n 0, 1), (.aload_n 0, 1)] [some (.ref a0), none] [.ref a0, .ref a0] (by decide +kernel) rfl ?_
    refine i_gf (idx := 323) (ci := 11) (k := 20) (t := 0) (p := 17013) (pc' := 18) (by decide +kernel) h0 ?_
    refine i_cv (ci := 11) (t := 284) (na := 2) (ml := 2) (idx := 316) (pc' := 21) (st' := []) (en := [some (.ref a0), some (.int (m a0 20))]) (av := [.int (m a0 20)]) (vo := fun v => some (.int v)) (mo := fun _ => m) (s2 := fun v => .int v :: []) (by decide +kernel) (by decide +kernel) h0 ⟨rfl, rfl, rfl, rfl, rfl, rfl⟩ (fun _ => rfl) (t_284 hN (h0 := h0)) (fun v3 => ?_)
    refine i_bl (pc' := 23) [(.bipush (10), 2)] [some (.ref a0), none] [.int 10, .int v3] (by decide +kernel) rfl ?_
    refine i_ic (c := .ne) (off := 16) (t := 39) (pc' := 26) (p := ¬ v3 = 10) (by decide +kernel) rfl ?_ ?_
    · exact i_mr (t_286_39 hN (h0 := h0))
    · exact t_286_26 hN (h0 := h0)

theorem t_286_0 {L nx : Nat} (hN : okn nx) {b z : Nat} {m : Mm} {a0 : Nat} (h0 : ok nx a0 11)   : Im (d_286_0 a0 m) (wV L nx) (ev_dn b z 286 0 [some (.ref a0), none] [] (nx, mem L nx m)) := by
  exact i_it (f := fun s => s_286_0 a0 s) (E := E_286_0 L nx b z a0) (K := (wV L nx)) (fun d s => u_286_0 hN (h0 := h0)) () (m)
noncomputable def d_286 (a0 : Nat) (m : Mm) : Option Mm := d_286_0 a0 m
theorem t_286 {L nx : Nat} (hN : okn nx) {b z : Nat} {m : Mm} {a0 : Nat} (h0 : ok nx a0 11)   : Im (d_286 a0 m) (wV L nx) (ev_dn b z 286 0 [some (.ref a0), none] [] (nx, mem L nx m)) := by
  unfold d_286
  exact t_286_0 hN (h0 := h0)
/-! 288 LanternChessModel.fine()Z -/
noncomputable def d_288 (a0 : Nat) (m : Mm) : Option Bool := if ¬ (m a0 25) = 0 then (some false) else (some true)
theorem t_288 {L nx : Nat} (hN : okn nx) {b z : Nat} {m : Mm} {a0 : Nat} (h0 : ok nx a0 11)   : Im (d_288 a0 m) (kZ L nx m) (ev_dn b z 288 0 [some (.ref a0)] [] (nx, mem L nx m)) := by
  unfold d_288
  refine i_bl (pc' := 1) [(.aload_n 0, 1)] [some (.ref a0)] [.ref a0] (by decide +kernel) rfl ?_
  refine i_gf (idx := 358) (ci := 11) (k := 25) (t := 0) (p := 17018) (pc' := 4) (by decide +kernel) h0 ?_
  refine i_if (c := .ne) (off := 7) (t := 11) (pc' := 7) (p := ¬ (m a0 25) = 0) (by decide +kernel) rfl ?_ ?_
  · refine i_bl (pc' := 12) [(.iconst 0, 1)] [some (.ref a0)] [.int 0] (by decide +kernel) rfl ?_
    exact i_rz (B := false) (by decide +kernel) rfl
  · refine i_bl (pc' := 8) [(.iconst 1, 1)] [some (.ref a0)] [.int 1] (by decide +kernel) rfl ?_
    refine i_go (t := 12) (off := 4) (by decide +kernel) ?_
    exact i_rz (B := true) (by decide +kernel) rfl

/-! 289 LanternChessModel.needs(ZI)V -/
noncomputable def d_289 (a0 : Nat) (x1 : Bool) (x2 : Int32) (m : Mm) : Option Mm := if ¬ (m a0 25) = 0 then (some m) else (if x1 = true then (some m) else (wb (wr m a0 25 x2) fun m1 => wb (wr m1 a0 26 (m1 a0 21)) fun m2 => some m2))
theorem t_289 {L nx : Nat} (hN : okn nx) {b z : Nat} {m : Mm} {a0 : Nat} (h0 : ok nx a0 11) {x1 : Bool} {x2 : Int32}  : Im (d_289 a0 x1 x2 m) (wV L nx) (ev_dn b z 289 0 [some (.ref a0), some (.int (bi x1)), some (.int x2)] [] (nx, mem L nx m)) := by
  unfold d_289
  refine i_bl (pc' := 1) [(.aload_n 0, 1)] [some (.ref a0), some (.int (bi x1)), some (.int x2)] [.ref a0] (by decide +kernel) rfl ?_
  refine i_gf (idx := 358) (ci := 11) (k := 25) (t := 0) (p := 17018) (pc' := 4) (by decide +kernel) h0 ?_
  refine i_if (c := .ne) (off := 7) (t := 11) (pc' := 7) (p := ¬ (m a0 25) = 0) (by decide +kernel) rfl ?_ ?_
  · exact i_rv (by decide +kernel) rfl
  · refine i_bl (pc' := 8) [(.iload_n 1, 1)] [some (.ref a0), some (.int (bi x1)), some (.int x2)] [.int (bi x1)] (by decide +kernel) rfl ?_
    refine i_bz (off := 4) (t := 12) (pc' := 11) (by decide +kernel) ?_ ?_
    · exact i_rv (by decide +kernel) rfl
    · refine i_bl (pc' := 14) [(.aload_n 0, 1), (.iload_n 2, 1)] [some (.ref a0), some (.int (bi x1)), some (.int x2)] [.int x2, .ref a0] (by decide +kernel) rfl ?_
      refine i_pf (x := x2) (idx := 358) (ci := 11) (k := 25) (p := 17018) (pc' := 17) (by decide +kernel) h0 (fun m1 => ?_)
      refine i_bl (pc' := 19) [(.aload_n 0, 1), (.aload_n 0, 1)] [some (.ref a0), some (.int (bi x1)), some (.int x2)] [.ref a0, .ref a0] (by decide +kernel) rfl ?_
      refine i_gf (idx := 326) (ci := 11) (k := 21) (t := 0) (p := 17014) (pc' := 22) (by decide +kernel) h0 ?_
      refine i_pf (x := (m1 a0 21)) (idx := 56) (ci := 11) (k := 26) (p := 17019) (pc' := 25) (by decide +kernel) h0 (fun m2 => ?_)
      exact i_rv (by decide +kernel) rfl

/-! 290 LanternChessModel.goOn()V -/
noncomputable def d_290 (a0 : Nat) (m : Mm) : Option Mm := (d_288 a0 m).bind fun v1 => if v1 = true then ((d_286 a0 m).bind fun m2 => some m2) else (some m)
theorem t_290 {L nx : Nat} (hN : okn nx) {b z : Nat} {m : Mm} {a0 : Nat} (h0 : ok nx a0 11)   : Im (d_290 a0 m) (wV L nx) (ev_dn b z 290 0 [some (.ref a0)] [] (nx, mem L nx m)) := by
  unfold d_290
  refine i_bl (pc' := 1) [(.aload_n 0, 1)] [some (.ref a0)] [.ref a0] (by decide +kernel) rfl ?_
  refine i_cv (ci := 11) (t := 288) (na := 1) (ml := 1) (idx := 361) (pc' := 4) (st' := []) (en := [some (.ref a0)]) (av := []) (vo := fun v => some (.int (bi v))) (mo := fun _ => m) (s2 := fun v => .int (bi v) :: []) (by decide +kernel) (by decide +kernel) h0 ⟨rfl, rfl, rfl, rfl, rfl, rfl⟩ (fun _ => rfl) (t_288 hN (h0 := h0)) (fun v1 => ?_)
  refine i_bz (off := 7) (t := 11) (pc' := 7) (by decide +kernel) ?_ ?_
  · refine i_bl (pc' := 8) [(.aload_n 0, 1)] [some (.ref a0)] [.ref a0] (by decide +kernel) rfl ?_
    refine i_cv (ci := 11) (t := 286) (na := 1) (ml := 2) (idx := 364) (pc' := 11) (st' := []) (en := [some (.ref a0), none]) (av := []) (vo := fun _ => none) (mo := fun m => m) (s2 := fun _ => []) (by decide +kernel) (by decide +kernel) h0 ⟨rfl, rfl, rfl, rfl, rfl, rfl⟩ (fun _ => rfl) (t_286 hN (h0 := h0)) (fun m2 => ?_)
    exact i_rv (by decide +kernel) rfl
  · exact i_rv (by decide +kernel) rfl

/-! 291 LanternChessModel.isWord(I)Z -/
noncomputable def d_291 (a0 : Nat) (x1 : Int32) (m : Mm) : Option Bool := (d_288 a0 m).bind fun v1 => if v1 = true then (if ¬ (m a0 22) = 1 then (some false) else (if ¬ (m a0 23) = x1 then (some false) else (some true))) else (some false)
theorem t_291 {L nx : Nat} (hN : okn nx) {b z : Nat} {m : Mm} {a0 : Nat} (h0 : ok nx a0 11) {x1 : Int32}  : Im (d_291 a0 x1 m) (kZ L nx m) (ev_dn b z 291 0 [some (.ref a0), some (.int x1)] [] (nx, mem L nx m)) := by
  unfold d_291
  refine i_bl (pc' := 1) [(.aload_n 0, 1)] [some (.ref a0), some (.int x1)] [.ref a0] (by decide +kernel) rfl ?_
  refine i_cv (ci := 11) (t := 288) (na := 1) (ml := 1) (idx := 361) (pc' := 4) (st' := []) (en := [some (.ref a0)]) (av := []) (vo := fun v => some (.int (bi v))) (mo := fun _ => m) (s2 := fun v => .int (bi v) :: []) (by decide +kernel) (by decide +kernel) h0 ⟨rfl, rfl, rfl, rfl, rfl, rfl⟩ (fun _ => rfl) (t_288 hN (h0 := h0)) (fun v1 => ?_)
  refine i_bz (off := 23) (t := 27) (pc' := 7) (by decide +kernel) ?_ ?_
  · refine i_bl (pc' := 8) [(.aload_n 0, 1)] [some (.ref a0), some (.int x1)] [.ref a0] (by decide +kernel) rfl ?_
    refine i_gf (idx := 329) (ci := 11) (k := 22) (t := 0) (p := 17015) (pc' := 11) (by decide +kernel) h0 ?_
    refine i_bl (pc' := 12) [(.iconst 1, 1)] [some (.ref a0), some (.int x1)] [.int 1, .int (m a0 22)] (by decide +kernel) rfl ?_
    refine i_ic (c := .ne) (off := 15) (t := 27) (pc' := 15) (p := ¬ (m a0 22) = 1) (by decide +kernel) rfl ?_ ?_
    · refine i_bl (pc' := 28) [(.iconst 0, 1)] [some (.ref a0), some (.int x1)] [.int 0] (by decide +kernel) rfl ?_
      exact i_rz (B := false) (by decide +kernel) rfl
    · refine i_bl (pc' := 16) [(.aload_n 0, 1)] [some (.ref a0), some (.int x1)] [.ref a0] (by decide +kernel) rfl ?_
      refine i_gf (idx := 338) (ci := 11) (k := 23) (t := 0) (p := 17016) (pc' := 19) (by decide +kernel) h0 ?_
      refine i_bl (pc' := 20) [(.iload_n 1, 1)] [some (.ref a0), some (.int x1)] [.int x1, .int (m a0 23)] (by decide +kernel) rfl ?_
      refine i_ic (c := .ne) (off := 7) (t := 27) (pc' := 23) (p := ¬ (m a0 23) = x1) (by decide +kernel) rfl ?_ ?_
      · refine i_bl (pc' := 28) [(.iconst 0, 1)] [some (.ref a0), some (.int x1)] [.int 0] (by decide +kernel) rfl ?_
        exact i_rz (B := false) (by decide +kernel) rfl
      · refine i_bl (pc' := 24) [(.iconst 1, 1)] [some (.ref a0), some (.int x1)] [.int 1] (by decide +kernel) rfl ?_
        refine i_go (t := 28) (off := 4) (by decide +kernel) ?_
        exact i_rz (B := true) (by decide +kernel) rfl
  · refine i_bl (pc' := 28) [(.iconst 0, 1)] [some (.ref a0), some (.int x1)] [.int 0] (by decide +kernel) rfl ?_
    exact i_rz (B := false) (by decide +kernel) rfl

/-! 292 LanternChessModel.looksNumber(II)I -/
noncomputable def d_292_42 (a0 : Nat) (x1 : Int32) (m : Mm) : Option (Int32 × Mm) := (d_288 a0 m).bind fun v3 => if v3 = true then (some (m a0 24, m)) else (some (x1, m))
theorem t_292_42 {L nx : Nat} (hN : okn nx) {b z : Nat} {m : Mm} {a0 : Nat} (h0 : ok nx a0 11) {x1 : Int32} {o2 : Option Value} : Im (d_292_42 a0 x1 m) (wI L nx) (ev_dn b z 292 42 [some (.ref a0), some (.int x1), o2] [] (nx, mem L nx m)) := by
  unfold d_292_42
  refine i_bl (pc' := 43) [(.aload_n 0, 1)] [some (.ref a0), some (.int x1), o2] [.ref a0] (by decide +kernel) rfl ?_
  refine i_cv (ci := 11) (t := 288) (na := 1) (ml := 1) (idx := 361) (pc' := 46) (st' := []) (en := [some (.ref a0)]) (av := []) (vo := fun v => some (.int (bi v))) (mo := fun _ => m) (s2 := fun v => .int (bi v) :: []) (by decide +kernel) (by decide +kernel) h0 ⟨rfl, rfl, rfl, rfl, rfl, rfl⟩ (fun _ => rfl) (t_288 hN (h0 := h0)) (fun v3 => ?_)
  refine i_bz (off := 10) (t := 56) (pc' := 49) (by decide +kernel) ?_ ?_
  · refine i_bl (pc' := 50) [(.aload_n 0, 1)] [some (.ref a0), some (.int x1), o2] [.ref a0] (by decide +kernel) rfl ?_
    refine i_gf (idx := 345) (ci := 11) (k := 24) (t := 0) (p := 17017) (pc' := 53) (by decide +kernel) h0 ?_
    refine i_go (t := 57) (off := 4) (by decide +kernel) ?_
    exact i_ri (by decide +kernel) rfl
  · refine i_bl (pc' := 57) [(.iload_n 1, 1)] [some (.ref a0), some (.int x1), o2] [.int x1] (by decide +kernel) rfl ?_
    exact i_ri (by decide +kernel) rfl

noncomputable def d_292_14 (a0 : Nat) (x1 : Int32) (x2 : Int32) (s0 : Nat) (s1 : Bool) (m : Mm) : Option (Int32 × Mm) := (d_289 s0 s1 1 m).bind fun m1 => (d_288 a0 m1).bind fun v2 => if v2 = true then ((d_185 (m1 a0 24) x1 x2).bind fun v4 => (d_289 a0 v4 2 m1).bind fun m5 => d_292_42 a0 x1 m5) else (d_292_42 a0 x1 m1)
theorem t_292_14 {L nx : Nat} (hN : okn nx) {b z : Nat} {m : Mm} {a0 : Nat} (h0 : ok nx a0 11) {s0 : Nat} (hs0 : ok nx s0 11) {x1 : Int32} {x2 : Int32} {s1 : Bool}  : Im (d_292_14 a0 x1 x2 s0 s1 m) (wI L nx) (ev_dn b z 292 14 [some (.ref a0), some (.int x1), some (.int x2)] [.int (bi s1), .ref s0] (nx, mem L nx m)) := by
  unfold d_292_14
  refine i_bl (pc' := 15) [(.iconst 1, 1)] [some (.ref a0), some (.int x1), some (.int x2)] [.int 1, .int (bi s1), .ref s0] (by decide +kernel) rfl ?_
  refine i_cv (ci := 11) (t := 289) (na := 3) (ml := 3) (idx := 367) (pc' := 18) (st' := []) (en := [some (.ref s0), some (.int (bi s1)), some (.int 1)]) (av := [.int (bi s1), .int 1]) (vo := fun _ => none) (mo := fun m => m) (s2 := fun _ => []) (by decide +kernel) (by decide +kernel) hs0 ⟨rfl, rfl, rfl, rfl, rfl, rfl⟩ (fun _ => rfl) (t_289 hN (h0 := hs0)) (fun m1 => ?_)
  refine i_bl (pc' := 19) [(.aload_n 0, 1)] [some (.ref a0), some (.int x1), some (.int x2)] [.ref a0] (by decide +kernel) rfl ?_
  refine i_cv (ci := 11) (t := 288) (na := 1) (ml := 1) (idx := 361) (pc' := 22) (st' := []) (en := [some (.ref a0)]) (av := []) (vo := fun v => some (.int (bi v))) (mo := fun _ => m1) (s2 := fun v => .int (bi v) :: []) (by decide +kernel) (by decide +kernel) h0 ⟨rfl, rfl, rfl, rfl, rfl, rfl⟩ (fun _ => rfl) (t_288 hN (h0 := h0)) (fun v2 => ?_)
  refine i_bz (off := 20) (t := 42) (pc' := 25) (by decide +kernel) ?_ ?_
  · refine i_bl (pc' := 27) [(.aload_n 0, 1), (.aload_n 0, 1)] [some (.ref a0), some (.int x1), some (.int x2)] [.ref a0, .ref a0] (by decide +kernel) rfl ?_
    refine i_gf (idx := 345) (ci := 11) (k := 24) (t := 0) (p := 17017) (pc' := 30) (by decide +kernel) h0 ?_
    refine i_bl (pc' := 35) [(.i2l, 1), (.iload_n 1, 1), (.i2l, 1), (.iload_n 2, 1), (.i2l, 1)] [some (.ref a0), some (.int x1), some (.int x2)] [.long x2.toInt64, .long x1.toInt64, .long (m1 a0 24).toInt64, .ref a0] (by decide +kernel) rfl ?_
    refine i_cs (t := 185) (na := 3) (ml := 6) (idx := 148) (pc' := 38) (st' := [.ref a0]) (en := [some (.long (m1 a0 24).toInt64), none, some (.long x1.toInt64), none, some (.long x2.toInt64), none]) (av := [.long (m1 a0 24).toInt64, .long x1.toInt64, .long x2.toInt64]) (vo := fun v => some (.int (bi v))) (mo := fun _ => m1) (s2 := fun v => .int (bi v) :: [.ref a0]) (by decide +kernel) ⟨rfl, rfl, rfl, rfl, rfl, rfl⟩ (fun _ => rfl) (t_185 hN ) (fun v4 => ?_)
    refine i_bl (pc' := 39) [(.iconst 2, 1)] [some (.ref a0), some (.int x1), some (.int x2)] [.int 2, .int (bi v4), .ref a0] (by decide +kernel) rfl ?_
    refine i_cv (ci := 11) (t := 289) (na := 3) (ml := 3) (idx := 367) (pc' := 42) (st' := []) (en := [some (.ref a0), some (.int (bi v4)), some (.int 2)]) (av := [.int (bi v4), .int 2]) (vo := fun _ => none) (mo := fun m => m) (s2 := fun _ => []) (by decide +kernel) (by decide +kernel) h0 ⟨rfl, rfl, rfl, rfl, rfl, rfl⟩ (fun _ => rfl) (t_289 hN (h0 := h0)) (fun m5 => ?_)
    exact t_292_42 hN (h0 := h0)
  · exact t_292_42 hN (h0 := h0)

noncomputable def d_292 (a0 : Nat) (x1 : Int32) (x2 : Int32) (m : Mm) : Option (Int32 × Mm) := if ¬ (m a0 22) = 2 then (d_292_14 a0 x1 x2 a0 false m) else (d_292_14 a0 x1 x2 a0 true m)
theorem t_292 {L nx : Nat} (hN : okn nx) {b z : Nat} {m : Mm} {a0 : Nat} (h0 : ok nx a0 11) {x1 : Int32} {x2 : Int32}  : Im (d_292 a0 x1 x2 m) (wI L nx) (ev_dn b z 292 0 [some (.ref a0), some (.int x1), some (.int x2)] [] (nx, mem L nx m)) := by
  unfold d_292
  refine i_bl (pc' := 2) [(.aload_n 0, 1), (.aload_n 0, 1)] [some (.ref a0), some (.int x1), some (.int x2)] [.ref a0, .ref a0] (by decide +kernel) rfl ?_
  refine i_gf (idx := 329) (ci := 11) (k := 22) (t := 0) (p := 17015) (pc' := 5) (by decide +kernel) h0 ?_
  refine i_bl (pc' := 6) [(.iconst 2, 1)] [some (.ref a0), some (.int x1), some (.int x2)] [.int 2, .int (m a0 22), .ref a0] (by decide +kernel) rfl ?_
  refine i_ic (c := .ne) (off := 7) (t := 13) (pc' := 9) (p := ¬ (m a0 22) = 2) (by decide +kernel) rfl ?_ ?_
  · refine i_bl (pc' := 14) [(.iconst 0, 1)] [some (.ref a0), some (.int x1), some (.int x2)] [.int 0, .ref a0] (by decide +kernel) rfl ?_
    exact t_292_14 hN (h0 := h0) (hs0 := h0)
  · refine i_bl (pc' := 10) [(.iconst 1, 1)] [some (.ref a0), some (.int x1), some (.int x2)] [.int 1, .ref a0] (by decide +kernel) rfl ?_
    refine i_go (t := 14) (off := 4) (by decide +kernel) ?_
    exact t_292_14 hN (h0 := h0) (hs0 := h0)

/-! 293 LanternChessModel.number(II)I -/
noncomputable def d_293 (a0 : Nat) (x1 : Int32) (x2 : Int32) (m : Mm) : Option (Int32 × Mm) := (d_292 a0 x1 x2 m).bind fun r1 => (d_290 a0 r1.2).bind fun m2 => some (r1.1, m2)
theorem t_293 {L nx : Nat} (hN : okn nx) {b z : Nat} {m : Mm} {a0 : Nat} (h0 : ok nx a0 11) {x1 : Int32} {x2 : Int32}  : Im (d_293 a0 x1 x2 m) (wI L nx) (ev_dn b z 293 0 [some (.ref a0), some (.int x1), some (.int x2), none] [] (nx, mem L nx m)) := by
  unfold d_293
  refine i_bl (pc' := 3) [(.aload_n 0, 1), (.iload_n 1, 1), (.iload_n 2, 1)] [some (.ref a0), some (.int x1), some (.int x2), none] [.int x2, .int x1, .ref a0] (by decide +kernel) rfl ?_
  refine i_cv (ci := 11) (t := 292) (na := 3) (ml := 3) (idx := 371) (pc' := 6) (st' := []) (en := [some (.ref a0), some (.int x1), some (.int x2)]) (av := [.int x1, .int x2]) (vo := fun v => some (.int v.1)) (mo := fun v => v.2) (s2 := fun v => .int v.1 :: []) (by decide +kernel) (by decide +kernel) h0 ⟨rfl, rfl, rfl, rfl, rfl, rfl⟩ (fun _ => rfl) (t_292 hN (h0 := h0)) (fun r1 => ?_)
  refine i_bl (pc' := 8) [(.istore_n 3, 1), (.aload_n 0, 1)] [some (.ref a0), some (.int x1), some (.int x2), some (.int r1.1)] [.ref a0] (by decide +kernel) rfl ?_
  refine i_cv (ci := 11) (t := 290) (na := 1) (ml := 1) (idx := 374) (pc' := 11) (st' := []) (en := [some (.ref a0)]) (av := []) (vo := fun _ => none) (mo := fun m => m) (s2 := fun _ => []) (by decide +kernel) (by decide +kernel) h0 ⟨rfl, rfl, rfl, rfl, rfl, rfl⟩ (fun _ => rfl) (t_290 hN (h0 := h0)) (fun m2 => ?_)
  refine i_bl (pc' := 12) [(.iload_n 3, 1)] [some (.ref a0), some (.int x1), some (.int x2), some (.int r1.1)] [.int r1.1] (by decide +kernel) rfl ?_
  exact i_ri (by decide +kernel) rfl

/-! 294 LanternChessModel.onlyOnce(I)V -/
noncomputable def d_294_17 (a0 : Nat) (x1 : Int32) (s0 : Nat) (s1 : Bool) (m : Mm) : Option Mm := (d_289 s0 s1 3 m).bind fun m1 => wb (wr m1 a0 27 ((m1 a0 27) ||| ((1 : Int32) <<< (x1 &&& (31 : Int32))))) fun m2 => (d_290 a0 m2).bind fun m3 => some m3
theorem t_294_17 {L nx : Nat} (hN : okn nx) {b z : Nat} {m : Mm} {a0 : Nat} (h0 : ok nx a0 11) {s0 : Nat} (hs0 : ok nx s0 11) {x1 : Int32} {s1 : Bool}  : Im (d_294_17 a0 x1 s0 s1 m) (wV L nx) (ev_dn b z 294 17 [some (.ref a0), some (.int x1)] [.int (bi s1), .ref s0] (nx, mem L nx m)) := by
  unfold d_294_17
  refine i_bl (pc' := 18) [(.iconst 3, 1)] [some (.ref a0), some (.int x1)] [.int 3, .int (bi s1), .ref s0] (by decide +kernel) rfl ?_
  refine i_cv (ci := 11) (t := 289) (na := 3) (ml := 3) (idx := 367) (pc' := 21) (st' := []) (en := [some (.ref s0), some (.int (bi s1)), some (.int 3)]) (av := [.int (bi s1), .int 3]) (vo := fun _ => none) (mo := fun m => m) (s2 := fun _ => []) (by decide +kernel) (by decide +kernel) hs0 ⟨rfl, rfl, rfl, rfl, rfl, rfl⟩ (fun _ => rfl) (t_289 hN (h0 := hs0)) (fun m1 => ?_)
  refine i_bl (pc' := 23) [(.aload_n 0, 1), (.aload_n 0, 1)] [some (.ref a0), some (.int x1)] [.ref a0, .ref a0] (by decide +kernel) rfl ?_
  refine i_gf (idx := 377) (ci := 11) (k := 27) (t := 0) (p := 17020) (pc' := 26) (by decide +kernel) h0 ?_
  refine i_bl (pc' := 30) [(.iconst 1, 1), (.iload_n 1, 1), (.ishl, 1), (.ior, 1)] [some (.ref a0), some (.int x1)] [.int ((m1 a0 27) ||| ((1 : Int32) <<< (x1 &&& (31 : Int32)))), .ref a0] (by decide +kernel) rfl ?_
  refine i_pf (x := ((m1 a0 27) ||| ((1 : Int32) <<< (x1 &&& (31 : Int32))))) (idx := 377) (ci := 11) (k := 27) (p := 17020) (pc' := 33) (by decide +kernel) h0 (fun m2 => ?_)
  refine i_bl (pc' := 34) [(.aload_n 0, 1)] [some (.ref a0), some (.int x1)] [.ref a0] (by decide +kernel) rfl ?_
  refine i_cv (ci := 11) (t := 290) (na := 1) (ml := 1) (idx := 374) (pc' := 37) (st' := []) (en := [some (.ref a0)]) (av := []) (vo := fun _ => none) (mo := fun m => m) (s2 := fun _ => []) (by decide +kernel) (by decide +kernel) h0 ⟨rfl, rfl, rfl, rfl, rfl, rfl⟩ (fun _ => rfl) (t_290 hN (h0 := h0)) (fun m3 => ?_)
  exact i_rv (by decide +kernel) rfl

noncomputable def d_294 (a0 : Nat) (x1 : Int32) (m : Mm) : Option Mm := if ¬ (((m a0 27) >>> (x1 &&& (31 : Int32))) &&& (1 : Int32)) = 0 then (d_294_17 a0 x1 a0 false m) else (d_294_17 a0 x1 a0 true m)
theorem t_294 {L nx : Nat} (hN : okn nx) {b z : Nat} {m : Mm} {a0 : Nat} (h0 : ok nx a0 11) {x1 : Int32}  : Im (d_294 a0 x1 m) (wV L nx) (ev_dn b z 294 0 [some (.ref a0), some (.int x1)] [] (nx, mem L nx m)) := by
  unfold d_294
  refine i_bl (pc' := 2) [(.aload_n 0, 1), (.aload_n 0, 1)] [some (.ref a0), some (.int x1)] [.ref a0, .ref a0] (by decide +kernel) rfl ?_
  refine i_gf (idx := 377) (ci := 11) (k := 27) (t := 0) (p := 17020) (pc' := 5) (by decide +kernel) h0 ?_
  refine i_bl (pc' := 9) [(.iload_n 1, 1), (.ishr, 1), (.iconst 1, 1), (.iand, 1)] [some (.ref a0), some (.int x1)] [.int (((m a0 27) >>> (x1 &&& (31 : Int32))) &&& (1 : Int32)), .ref a0] (by decide +kernel) rfl ?_
  refine i_if (c := .ne) (off := 7) (t := 16) (pc' := 12) (p := ¬ (((m a0 27) >>> (x1 &&& (31 : Int32))) &&& (1 : Int32)) = 0) (by decide +kernel) rfl ?_ ?_
  · refine i_bl (pc' := 17) [(.iconst 0, 1)] [some (.ref a0), some (.int x1)] [.int 0, .ref a0] (by decide +kernel) rfl ?_
    exact t_294_17 hN (h0 := h0) (hs0 := h0)
  · refine i_bl (pc' := 13) [(.iconst 1, 1)] [some (.ref a0), some (.int x1)] [.int 1, .ref a0] (by decide +kernel) rfl ?_
    refine i_go (t := 17) (off := 4) (by decide +kernel) ?_
    exact t_294_17 hN (h0 := h0) (hs0 := h0)

