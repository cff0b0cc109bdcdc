/-! Programs in numbers, and that the evaluator answers what they answer. -/
/-! 203 LanternChessModel.isMoveAt(IIII)Z -/
noncomputable def d_203_64 (s0 : Nat) (s1 : Int32) (s2 : Int32) (s3 : Int32) (s4 : Int32) (s5 : Bool) (m : Mm) : Option Bool := (d_202 s0 s1 s2 s3 s4 s5 m).bind fun v5 => some v5
theorem t_203_64 {L nx : Nat} (hN : okn nx) {b z : Nat} {m : Mm} {s0 : Nat} (hs0 : ok nx s0 11) {s1 : Int32} {s2 : Int32} {s3 : Int32} {s4 : Int32} {s5 : Bool} {o0 : Option Value} {o1 : Option Value} {o2 : Option Value} {o3 : Option Value} {o4 : Option Value} {o5 : Option Value} {o6 : Option Value} : Im (d_203_64 s0 s1 s2 s3 s4 s5 m) (kZ L nx m) (ev_dn b z 203 64 [o0, o1, o2, o3, o4, o5, o6] [.int (bi s5), .int s4, .int s3, .int s2, .int s1, .ref s0] (nx, mem L nx m)) := by
  unfold d_203_64
  refine i_cv (ci := 11) (t := 202) (na := 6) (ml := 12) (idx := 114) (pc' := 67) (st' := []) (en := [some (.ref s0), some (.int s1), some (.int s2), some (.int s3), some (.int s4), some (.int (bi s5)), none, none, none, none, none, none]) (av := [.int s1, .int s2, .int s3, .int s4, .int (bi s5)]) (vo := fun v => some (.int (bi v))) (mo := fun _ => m) (s2 := fun v => .int (bi v) :: []) (by decide +kernel) (by decide +kernel) hs0 ⟨rfl, rfl, rfl, rfl, rfl, rfl⟩ (fun _ => rfl) (t_202 hN (h0 := hs0)) (fun v5 => ?_)
  exact i_rz (B := v5) (by decide +kernel) rfl

noncomputable def d_203 (a0 : Nat) (x1 : Int32) (x2 : Int32) (x3 : Int32) (x4 : Int32) (m : Mm) : Option Bool := if ev_in (x1 + x3) (sh_n (sh_r a0 1)) = true then (wb (m (sh_r a0 1) (ix (x1 + x3))) fun y1 => if ev_in (x1 + x4) (sh_n (sh_r a0 1)) = true then (wb (m (sh_r a0 1) (ix (x1 + x4))) fun y2 => if x3 = x4 then (some false) else ((d_196 y1).bind fun v3 => if ¬ v3 = x2 then (some false) else ((d_196 y2).bind fun v4 => if ¬ v4 = x2 then (if y2 = 0 then (d_203_64 a0 x1 y1 x3 x4 false m) else (d_203_64 a0 x1 y1 x3 x4 true m)) else (some false)))) else none) else none
theorem t_203 {L nx : Nat} (hN : okn nx) {b z : Nat} {m : Mm} {a0 : Nat} (h0 : ok nx a0 11) {x1 : Int32} {x2 : Int32} {x3 : Int32} {x4 : Int32}  : Im (d_203 a0 x1 x2 x3 x4 m) (kZ L nx m) (ev_dn b z 203 0 [some (.ref a0), some (.int x1), some (.int x2), some (.int x3), some (.int x4), none, none] [] (nx, mem L nx m)) := by
  unfold d_203
  refine i_bl (pc' := 1) [(.aload_n 0, 1)] [some (.ref a0), some (.int x1), some (.int x2), some (.int x3), some (.int x4), none, none] [.ref a0] (by decide +kernel) rfl ?_
  refine i_gr (idx := 7) (ci := 11) (k := 1) (t := 2) (p := 16234) (pc' := 4) (by decide +kernel) h0 ?_
  refine i_bl (pc' := 7) [(.iload_n 1, 1), (.iload_n 3, 1), (.iadd, 1)] [some (.ref a0), some (.int x1), some (.int x2), some (.int x3), some (.int x4), none, none] [.int (x1 + x3), .ref (sh_r a0 1)] (by decide +kernel) rfl ?_
  refine i_al (pc' := 8) (by decide +kernel) (o_11_1 hN h0) ?_
  refine i_bl (pc' := 10) [(.istore 5, 2)] [some (.ref a0), some (.int x1), some (.int x2), some (.int x3), some (.int x4), some (.int (m (sh_r a0 1) (ix (x1 + x3)))), none] [] (by decide +kernel) rfl ?_
  refine i_wb (fun y1 => ev_dn b z 203 10 [some (.ref a0), some (.int x1), some (.int x2), some (.int x3), some (.int x4), some (.int y1), none] [] (nx, mem L nx m)) (fun y1 => ?_)
  refine i_bl (pc' := 11) [(.aload_n 0, 1)] [some (.ref a0), some (.int x1), some (.int x2), some (.int x3), some (.int x4), some (.int y1), none] [.ref a0] (by decide +kernel) rfl ?_
  refine i_gr (idx := 7) (ci := 11) (k := 1) (t := 2) (p := 16234) (pc' := 14) (by decide +kernel) h0 ?_
  refine i_bl (pc' := 18) [(.iload_n 1, 1), (.iload 4, 2), (.iadd, 1)] [some (.ref a0), some (.int x1), some (.int x2), some (.int x3), some (.int x4), some (.int y1), none] [.int (x1 + x4), .ref (sh_r a0 1)] (by decide +kernel) rfl ?_
  refine i_al (pc' := 19) (by decide +kernel) (o_11_1 hN h0) ?_
  refine i_bl (pc' := 21) [(.istore 6, 2)] [some (.ref a0), some (.int x1), some (.int x2), some (.int x3), some (.int x4), some (.int y1), some (.int (m (sh_r a0 1) (ix (x1 + x4))))] [] (by decide +kernel) rfl ?_
  refine i_wb (fun y2 => ev_dn b z 203 21 [some (.ref a0), some (.int x1), some (.int x2), some (.int x3), some (.int x4), some (.int y1), some (.int y2)] [] (nx, mem L nx m)) (fun y2 => ?_)
  refine i_bl (pc' := 24) [(.iload_n 3, 1), (.iload 4, 2)] [some (.ref a0), some (.int x1), some (.int x2), some (.int x3), some (.int x4), some (.int y1), some (.int y2)] [.int x4, .int x3] (by decide +kernel) rfl ?_
  refine i_ic (c := .eq) (off := 21) (t := 45) (pc' := 27) (p := x3 = x4) (by decide +kernel) rfl ?_ ?_
  · refine i_bl (pc' := 46) [(.iconst 0, 1)] [some (.ref a0), some (.int x1), some (.int x2), some (.int x3), some (.int x4), some (.int y1), some (.int y2)] [.int 0] (by decide +kernel) rfl ?_
    exact i_rz (B := false) (by decide +kernel) rfl
  · refine i_bl (pc' := 29) [(.iload 5, 2)] [some (.ref a0), some (.int x1), some (.int x2), some (.int x3), some (.int x4), some (.int y1), some (.int y2)] [.int y1] (by decide +kernel) rfl ?_
    refine i_cs (t := 196) (na := 1) (ml := 1) (idx := 111) (pc' := 32) (st' := []) (en := [some (.int y1)]) (av := [.int y1]) (vo := fun v => some (.int v)) (mo := fun _ => m) (s2 := fun v => .int v :: []) (by decide +kernel) ⟨rfl, rfl, rfl, rfl, rfl, rfl⟩ (fun _ => rfl) (t_196 hN ) (fun v3 => ?_)
    refine i_bl (pc' := 33) [(.iload_n 2, 1)] [some (.ref a0), some (.int x1), some (.int x2), some (.int x3), some (.int x4), some (.int y1), some (.int y2)] [.int x2, .int v3] (by decide +kernel) rfl ?_
    refine i_ic (c := .ne) (off := 12) (t := 45) (pc' := 36) (p := ¬ v3 = x2) (by decide +kernel) rfl ?_ ?_
    · refine i_bl (pc' := 46) [(.iconst 0, 1)] [some (.ref a0), some (.int x1), some (.int x2), some (.int x3), some (.int x4), some (.int y1), some (.int y2)] [.int 0] (by decide +kernel) rfl ?_
      exact i_rz (B := false) (by decide +kernel) rfl
    · refine i_bl (pc' := 38) [(.iload 6, 2)] [some (.ref a0), some (.int x1), some (.int x2), some (.int x3), some (.int x4), some (.int y1), some (.int y2)] [.int y2] (by decide +kernel) rfl ?_
      refine i_cs (t := 196) (na := 1) (ml := 1) (idx := 111) (pc' := 41) (st' := []) (en := [some (.int y2)]) (av := [.int y2]) (vo := fun v => some (.int v)) (mo := fun _ => m) (s2 := fun v => .int v :: []) (by decide +kernel) ⟨rfl, rfl, rfl, rfl, rfl, rfl⟩ (fun _ => rfl) (t_196 hN ) (fun v4 => ?_)
      refine i_bl (pc' := 42) [(.iload_n 2, 1)] [some (.ref a0), some (.int x1), some (.int x2), some (.int x3), some (.int x4), some (.int y1), some (.int y2)] [.int x2, .int v4] (by decide +kernel) rfl ?_
      refine i_ic (c := .ne) (off := 5) (t := 47) (pc' := 45) (p := ¬ v4 = x2) (by decide +kernel) rfl ?_ ?_
      · refine i_bl (pc' := 56) [(.aload_n 0, 1), (.iload_n 1, 1), (.iload 5, 2), (.iload_n 3, 1), (.iload 4, 2), (.iload 6, 2)] [some (.ref a0), some (.int x1), some (.int x2), some (.int x3), some (.int x4), some (.int y1), some (.int y2)] [.int y2, .int x4, .int x3, .int y1, .int x1, .ref a0] (by decide +kernel) rfl ?_
        refine i_if (c := .eq) (off := 7) (t := 63) (pc' := 59) (p := y2 = 0) (by decide +kernel) rfl ?_ ?_
        · refine i_bl (pc' := 64) [(.iconst 0, 1)] [some (.ref a0), some (.int x1), some (.int x2), some (.int x3), some (.int x4), some (.int y1), some (.int y2)] [.int 0, .int x4, .int x3, .int y1, .int x1, .ref a0] (by decide +kernel) rfl ?_
          exact t_203_64 hN (hs0 := h0)
        · refine i_bl (pc' := 60) [(.iconst 1, 1)] [some (.ref a0), some (.int x1), some (.int x2), some (.int x3), some (.int x4), some (.int y1), some (.int y2)] [.int 1, .int x4, .int x3, .int y1, .int x1, .ref a0] (by decide +kernel) rfl ?_
          refine i_go (t := 64) (off := 4) (by decide +kernel) ?_
          exact t_203_64 hN (hs0 := h0)
      · refine i_bl (pc' := 46) [(.iconst 0, 1)] [some (.ref a0), some (.int x1), some (.int x2), some (.int x3), some (.int x4), some (.int y1), some (.int y2)] [.int 0] (by decide +kernel) rfl ?_
        exact i_rz (B := false) (by decide +kernel) rfl

/-! 204 LanternChessModel.becomesQueen(II)Z -/
noncomputable def d_204_33 (s0 : Int32) (s1 : Int32) (m : Mm) : Option Bool := if ¬ s0 = s1 then (some false) else (some true)
theorem t_204_33 {L nx : Nat} (hN : okn nx) {b z : Nat} {m : Mm}  {s0 : Int32} {s1 : Int32} {o0 : Option Value} {o1 : Option Value} {o2 : Option Value} : Im (d_204_33 s0 s1 m) (kZ L nx m) (ev_dn b z 204 33 [o0, o1, o2] [.int s1, .int s0] (nx, mem L nx m)) := by
  unfold d_204_33
  refine i_ic (c := .ne) (off := 7) (t := 40) (pc' := 36) (p := ¬ s0 = s1) (by decide +kernel) rfl ?_ ?_
  · refine i_bl (pc' := 41) [(.iconst 0, 1)] [o0, o1, o2] [.int 0] (by decide +kernel) rfl ?_
    exact i_rz (B := false) (by decide +kernel) rfl
  · refine i_bl (pc' := 37) [(.iconst 1, 1)] [o0, o1, o2] [.int 1] (by decide +kernel) rfl ?_
    refine i_go (t := 41) (off := 4) (by decide +kernel) ?_
    exact i_rz (B := true) (by decide +kernel) rfl

noncomputable def d_204 (a0 : Nat) (x1 : Int32) (x2 : Int32) (m : Mm) : Option Bool := (d_197 x1).bind fun v1 => if ¬ v1 = 6 then (some false) else ((d_199 a0 x2 m).bind fun v2 => (d_196 x1).bind fun v3 => if ¬ v3 = 0 then (d_204_33 v2 0 m) else (if ev_in 1 (sh_n (sh_r a0 1)) = true then (d_204_33 v2 ((m (sh_r a0 1) (ix 1)) - 1) m) else none))
theorem t_204 {L nx : Nat} (hN : okn nx) {b z : Nat} {m : Mm} {a0 : Nat} (h0 : ok nx a0 11) {x1 : Int32} {x2 : Int32}  : Im (d_204 a0 x1 x2 m) (kZ L nx m) (ev_dn b z 204 0 [some (.ref a0), some (.int x1), some (.int x2)] [] (nx, mem L nx m)) := by
  unfold d_204
  refine i_bl (pc' := 1) [(.iload_n 1, 1)] [some (.ref a0), some (.int x1), some (.int x2)] [.int x1] (by decide +kernel) rfl ?_
  refine i_cs (t := 197) (na := 1) (ml := 1) (idx := 100) (pc' := 4) (st' := []) (en := [some (.int x1)]) (av := [.int x1]) (vo := fun v => some (.int v)) (mo := fun _ => m) (s2 := fun v => .int v :: []) (by decide +kernel) ⟨rfl, rfl, rfl, rfl, rfl, rfl⟩ (fun _ => rfl) (t_197 hN ) (fun v1 => ?_)
  refine i_bl (pc' := 6) [(.bipush (6), 2)] [some (.ref a0), some (.int x1), some (.int x2)] [.int 6, .int v1] (by decide +kernel) rfl ?_
  refine i_ic (c := .ne) (off := 34) (t := 40) (pc' := 9) (p := ¬ v1 = 6) (by decide +kernel) rfl ?_ ?_
  · refine i_bl (pc' := 41) [(.iconst 0, 1)] [some (.ref a0), some (.int x1), some (.int x2)] [.int 0] (by decide +kernel) rfl ?_
    exact i_rz (B := false) (by decide +kernel) rfl
  · refine i_bl (pc' := 11) [(.aload_n 0, 1), (.iload_n 2, 1)] [some (.ref a0), some (.int x1), some (.int x2)] [.int x2, .ref a0] (by decide +kernel) rfl ?_
    refine i_cv (ci := 11) (t := 199) (na := 2) (ml := 2) (idx := 92) (pc' := 14) (st' := []) (en := [some (.ref a0), some (.int x2)]) (av := [.int x2]) (vo := fun v => some (.int v)) (mo := fun _ => m) (s2 := fun v => .int v :: []) (by decide +kernel) (by decide +kernel) h0 ⟨rfl, rfl, rfl, rfl, rfl, rfl⟩ (fun _ => rfl) (t_199 hN (h0 := h0)) (fun v2 => ?_)
    refine i_bl (pc' := 15) [(.iload_n 1, 1)] [some (.ref a0), some (.int x1), some (.int x2)] [.int x1, .int v2] (by decide +kernel) rfl ?_
    refine i_cs (t := 196) (na := 1) (ml := 1) (idx := 111) (pc' := 18) (st' := [.int v2]) (en := [some (.int x1)]) (av := [.int x1]) (vo := fun v => some (.int v)) (mo := fun _ => m) (s2 := fun v => .int v :: [.int v2]) (by decide +kernel) ⟨rfl, rfl, rfl, rfl, rfl, rfl⟩ (fun _ => rfl) (t_196 hN ) (fun v3 => ?_)
    refine i_if (c := .ne) (off := 14) (t := 32) (pc' := 21) (p := ¬ v3 = 0) (by decide +kernel) rfl ?_ ?_
    · refine i_bl (pc' := 33) [(.iconst 0, 1)] [some (.ref a0), some (.int x1), some (.int x2)] [.int 0, .int v2] (by decide +kernel) rfl ?_
      exact t_204_33 hN 
    · refine i_bl (pc' := 22) [(.aload_n 0, 1)] [some (.ref a0), some (.int x1), some (.int x2)] [.ref a0, .int v2] (by decide +kernel) rfl ?_
      refine i_gr (idx := 7) (ci := 11) (k := 1) (t := 2) (p := 16234) (pc' := 25) (by decide +kernel) h0 ?_
      refine i_bl (pc' := 26) [(.iconst 1, 1)] [some (.ref a0), some (.int x1), some (.int x2)] [.int 1, .ref (sh_r a0 1), .int v2] (by decide +kernel) rfl ?_
      refine i_al (pc' := 27) (by decide +kernel) (o_11_1 hN h0) ?_
      refine i_bl (pc' := 29) [(.iconst 1, 1), (.isub, 1)] [some (.ref a0), some (.int x1), some (.int x2)] [.int ((m (sh_r a0 1) (ix 1)) - 1), .int v2] (by decide +kernel) rfl ?_
      refine i_go (t := 33) (off := 4) (by decide +kernel) ?_
      exact t_204_33 hN 

/-! 205 LanternChessModel.gainAt(III)I -/
noncomputable def d_205 (a0 : Nat) (x1 : Int32) (x2 : Int32) (x3 : Int32) (m : Mm) : Option Int32 := if ev_in (x1 + x3) (sh_n (sh_r a0 1)) = true then ((d_197 (m (sh_r a0 1) (ix (x1 + x3)))).bind fun v1 => if ev_in v1 7 = true then (if ev_in (x1 + x2) (sh_n (sh_r a0 1)) = true then ((d_204 a0 (m (sh_r a0 1) (ix (x1 + x2))) x3 m).bind fun v2 => if v2 = true then (some ((m 1 (ix v1)) + 8)) else (some ((m 1 (ix v1)) + 0))) else none) else none) else none
theorem t_205 {L nx : Nat} (hN : okn nx) {b z : Nat} {m : Mm} {a0 : Nat} (h0 : ok nx a0 11) {x1 : Int32} {x2 : Int32} {x3 : Int32}  : Im (d_205 a0 x1 x2 x3 m) (kI L nx m) (ev_dn b z 205 0 [some (.ref a0), some (.int x1), some (.int x2), some (.int x3)] [] (nx, mem L nx m)) := by
  unfold d_205
  refine i_gs (w := 1) (pc' := 3) (idx := 118) (by decide +kernel) ?_
  refine i_bl (pc' := 4) [(.aload_n 0, 1)] [some (.ref a0), some (.int x1), some (.int x2), some (.int x3)] [.ref a0, .ref 1] (by decide +kernel) rfl ?_
  refine i_gr (idx := 7) (ci := 11) (k := 1) (t := 2) (p := 16234) (pc' := 7) (by decide +kernel) h0 ?_
  refine i_bl (pc' := 10) [(.iload_n 1, 1), (.iload_n 3, 1), (.iadd, 1)] [some (.ref a0), some (.int x1), some (.int x2), some (.int x3)] [.int (x1 + x3), .ref (sh_r a0 1), .ref 1] (by decide +kernel) rfl ?_
  refine i_al (pc' := 11) (by decide +kernel) (o_11_1 hN h0) ?_
  refine i_cs (t := 197) (na := 1) (ml := 1) (idx := 100) (pc' := 14) (st' := [.ref 1]) (en := [some (.int (m (sh_r a0 1) (ix (x1 + x3))))]) (av := [.int (m (sh_r a0 1) (ix (x1 + x3)))]) (vo := fun v => some (.int v)) (mo := fun _ => m) (s2 := fun v => .int v :: [.ref 1]) (by decide +kernel) ⟨rfl, rfl, rfl, rfl, rfl, rfl⟩ (fun _ => rfl) (t_197 hN ) (fun v1 => ?_)
  refine i_aS (pc' := 15) 7 (by decide +kernel) rfl (o_lo hN (by decide +kernel)) ?_
  refine i_bl (pc' := 17) [(.aload_n 0, 1), (.aload_n 0, 1)] [some (.ref a0), some (.int x1), some (.int x2), some (.int x3)] [.ref a0, .ref a0, .int (m 1 (ix v1))] (by decide +kernel) rfl ?_
  refine i_gr (idx := 7) (ci := 11) (k := 1) (t := 2) (p := 16234) (pc' := 20) (by decide +kernel) h0 ?_
  refine i_bl (pc' := 23) [(.iload_n 1, 1), (.iload_n 2, 1), (.iadd, 1)] [some (.ref a0), some (.int x1), some (.int x2), some (.int x3)] [.int (x1 + x2), .ref (sh_r a0 1), .ref a0, .int (m 1 (ix v1))] (by decide +kernel) rfl ?_
  refine i_al (pc' := 24) (by decide +kernel) (o_11_1 hN h0) ?_
  refine i_bl (pc' := 25) [(.iload_n 3, 1)] [some (.ref a0), some (.int x1), some (.int x2), some (.int x3)] [.int x3, .int (m (sh_r a0 1) (ix (x1 + x2))), .ref a0, .int (m 1 (ix v1))] (by decide +kernel) rfl ?_
  refine i_cv (ci := 11) (t := 204) (na := 3) (ml := 3) (idx := 121) (pc' := 28) (st' := [.int (m 1 (ix v1))]) (en := [some (.ref a0), some (.int (m (sh_r a0 1) (ix (x1 + x2)))), some (.int x3)]) (av := [.int (m (sh_r a0 1) (ix (x1 + x2))), .int x3]) (vo := fun v => some (.int (bi v))) (mo := fun _ => m) (s2 := fun v => .int (bi v) :: [.int (m 1 (ix v1))]) (by decide +kernel) (by decide +kernel) h0 ⟨rfl, rfl, rfl, rfl, rfl, rfl⟩ (fun _ => rfl) (t_204 hN (h0 := h0)) (fun v2 => ?_)
  refine i_bz (off := 8) (t := 36) (pc' := 31) (by decide +kernel) ?_ ?_
  · refine i_bl (pc' := 33) [(.bipush (8), 2)] [some (.ref a0), some (.int x1), some (.int x2), some (.int x3)] [.int 8, .int (m 1 (ix v1))] (by decide +kernel) rfl ?_
    refine i_go (t := 37) (off := 4) (by decide +kernel) ?_
    refine i_bl (pc' := 38) [(.iadd, 1)] [some (.ref a0), some (.int x1), some (.int x2), some (.int x3)] [.int ((m 1 (ix v1)) + 8)] (by decide +kernel) rfl ?_
    exact i_ri (by decide +kernel) rfl
  · refine i_bl (pc' := 38) [(.iconst 0, 1), (.iadd, 1)] [some (.ref a0), some (.int x1), some (.int x2), some (.int x3)] [.int ((m 1 (ix v1)) + 0)] (by decide +kernel) rfl ?_
    exact i_ri (by decide +kernel) rfl

/-! 206 LanternChessModel.movesAt(III)V -/
noncomputable def d_206_39 (a0 : Nat) (x1 : Int32) (x2 : Int32) (s0 : Nat) (s1 : Int32) (s2 : Int32) (m : Mm) : Option Mm := if ev_in s1 (sh_n s0) = true then (wb (wr m s0 (ix s1) s2) fun m3 => if ev_in (x1 + x2) (sh_n (sh_r a0 1)) = true then (wb (wr m3 (sh_r a0 1) (ix (x1 + x2)) (0 : Int32)) fun m4 => some m4) else none) else none
theorem t_206_39 {L nx : Nat} (hN : okn nx) {b z : Nat} {m : Mm} {a0 : Nat} (h0 : ok nx a0 11) {s0 : Nat} (hs0 : ok nx s0 100) {x1 : Int32} {x2 : Int32} {s1 : Int32} {s2 : Int32} {o3 : Option Value} {o4 : Option Value} : Im (d_206_39 a0 x1 x2 s0 s1 s2 m) (wV L nx) (ev_dn b z 206 39 [some (.ref a0), some (.int x1), some (.int x2), o3, o4] [.int s2, .int s1, .ref s0] (nx, mem L nx m)) := by
  unfold d_206_39
  refine i_as (y := s2) (pc' := 40) (by decide +kernel) hs0 (fun m3 => ?_)
  refine i_bl (pc' := 41) [(.aload_n 0, 1)] [some (.ref a0), some (.int x1), some (.int x2), o3, o4] [.ref a0] (by decide +kernel) rfl ?_
  refine i_gr (idx := 7) (ci := 11) (k := 1) (t := 2) (p := 16234) (pc' := 44) (by decide +kernel) h0 ?_
  refine i_bl (pc' := 48) [(.iload_n 1, 1), (.iload_n 2, 1), (.iadd, 1), (.iconst 0, 1)] [some (.ref a0), some (.int x1), some (.int x2), o3, o4] [.int 0, .int (x1 + x2), .ref (sh_r a0 1)] (by decide +kernel) rfl ?_
  refine i_as (y := (0 : Int32)) (pc' := 49) (by decide +kernel) (o_11_1 hN h0) (fun m4 => ?_)
  exact i_rv (by decide +kernel) rfl

noncomputable def d_206 (a0 : Nat) (x1 : Int32) (x2 : Int32) (x3 : Int32) (m : Mm) : Option Mm := if ev_in (x1 + x2) (sh_n (sh_r a0 1)) = true then (wb (m (sh_r a0 1) (ix (x1 + x2))) fun y1 => (d_204 a0 y1 x3 m).bind fun v2 => if v2 = true then (d_206_39 a0 x1 x2 (sh_r a0 1) (x1 + x3) ((y1 - 6) + 2) m) else (d_206_39 a0 x1 x2 (sh_r a0 1) (x1 + x3) y1 m)) else none
theorem t_206 {L nx : Nat} (hN : okn nx) {b z : Nat} {m : Mm} {a0 : Nat} (h0 : ok nx a0 11) {x1 : Int32} {x2 : Int32} {x3 : Int32}  : Im (d_206 a0 x1 x2 x3 m) (wV L nx) (ev_dn b z 206 0 [some (.ref a0), some (.int x1), some (.int x2), some (.int x3), none] [] (nx, mem L nx m)) := by
  unfold d_206
  refine i_bl (pc' := 1) [(.aload_n 0, 1)] [some (.ref a0), some (.int x1), some (.int x2), some (.int x3), none] [.ref a0] (by decide +kernel) rfl ?_
  refine i_gr (idx := 7) (ci := 11) (k := 1) (t := 2) (p := 16234) (pc' := 4) (by decide +kernel) h0 ?_
  refine i_bl (pc' := 7) [(.iload_n 1, 1), (.iload_n 2, 1), (.iadd, 1)] [some (.ref a0), some (.int x1), some (.int x2), some (.int x3), none] [.int (x1 + x2), .ref (sh_r a0 1)] (by decide +kernel) rfl ?_
  refine i_al (pc' := 8) (by decide +kernel) (o_11_1 hN h0) ?_
  refine i_bl (pc' := 10) [(.istore 4, 2)] [some (.ref a0), some (.int x1), some (.int x2), some (.int x3), some (.int (m (sh_r a0 1) (ix (x1 + x2))))] [] (by decide +kernel) rfl ?_
  refine i_wb (fun y1 => ev_dn b z 206 10 [some (.ref a0), some (.int x1), some (.int x2), some (.int x3), some (.int y1)] [] (nx, mem L nx m)) (fun y1 => ?_)
  refine i_bl (pc' := 11) [(.aload_n 0, 1)] [some (.ref a0), some (.int x1), some (.int x2), some (.int x3), some (.int y1)] [.ref a0] (by decide +kernel) rfl ?_
  refine i_gr (idx := 7) (ci := 11) (k := 1) (t := 2) (p := 16234) (pc' := 14) (by decide +kernel) h0 ?_
  refine i_bl (pc' := 21) [(.iload_n 1, 1), (.iload_n 3, 1), (.iadd, 1), (.aload_n 0, 1), (.iload 4, 2), (.iload_n 3, 1)] [some (.ref a0), some (.int x1), some (.int x2), some (.int x3), some (.int y1)] [.int x3, .int y1, .ref a0, .int (x1 + x3), .ref (sh_r a0 1)] (by decide +kernel) rfl ?_
  refine i_cv (ci := 11) (t := 204) (na := 3) (ml := 3) (idx := 121) (pc' := 24) (st' := [.int (x1 + x3), .ref (sh_r a0 1)]) (en := [some (.ref a0), some (.int y1), some (.int x3)]) (av := [.int y1, .int x3]) (vo := fun v => some (.int (bi v))) (mo := fun _ => m) (s2 := fun v => .int (bi v) :: [.int (x1 + x3), .ref (sh_r a0 1)]) (by decide +kernel) (by decide +kernel) h0 ⟨rfl, rfl, rfl, rfl, rfl, rfl⟩ (fun _ => rfl) (t_204 hN (h0 := h0)) (fun v2 => ?_)
  refine i_bz (off := 13) (t := 37) (pc' := 27) (by decide +kernel) ?_ ?_
  · refine i_bl (pc' := 34) [(.iload 4, 2), (.bipush (6), 2), (.isub, 1), (.iconst 2, 1), (.iadd, 1)] [some (.ref a0), some (.int x1), some (.int x2), some (.int x3), some (.int y1)] [.int ((y1 - 6) + 2), .int (x1 + x3), .ref (sh_r a0 1)] (by decide +kernel) rfl ?_
    refine i_go (t := 39) (off := 5) (by decide +kernel) ?_
    exact t_206_39 hN (h0 := h0) (hs0 := (o_11_1 hN h0))
  · refine i_bl (pc' := 39) [(.iload 4, 2)] [some (.ref a0), some (.int x1), some (.int x2), some (.int x3), some (.int y1)] [.int y1, .int (x1 + x3), .ref (sh_r a0 1)] (by decide +kernel) rfl ?_
    exact t_206_39 hN (h0 := h0) (hs0 := (o_11_1 hN h0))

/-! 207 LanternChessModel.bestGain(II)I -/
noncomputable def E_207_5 (L nx b z : Nat) (a0 : Nat) (x1 : Int32) (x2 : Int32) (m : Mm) (d : Option Value) (s : (Int32 × Int32)) : ev_Q := ev_dn b z 207 5 [some (.ref a0), some (.int x1), some (.int x2), some (.int s.1), some (.int s.2), d] [] (nx, mem L nx m)
noncomputable def E_207_36 (L nx b z : Nat) (a0 : Nat) (x1 : Int32) (x2 : Int32) (x4 : Int32) (m : Mm) (d : Unit) (s : (Int32 × Int32)) : ev_Q := ev_dn b z 207 36 [some (.ref a0), some (.int x1), some (.int x2), some (.int s.1), some (.int x4), some (.int s.2)] [] (nx, mem L nx m)
noncomputable def s_207_36 (a0 : Nat) (x1 : Int32) (x2 : Int32) (x4 : Int32) (m : Mm) (x3 : Int32) (x5 : Int32) : Option ((Int32 × Int32) ⊕ ((Int32 × Int32) ⊕ Int32)) := (d_193 a0 m).bind fun v3 => if v3 ≤ x5 then (wb (x4 + 1) fun y4 => some (.inr (.inl (x3, y4)))) else ((d_203 a0 x1 x2 x4 x5 m).bind fun v5 => if v5 = true then ((d_205 a0 x1 x4 x5 m).bind fun v7 => wb (jmax x3 v7) fun y8 => wb (x5 + 1) fun y9 => some (.inl (y8, y9))) else (wb (x5 + 1) fun y6 => some (.inl (x3, y6))))
noncomputable def d_207_36 (a0 : Nat) (x1 : Int32) (x2 : Int32) (x4 : Int32) (m : Mm) (x3 : Int32) (x5 : Int32) : Option ((Int32 × Int32) ⊕ Int32) := it (fun s => s_207_36 a0 x1 x2 x4 m s.1 s.2) (x3, x5)
theorem e_207_36 (a0 : Nat) (x1 : Int32) (x2 : Int32) (x4 : Int32) (m : Mm) (x3 : Int32) (x5 : Int32) : d_207_36 a0 x1 x2 x4 m x3 x5 = oi (s_207_36 a0 x1 x2 x4 m x3 x5) (fun s => d_207_36 a0 x1 x2 x4 m s.1 s.2) := it_eq _
theorem u_207_36 {L nx : Nat} (hN : okn nx) {b z : Nat} {m : Mm} {a0 : Nat} (h0 : ok nx a0 11) {x1 : Int32} {x2 : Int32} {x3 : Int32} {x4 : Int32} {x5 : Int32}  : Im (s_207_36 a0 x1 x2 x4 m x3 x5) (kL (kL (kI L nx m) (E_207_5 L nx b z a0 x1 x2 m)) (E_207_36 L nx b z a0 x1 x2 x4 m)) (ev_dn b z 207 36 [some (.ref a0), some (.int x1), some (.int x2), some (.int x3), some (.int x4), some (.int x5)] [] (nx, mem L nx m)) := by
  unfold s_207_36
  refine i_bl (pc' := 39) [(.iload 5, 2), (.aload_n 0, 1)] [some (.ref a0), some (.int x1), some (.int x2), some (.int x3), some (.int x4), some (.int x5)] [.ref a0, .int x5] (by decide +kernel) rfl ?_
  refine i_cv (ci := 11) (t := 193) (na := 1) (ml := 1) (idx := 125) (pc' := 42) (st' := [.int x5]) (en := [some (.ref a0)]) (av := []) (vo := fun v => some (.int v)) (mo := fun _ => m) (s2 := fun v => .int v :: [.int x5]) (by decide +kernel) (by decide +kernel) h0 ⟨rfl, rfl, rfl, rfl, rfl, rfl⟩ (fun _ => rfl) (t_193 hN (h0 := h0)) (fun v3 => ?_)
  refine i_ic (c := .ge) (off := 36) (t := 78) (pc' := 45) (p := v3 ≤ x5) (by decide +kernel) rfl ?_ ?_
  · refine i_bl (pc' := 81) [(.iinc 4 (1), 3)] [some (.ref a0), some (.int x1), some (.int x2), some (.int x3), some (.int (x4 + 1)), some (.int x5)] [] (by decide +kernel) rfl ?_
    refine i_wb (fun y4 => ev_dn b z 207 81 [some (.ref a0), some (.int x1), some (.int x2), some (.int x3), some (.int y4), some (.int x5)] [] (nx, mem L nx m)) (fun y4 => ?_)
    refine i_go (t := 5) (off := -76) (by decide +kernel) ?_
    exact i_ir (i_co (some (.int x5)) rfl)
  · refine i_bl (pc' := 52) [(.aload_n 0, 1), (.iload_n 1, 1), (.iload_n 2, 1), (.iload 4, 2), (.iload 5, 2)] [some (.ref a0), some (.int x1), some (.int x2), some (.int x3), some (.int x4), some (.int x5)] [.int x5, .int x4, .int x2, .int x1, .ref a0] (by decide +kernel) rfl ?_
    refine i_cv (ci := 11) (t := 203) (na := 5) (ml := 7) (idx := 129) (pc' := 55) (st' := []) (en := [some (.ref a0), some (.int x1), some (.int x2), some (.int x4), some (.int x5), none, none]) (av := [.int x1, .int x2, .int x4, .int x5]) (vo := fun v => some (.int (bi v))) (mo := fun _ => m) (s2 := fun v => .int (bi v) :: []) (by decide +kernel) (by decide +kernel) h0 ⟨rfl, rfl, rfl, rfl, rfl, rfl⟩ (fun _ => rfl) (t_203 hN (h0 := h0)) (fun v5 => ?_)
    refine i_bz (off := 17) (t := 72) (pc' := 58) (by decide +kernel) ?_ ?_
    · refine i_bl (pc' := 65) [(.iload_n 3, 1), (.aload_n 0, 1), (.iload_n 1, 1), (.iload 4, 2), (.iload 5, 2)] [some (.ref a0), some (.int x1), some (.int x2), some (.int x3), some (.int x4), some (.int x5)] [.int x5, .int x4, .int x1, .ref a0, .int x3] (by decide +kernel) rfl ?_
      refine i_cv (ci := 11) (t := 205) (na := 4) (ml := 4) (idx := 133) (pc' := 68) (st' := [.int x3]) (en := [some (.ref a0), some (.int x1), some (.int x4), some (.int x5)]) (av := [.int x1, .int x4, .int x5]) (vo := fun v => some (.int v)) (mo := fun _ => m) (s2 := fun v => .int v :: [.int x3]) (by decide +kernel) (by decide +kernel) h0 ⟨rfl, rfl, rfl, rfl, rfl, rfl⟩ (fun _ => rfl) (t_205 hN (h0 := h0)) (fun v7 => ?_)
      refine i_max (x := x3) (y := v7) (idx := 103) (pc' := 71) (by decide +kernel) rfl ?_
      refine i_bl (pc' := 72) [(.istore_n 3, 1)] [some (.ref a0), some (.int x1), some (.int x2), some (.int (jmax x3 v7)), some (.int x4), some (.int x5)] [] (by decide +kernel) rfl ?_
      refine i_wb (fun y8 => ev_dn b z 207 72 [some (.ref a0), some (.int x1), some (.int x2), some (.int y8), some (.int x4), some (.int x5)] [] (nx, mem L nx m)) (fun y8 => ?_)
      refine i_bl (pc' := 75) [(.iinc 5 (1), 3)] [some (.ref a0), some (.int x1), some (.int x2), some (.int y8), some (.int x4), some (.int (x5 + 1))] [] (by decide +kernel) rfl ?_
      refine i_wb (fun y9 => ev_dn b z 207 75 [some (.ref a0), some (.int x1), some (.int x2), some (.int y8), some (.int x4), some (.int y9)] [] (nx, mem L nx m)) (fun y9 => ?_)
      refine i_go (t := 36) (off := -39) (by decide +kernel) ?_
      exact i_co () rfl
    · refine i_bl (pc' := 75) [(.iinc 5 (1), 3)] [some (.ref a0), some (.int x1), some (.int x2), some (.int x3), some (.int x4), some (.int (x5 + 1))] [] (by decide +kernel) rfl ?_
      refine i_wb (fun y6 => ev_dn b z 207 75 [some (.ref a0), some (.int x1), some (.int x2), some (.int x3), some (.int x4), some (.int y6)] [] (nx, mem L nx m)) (fun y6 => ?_)
      refine i_go (t := 36) (off := -39) (by decide +kernel) ?_
      exact i_co () rfl

theorem t_207_36 {L nx : Nat} (hN : okn nx) {b z : Nat} {m : Mm} {a0 : Nat} (h0 : ok nx a0 11) {x1 : Int32} {x2 : Int32} {x3 : Int32} {x4 : Int32} {x5 : Int32}  : Im (d_207_36 a0 x1 x2 x4 m x3 x5) (kL (kI L nx m) (E_207_5 L nx b z a0 x1 x2 m)) (ev_dn b z 207 36 [some (.ref a0), some (.int x1), some (.int x2), some (.int x3), some (.int x4), some (.int x5)] [] (nx, mem L nx m)) := by
  exact i_it (f := fun s => s_207_36 a0 x1 x2 x4 m s.1 s.2) (E := E_207_36 L nx b z a0 x1 x2 x4 m) (K := (kL (kI L nx m) (E_207_5 L nx b z a0 x1 x2 m))) (fun d s => u_207_36 hN (h0 := h0)) () (x3, x5)
noncomputable def s_207_5 (a0 : Nat) (x1 : Int32) (x2 : Int32) (m : Mm) (x3 : Int32) (x4 : Int32) : Option ((Int32 × Int32) ⊕ Int32) := (d_193 a0 m).bind fun v1 => if v1 ≤ x4 then (some (.inr x3)) else (if ev_in (x1 + x4) (sh_n (sh_r a0 1)) = true then ((d_196 (m (sh_r a0 1) (ix (x1 + x4)))).bind fun v2 => if v2 = x2 then (d_207_36 a0 x1 x2 x4 m x3 0) else (wb (x4 + 1) fun y10 => some (.inl (x3, y10)))) else none)
noncomputable def d_207_5 (a0 : Nat) (x1 : Int32) (x2 : Int32) (m : Mm) (x3 : Int32) (x4 : Int32) : Option Int32 := it (fun s => s_207_5 a0 x1 x2 m s.1 s.2) (x3, x4)
theorem e_207_5 (a0 : Nat) (x1 : Int32) (x2 : Int32) (m : Mm) (x3 : Int32) (x4 : Int32) : d_207_5 a0 x1 x2 m x3 x4 = oi (s_207_5 a0 x1 x2 m x3 x4) (fun s => d_207_5 a0 x1 x2 m s.1 s.2) := it_eq _
theorem u_207_5 {L nx : Nat} (hN : okn nx) {b z : Nat} {m : Mm} {a0 : Nat} (h0 : ok nx a0 11) {x1 : Int32} {x2 : Int32} {x3 : Int32} {x4 : Int32} {o5 : Option Value} : Im (s_207_5 a0 x1 x2 m x3 x4) (kL (kI L nx m) (E_207_5 L nx b z a0 x1 x2 m)) (ev_dn b z 207 5 [some (.ref a0), some (.int x1), some (.int x2), some (.int x3), some (.int x4), o5] [] (nx, mem L nx m)) := by
  unfold s_207_5
  refine i_bl (pc' := 8) [(.iload 4, 2), (.aload_n 0, 1)] [some (.ref a0), some (.int x1), some (.int x2), some (.int x3), some (.int x4), o5] [.ref a0, .int x4] (by decide +kernel) rfl ?_
  refine i_cv (ci := 11) (t := 193) (na := 1) (ml := 1) (idx := 125) (pc' := 11) (st' := [.int x4]) (en := [some (.ref a0)]) (av := []) (vo := fun v => some (.int v)) (mo := fun _ => m) (s2 := fun v => .int v :: [.int x4]) (by decide +kernel) (by decide +kernel) h0 ⟨rfl, rfl, rfl, rfl, rfl, rfl⟩ (fun _ => rfl) (t_193 hN (h0 := h0)) (fun v1 => ?_)
  refine i_ic (c := .ge) (off := 73) (t := 84) (pc' := 14) (p := v1 ≤ x4) (by decide +kernel) rfl ?_ ?_
  · refine i_bl (pc' := 85) [(.iload_n 3, 1)] [some (.ref a0), some (.int x1), some (.int x2), some (.int x3), some (.int x4), o5] [.int x3] (by decide +kernel) rfl ?_
    exact i_ir (i_ri (by decide +kernel) rfl)
  · refine i_bl (pc' := 15) [(.aload_n 0, 1)] [some (.ref a0), some (.int x1), some (.int x2), some (.int x3), some (.int x4), o5] [.ref a0] (by decide +kernel) rfl ?_
    refine i_gr (idx := 7) (ci := 11) (k := 1) (t := 2) (p := 16234) (pc' := 18) (by decide +kernel) h0 ?_
    refine i_bl (pc' := 22) [(.iload_n 1, 1), (.iload 4, 2), (.iadd, 1)] [some (.ref a0), some (.int x1), some (.int x2), some (.int x3), some (.int x4), o5] [.int (x1 + x4), .ref (sh_r a0 1)] (by decide +kernel) rfl ?_
    refine i_al (pc' := 23) (by decide +kernel) (o_11_1 hN h0) ?_
    refine i_cs (t := 196) (na := 1) (ml := 1) (idx := 111) (pc' := 26) (st' := []) (en := [some (.int (m (sh_r a0 1) (ix (x1 + x4))))]) (av := [.int (m (sh_r a0 1) (ix (x1 + x4)))]) (vo := fun v => some (.int v)) (mo := fun _ => m) (s2 := fun v => .int v :: []) (by decide +kernel) ⟨rfl, rfl, rfl, rfl, rfl, rfl⟩ (fun _ => rfl) (t_196 hN ) (fun v2 => ?_)
    refine i_bl (pc' := 27) [(.iload_n 2, 1)] [some (.ref a0), some (.int x1), some (.int x2), some (.int x3), some (.int x4), o5] [.int x2, .int v2] (by decide +kernel) rfl ?_
    refine i_ic (c := .eq) (off := 6) (t := 33) (pc' := 30) (p := v2 = x2) (by decide +kernel) rfl ?_ ?_
    · refine i_bl (pc' := 36) [(.iconst 0, 1), (.istore 5, 2)] [some (.ref a0), some (.int x1), some (.int x2), some (.int x3), some (.int x4), some (.int 0)] [] (by decide +kernel) rfl ?_
      exact t_207_36 hN (h0 := h0)
    · refine i_go (t := 78) (off := 48) (by decide +kernel) ?_
      refine i_bl (pc' := 81) [(.iinc 4 (1), 3)] [some (.ref a0), some (.int x1), some (.int x2), some (.int x3), some (.int (x4 + 1)), o5] [] (by decide +kernel) rfl ?_
      refine i_wb (fun y10 => ev_dn b z 207 81 [some (.ref a0), some (.int x1), some (.int x2), some (.int x3), some (.int y10), o5] [] (nx, mem L nx m)) (fun y10 => ?_)
      refine i_go (t := 5) (off := -76) (by decide +kernel) ?_
      exact i_co (o5) rfl

theorem t_207_5 {L nx : Nat} (hN : okn nx) {b z : Nat} {m : Mm} {a0 : Nat} (h0 : ok nx a0 11) {x1 : Int32} {x2 : Int32} {x3 : Int32} {x4 : Int32} {o5 : Option Value} : Im (d_207_5 a0 x1 x2 m x3 x4) (kI L nx m) (ev_dn b z 207 5 [some (.ref a0), some (.int x1), some (.int x2), some (.int x3), some (.int x4), o5] [] (nx, mem L nx m)) := by
  exact i_it (f := fun s => s_207_5 a0 x1 x2 m s.1 s.2) (E := E_207_5 L nx b z a0 x1 x2 m) (K := (kI L nx m)) (fun d s => u_207_5 hN (h0 := h0)) (o5) (x3, x4)
noncomputable def d_207 (a0 : Nat) (x1 : Int32) (x2 : Int32) (m : Mm) : Option Int32 := d_207_5 a0 x1 x2 m 0 0
theorem t_207 {L nx : Nat} (hN : okn nx) {b z : Nat} {m : Mm} {a0 : Nat} (h0 : ok nx a0 11) {x1 : Int32} {x2 : Int32}  : Im (d_207 a0 x1 x2 m) (kI L nx m) (ev_dn b z 207 0 [some (.ref a0), some (.int x1), some (.int x2), none, none, none] [] (nx, mem L nx m)) := by
  unfold d_207
  refine i_bl (pc' := 5) [(.iconst 0, 1), (.istore_n 3, 1), (.iconst 0, 1), (.istore 4, 2)] [some (.ref a0), some (.int x1), some (.int x2), some (.int 0), some (.int 0), none] [] (by decide +kernel) rfl ?_
  exact t_207_5 hN (h0 := h0)

/-! 208 LanternChessModel.worthAt(IIII)I -/
noncomputable def d_208 (a0 : Nat) (x1 : Int32) (x2 : Int32) (x3 : Int32) (x4 : Int32) (m : Mm) : Option (Int32 × Mm) := (d_205 a0 x1 x3 x4 m).bind fun v1 => if ev_in (x1 + x3) (sh_n (sh_r a0 1)) = true then (wb (m (sh_r a0 1) (ix (x1 + x3))) fun y2 => if ev_in (x1 + x4) (sh_n (sh_r a0 1)) = true then (wb (m (sh_r a0 1) (ix (x1 + x4))) fun y3 => (d_197 y3).bind fun v4 => if ¬ v4 = 1 then ((d_206 a0 x1 x3 x4 m).bind fun m5 => (d_207 a0 x1 (1 - x2) m5).bind fun v6 => if ev_in (x1 + x3) (sh_n (sh_r a0 1)) = true then (wb (wr m5 (sh_r a0 1) (ix (x1 + x3)) y2) fun m7 => if ev_in (x1 + x4) (sh_n (sh_r a0 1)) = true then (wb (wr m7 (sh_r a0 1) (ix (x1 + x4)) y3) fun m8 => some (v1 - v6, m8)) else none) else none) else (some (v1, m))) else none) else none
theorem t_208 {L nx : Nat} (hN : okn nx) {b z : Nat} {m : Mm} {a0 : Nat} (h0 : ok nx a0 11) {x1 : Int32} {x2 : Int32} {x3 : Int32} {x4 : Int32}  : Im (d_208 a0 x1 x2 x3 x4 m) (wI L nx) (ev_dn b z 208 0 [some (.ref a0), some (.int x1), some (.int x2), some (.int x3), some (.int x4), none, none, none, none] [] (nx, mem L nx m)) := by
  unfold d_208
  refine i_bl (pc' := 5) [(.aload_n 0, 1), (.iload_n 1, 1), (.iload_n 3, 1), (.iload 4, 2)] [some (.ref a0), some (.int x1), some (.int x2), some (.int x3), some (.int x4), none, none, none, none] [.int x4, .int x3, .int x1, .ref a0] (by decide +kernel) rfl ?_
  refine i_cv (ci := 11) (t := 205) (na := 4) (ml := 4) (idx := 133) (pc' := 8) (st' := []) (en := [some (.ref a0), some (.int x1), some (.int x3), some (.int x4)]) (av := [.int x1, .int x3, .int x4]) (vo := fun v => some (.int v)) (mo := fun _ => m) (s2 := fun v => .int v :: []) (by decide +kernel) (by decide +kernel) h0 ⟨rfl, rfl, rfl, rfl, rfl, rfl⟩ (fun _ => rfl) (t_205 hN (h0 := h0)) (fun v1 => ?_)
  refine i_bl (pc' := 11) [(.istore 5, 2), (.aload_n 0, 1)] [some (.ref a0), some (.int x1), some (.int x2), some (.int x3), some (.int x4), some (.int v1), none, none, none] [.ref a0] (by decide +kernel) rfl ?_
  refine i_gr (idx := 7) (ci := 11) (k := 1) (t := 2) (p := 16234) (pc' := 14) (by decide +kernel) h0 ?_
  refine i_bl (pc' := 17) [(.iload_n 1, 1), (.iload_n 3, 1), (.iadd, 1)] [some (.ref a0), some (.int x1), some (.int x2), some (.int x3), some (.int x4), some (.int v1), none, none, none] [.int (x1 + x3), .ref (sh_r a0 1)] (by decide +kernel) rfl ?_
  refine i_al (pc' := 18) (by decide +kernel) (o_11_1 hN h0) ?_
  refine i_bl (pc' := 20) [(.istore 6, 2)] [some (.ref a0), some (.int x1), some (.int x2), some (.int x3), some (.int x4), some (.int v1), some (.int (m (sh_r a0 1) (ix (x1 + x3)))), none, none] [] (by decide +kernel) rfl ?_
  refine i_wb (fun y2 => ev_dn b z 208 20 [some (.ref a0), some (.int x1), some (.int x2), some (.int x3), some (.int x4), some (.int v1), some (.int y2), none, none] [] (nx, mem L nx m)) (fun y2 => ?_)
  refine i_bl (pc' := 21) [(.aload_n 0, 1)] [some (.ref a0), some (.int x1), some (.int x2), some (.int x3), some (.int x4), some (.int v1), some (.int y2), none, none] [.ref a0] (by decide +kernel) rfl ?_
  refine i_gr (idx := 7) (ci := 11) (k := 1) (t := 2) (p := 16234) (pc' := 24) (by decide +kernel) h0 ?_
  refine i_bl (pc' := 28) [(.iload_n 1, 1), (.iload 4, 2), (.iadd, 1)] [some (.ref a0), some (.int x1), some (.int x2), some (.int x3), some (.int x4), some (.int v1), some (.int y2), none, none] [.int (x1 + x4), .ref (sh_r a0 1)] (by decide +kernel) rfl ?_
  refine i_al (pc' := 29) (by decide +kernel) (o_11_1 hN h0) ?_
  refine i_bl (pc' := 31) [(.istore 7, 2)] [some (.ref a0), some (.int x1), some (.int x2), some (.int x3), some (.int x4), some (.int v1), some (.int y2), some (.int (m (sh_r a0 1) (ix (x1 + x4)))), none] [] (by decide +kernel) rfl ?_
  refine i_wb (fun y3 => ev_dn b z 208 31 [some (.ref a0), some (.int x1), some (.int x2), some (.int x3), some (.int x4), some (.int v1), some (.int y2), some (.int y3), none] [] (nx, mem L nx m)) (fun y3 => ?_)
  refine i_bl (pc' := 33) [(.iload 7, 2)] [some (.ref a0), some (.int x1), some (.int x2), some (.int x3), some (.int x4), some (.int v1), some (.int y2), some (.int y3), none] [.int y3] (by decide +kernel) rfl ?_
  refine i_cs (t := 197) (na := 1) (ml := 1) (idx := 100) (pc' := 36) (st' := []) (en := [some (.int y3)]) (av := [.int y3]) (vo := fun v => some (.int v)) (mo := fun _ => m) (s2 := fun v => .int v :: []) (by decide +kernel) ⟨rfl, rfl, rfl, rfl, rfl, rfl⟩ (fun _ => rfl) (t_197 hN ) (fun v4 => ?_)
  refine i_bl (pc' := 37) [(.iconst 1, 1)] [some (.ref a0), some (.int x1), some (.int x2), some (.int x3), some (.int x4), some (.int v1), some (.int y2), some (.int y3), none] [.int 1, .int v4] (by decide +kernel) rfl ?_
  refine i_ic (c := .ne) (off := 6) (t := 43) (pc' := 40) (p := ¬ v4 = 1) (by decide +kernel) rfl ?_ ?_
  · refine i_bl (pc' := 48) [(.aload_n 0, 1), (.iload_n 1, 1), (.iload_n 3, 1), (.iload 4, 2)] [some (.ref a0), some (.int x1), some (.int x2), some (.int x3), some (.int x4), some (.int v1), some (.int y2), some (.int y3), none] [.int x4, .int x3, .int x1, .ref a0] (by decide +kernel) rfl ?_
    refine i_cv (ci := 11) (t := 206) (na := 4) (ml := 5) (idx := 137) (pc' := 51) (st' := []) (en := [some (.ref a0), some (.int x1), some (.int x3), some (.int x4), none]) (av := [.int x1, .int x3, .int x4]) (vo := fun _ => none) (mo := fun m => m) (s2 := fun _ => []) (by decide +kernel) (by decide +kernel) h0 ⟨rfl, rfl, rfl, rfl, rfl, rfl⟩ (fun _ => rfl) (t_206 hN (h0 := h0)) (fun m5 => ?_)
    refine i_bl (pc' := 56) [(.aload_n 0, 1), (.iload_n 1, 1), (.iconst 1, 1), (.iload_n 2, 1), (.isub, 1)] [some (.ref a0), some (.int x1), some (.int x2), some (.int x3), some (.int x4), some (.int v1), some (.int y2), some (.int y3), none] [.int (1 - x2), .int x1, .ref a0] (by decide +kernel) rfl ?_
    refine i_cv (ci := 11) (t := 207) (na := 3) (ml := 6) (idx := 141) (pc' := 59) (st' := []) (en := [some (.ref a0), some (.int x1), some (.int (1 - x2)), none, none, none]) (av := [.int x1, .int (1 - x2)]) (vo := fun v => some (.int v)) (mo := fun _ => m5) (s2 := fun v => .int v :: []) (by decide +kernel) (by decide +kernel) h0 ⟨rfl, rfl, rfl, rfl, rfl, rfl⟩ (fun _ => rfl) (t_207 hN (h0 := h0)) (fun v6 => ?_)
    refine i_bl (pc' := 62) [(.istore 8, 2), (.aload_n 0, 1)] [some (.ref a0), some (.int x1), some (.int x2), some (.int x3), some (.int x4), some (.int v1), some (.int y2), some (.int y3), some (.int v6)] [.ref a0] (by decide +kernel) rfl ?_
    refine i_gr (idx := 7) (ci := 11) (k := 1) (t := 2) (p := 16234) (pc' := 65) (by decide +kernel) h0 ?_
    refine i_bl (pc' := 70) [(.iload_n 1, 1), (.iload_n 3, 1), (.iadd, 1), (.iload 6, 2)] [some (.ref a0), some (.int x1), some (.int x2), some (.int x3), some (.int x4), some (.int v1), some (.int y2), some (.int y3), some (.int v6)] [.int y2, .int (x1 + x3), .ref (sh_r a0 1)] (by decide +kernel) rfl ?_
    refine i_as (y := y2) (pc' := 71) (by decide +kernel) (o_11_1 hN h0) (fun m7 => ?_)
    refine i_bl (pc' := 72) [(.aload_n 0, 1)] [some (.ref a0), some (.int x1), some (.int x2), some (.int x3), some (.int x4), some (.int v1), some (.int y2), some (.int y3), some (.int v6)] [.ref a0] (by decide +kernel) rfl ?_
    refine i_gr (idx := 7) (ci := 11) (k := 1) (t := 2) (p := 16234) (pc' := 75) (by decide +kernel) h0 ?_
    refine i_bl (pc' := 81) [(.iload_n 1, 1), (.iload 4, 2), (.iadd, 1), (.iload 7, 2)] [some (.ref a0), some (.int x1), some (.int x2), some (.int x3), some (.int x4), some (.int v1), some (.int y2), some (.int y3), some (.int v6)] [.int y3, .int (x1 + x4), .ref (sh_r a0 1)] (by decide +kernel) rfl ?_
    refine i_as (y := y3) (pc' := 82) (by decide +kernel) (o_11_1 hN h0) (fun m8 => ?_)
    refine i_bl (pc' := 87) [(.iload 5, 2), (.iload 8, 2), (.isub, 1)] [some (.ref a0), some (.int x1), some (.int x2), some (.int x3), some (.int x4), some (.int v1), some (.int y2), some (.int y3), some (.int v6)] [.int (v1 - v6)] (by decide +kernel) rfl ?_
    exact i_ri (by decide +kernel) rfl
  · refine i_bl (pc' := 42) [(.iload 5, 2)] [some (.ref a0), some (.int x1), some (.int x2), some (.int x3), some (.int x4), some (.int v1), some (.int y2), some (.int y3), none] [.int v1] (by decide +kernel) rfl ?_
    exact i_ri (by decide +kernel) rfl

/-! 209 LanternChessModel.sumAt(I)I -/
noncomputable def E_209_4 (L nx b z : Nat) (a0 : Nat) (x1 : Int32) (m : Mm) (d : Unit) (s : (Int32 × Int32)) : ev_Q := ev_dn b z 209 4 [some (.ref a0), some (.int x1), some (.int s.1), some (.int s.2)] [] (nx, mem L nx m)
noncomputable def s_209_4 (a0 : Nat) (x1 : Int32) (m : Mm) (x2 : Int32) (x3 : Int32) : Option ((Int32 × Int32) ⊕ Int32) := (d_193 a0 m).bind fun v1 => if v1 ≤ x3 then (some (.inr x2)) else (if ev_in (x1 + x3) (sh_n (sh_r a0 1)) = true then (wb (x2 + ((x3 + 1) * (m (sh_r a0 1) (ix (x1 + x3))))) fun y2 => wb (x3 + 1) fun y3 => some (.inl (y2, y3))) else none)
noncomputable def d_209_4 (a0 : Nat) (x1 : Int32) (m : Mm) (x2 : Int32) (x3 : Int32) : Option Int32 := it (fun s => s_209_4 a0 x1 m s.1 s.2) (x2, x3)
theorem e_209_4 (a0 : Nat) (x1 : Int32) (m : Mm) (x2 : Int32) (x3 : Int32) : d_209_4 a0 x1 m x2 x3 = oi (s_209_4 a0 x1 m x2 x3) (fun s => d_209_4 a0 x1 m s.1 s.2) := it_eq _
theorem u_209_4 {L nx : Nat} (hN : okn nx) {b z : Nat} {m : Mm} {a0 : Nat} (h0 : ok nx a0 11) {x1 : Int32} {x2 : Int32} {x3 : Int32}  : Im (s_209_4 a0 x1 m x2 x3) (kL (kI L nx m) (E_209_4 L nx b z a0 x1 m)) (ev_dn b z 209 4 [some (.ref a0), some (.int x1), some (.int x2), some (.int x3)] [] (nx, mem L nx m)) := by
  unfold s_209_4
  refine i_bl (pc' := 6) [(.iload_n 3, 1), (.aload_n 0, 1)] [some (.ref a0), some (.int x1), some (.int x2), some (.int x3)] [.ref a0, .int x3] (by decide +kernel) rfl ?_
  refine i_cv (ci := 11) (t := 193) (na := 1) (ml := 1) (idx := 125) (pc' := 9) (st' := [.int x3]) (en := [some (.ref a0)]) (av := []) (vo := fun v => some (.int v)) (mo := fun _ => m) (s2 := fun v => .int v :: [.int x3]) (by decide +kernel) (by decide +kernel) h0 ⟨rfl, rfl, rfl, rfl, rfl, rfl⟩ (fun _ => rfl) (t_193 hN (h0 := h0)) (fun v1 => ?_)
  refine i_ic (c := .ge) (off := 24) (t := 33) (pc' := 12) (p := v1 ≤ x3) (by decide +kernel) rfl ?_ ?_
  · refine i_bl (pc' := 34) [(.iload_n 2, 1)] [some (.ref a0), some (.int x1), some (.int x2), some (.int x3)] [.int x2] (by decide +kernel) rfl ?_
    exact i_ir (i_ri (by decide +kernel) rfl)
  · refine i_bl (pc' := 17) [(.iload_n 2, 1), (.iload_n 3, 1), (.iconst 1, 1), (.iadd, 1), (.aload_n 0, 1)] [some (.ref a0), some (.int x1), some (.int x2), some (.int x3)] [.ref a0, .int (x3 + 1), .int x2] (by decide +kernel) rfl ?_
    refine i_gr (idx := 7) (ci := 11) (k := 1) (t := 2) (p := 16234) (pc' := 20) (by decide +kernel) h0 ?_
    refine i_bl (pc' := 23) [(.iload_n 1, 1), (.iload_n 3, 1), (.iadd, 1)] [some (.ref a0), some (.int x1), some (.int x2), some (.int x3)] [.int (x1 + x3), .ref (sh_r a0 1), .int (x3 + 1), .int x2] (by decide +kernel) rfl ?_
    refine i_al (pc' := 24) (by decide +kernel) (o_11_1 hN h0) ?_
    refine i_bl (pc' := 27) [(.imul, 1), (.iadd, 1), (.istore_n 2, 1)] [some (.ref a0), some (.int x1), some (.int (x2 + ((x3 + 1) * (m (sh_r a0 1) (ix (x1 + x3)))))), some (.int x3)] [] (by decide +kernel) rfl ?_
    refine i_wb (fun y2 => ev_dn b z 209 27 [some (.ref a0), some (.int x1), some (.int y2), some (.int x3)] [] (nx, mem L nx m)) (fun y2 => ?_)
    refine i_bl (pc' := 30) [(.iinc 3 (1), 3)] [some (.ref a0), some (.int x1), some (.int y2), some (.int (x3 + 1))] [] (by decide +kernel) rfl ?_
    refine i_wb (fun y3 => ev_dn b z 209 30 [some (.ref a0), some (.int x1), some (.int y2), some (.int y3)] [] (nx, mem L nx m)) (fun y3 => ?_)
    refine i_go (t := 4) (off := -26) (by decide +kernel) ?_
    exact i_co () rfl

theorem t_209_4 {L nx : Nat} (hN : okn nx) {b z : Nat} {m : Mm} {a0 : Nat} (h0 : ok nx a0 11) {x1 : Int32} {x2 : Int32} {x3 : Int32}  : Im (d_209_4 a0 x1 m x2 x3) (kI L nx m) (ev_dn b z 209 4 [some (.ref a0), some (.int x1), some (.int x2), some (.int x3)] [] (nx, mem L nx m)) := by
  exact i_it (f := fun s => s_209_4 a0 x1 m s.1 s.2) (E := E_209_4 L nx b z a0 x1 m) (K := (kI L nx m)) (fun d s => u_209_4 hN (h0 := h0)) () (x2, x3)
noncomputable def d_209 (a0 : Nat) (x1 : Int32) (m : Mm) : Option Int32 := d_209_4 a0 x1 m 0 0
theorem t_209 {L nx : Nat} (hN : okn nx) {b z : Nat} {m : Mm} {a0 : Nat} (h0 : ok nx a0 11) {x1 : Int32}  : Im (d_209 a0 x1 m) (kI L nx m) (ev_dn b z 209 0 [some (.ref a0), some (.int x1), none, none] [] (nx, mem L nx m)) := by
  unfold d_209
  refine i_bl (pc' := 4) [(.iconst 0, 1), (.istore_n 2, 1), (.iconst 0, 1), (.istore_n 3, 1)] [some (.ref a0), some (.int x1), some (.int 0), some (.int 0)] [] (by decide +kernel) rfl ?_
  exact t_209_4 hN (h0 := h0)

/-! 210 LanternChessModel.laysMoves(II)I -/
noncomputable def E_210_5 (L nx b z : Nat) (a0 : Nat) (x1 : Int32) (x2 : Int32) (d : Option Value) (s : (Int32 × Int32 × Mm)) : ev_Q := ev_dn b z 210 5 [some (.ref a0), some (.int x1), some (.int x2), some (.int s.1), some (.int s.2.1), d] [] (nx, mem L nx s.2.2)
noncomputable def E_210_17 (L nx b z : Nat) (a0 : Nat) (x1 : Int32) (x2 : Int32) (x4 : Int32) (d : Unit) (s : (Int32 × Int32 × Mm)) : ev_Q := ev_dn b z 210 17 [some (.ref a0), some (.int x1), some (.int x2), some (.int s.1), some (.int x4), some (.int s.2.1)] [] (nx, mem L nx s.2.2)
noncomputable def s_210_17 (a0 : Nat) (x1 : Int32) (x2 : Int32) (x4 : Int32) (x3 : Int32) (x5 : Int32) (m : Mm) : Option ((Int32 × Int32 × Mm) ⊕ ((Int32 × Int32 × Mm) ⊕ (Int32 × Mm))) := (d_193 a0 m).bind fun v2 => if v2 ≤ x5 then (wb (x4 + 1) fun y3 => some (.inr (.inl (x3, y3, m)))) else ((d_203 a0 x1 x2 x4 x5 m).bind fun v4 => if v4 = true then (if ev_in x3 (sh_n (sh_r a0 10)) = true then (wb (wr m (sh_r a0 10) (ix x3) x4) fun m5 => if ev_in x3 (sh_n (sh_r a0 11)) = true then (wb (wr m5 (sh_r a0 11) (ix x3) x5) fun m6 => wb (x3 + 1) fun y7 => wb (x5 + 1) fun y8 => some (.inl (y7, y8, m6))) else none) else none) else (wb (x5 + 1) fun y9 => some (.inl (x3, y9, m))))
noncomputable def d_210_17 (a0 : Nat) (x1 : Int32) (x2 : Int32) (x4 : Int32) (x3 : Int32) (x5 : Int32) (m : Mm) : Option ((Int32 × Int32 × Mm) ⊕ (Int32 × Mm)) := it (fun s => s_210_17 a0 x1 x2 x4 s.1 s.2.1 s.2.2) (x3, x5, m)
theorem e_210_17 (a0 : Nat) (x1 : Int32) (x2 : Int32) (x4 : Int32) (x3 : Int32) (x5 : Int32) (m : Mm) : d_210_17 a0 x1 x2 x4 x3 x5 m = oi (s_210_17 a0 x1 x2 x4 x3 x5 m) (fun s => d_210_17 a0 x1 x2 x4 s.1 s.2.1 s.2.2) := it_eq _
theorem u_210_17 {L nx : Nat} (hN : okn nx) {b z : Nat} {m : Mm} {a0 : Nat} (h0 : ok nx a0 11) {x1 : Int32} {x2 : Int32} {x3 : Int32} {x4 : Int32} {x5 : Int32}  : Im (s_210_17 a0 x1 x2 x4 x3 x5 m) (kL (kL (wI L nx) (E_210_5 L nx b z a0 x1 x2)) (E_210_17 L nx b z a0 x1 x2 x4)) (ev_dn b z 210 17 [some (.ref a0), some (.int x1), some (.int x2), some (.int x3), some (.int x4), some (.int x5)] [] (nx, mem L nx m)) := by
  unfold s_210_17
  refine i_bl (pc' := 20) [(.iload 5, 2), (.aload_n 0, 1)] [some (.ref a0), some (.int x1), some (.int x2), some (.int x3), some (.int x4), some (.int x5)] [.ref a0, .int x5] (by decide +kernel) rfl ?_
  refine i_cv (ci := 11) (t := 193) (na := 1) (ml := 1) (idx := 125) (pc' := 23) (st' := [.int x5]) (en := [some (.ref a0)]) (av := []) (vo := fun v => some (.int v)) (mo := fun _ => m) (s2 := fun v => .int v :: [.int x5]) (by decide +kernel) (by decide +kernel) h0 ⟨rfl, rfl, rfl, rfl, rfl, rfl⟩ (fun _ => rfl) (t_193 hN (h0 := h0)) (fun v2 => ?_)
  refine i_ic (c := .ge) (off := 45) (t := 68) (pc' := 26) (p := v2 ≤ x5) (by decide +kernel) rfl ?_ ?_
  · refine i_bl (pc' := 71) [(.iinc 4 (1), 3)] [some (.ref a0), some (.int x1), some (.int x2), some (.int x3), some (.int (x4 + 1)), some (.int x5)] [] (by decide +kernel) rfl ?_
    refine i_wb (fun y3 => ev_dn b z 210 71 [some (.ref a0), some (.int x1), some (.int x2), some (.int x3), some (.int y3), some (.int x5)] [] (nx, mem L nx m)) (fun y3 => ?_)
    refine i_go (t := 5) (off := -66) (by decide +kernel) ?_
    exact i_ir (i_co (some (.int x5)) rfl)
  · refine i_bl (pc' := 33) [(.aload_n 0, 1), (.iload_n 1, 1), (.iload_n 2, 1), (.iload 4, 2), (.iload 5, 2)] [some (.ref a0), some (.int x1), some (.int x2), some (.int x3), some (.int x4), some (.int x5)] [.int x5, .int x4, .int x2, .int x1, .ref a0] (by decide +kernel) rfl ?_
    refine i_cv (ci := 11) (t := 203) (na := 5) (ml := 7) (idx := 129) (pc' := 36) (st' := []) (en := [some (.ref a0), some (.int x1), some (.int x2), some (.int x4), some (.int x5), none, none]) (av := [.int x1, .int x2, .int x4, .int x5]) (vo := fun v => some (.int (bi v))) (mo := fun _ => m) (s2 := fun v => .int (bi v) :: []) (by decide +kernel) (by decide +kernel) h0 ⟨rfl, rfl, rfl, rfl, rfl, rfl⟩ (fun _ => rfl) (t_203 hN (h0 := h0)) (fun v4 => ?_)
    refine i_bn (off := 6) (t := 42) (pc' := 39) (by decide +kernel) ?_ ?_
    · refine i_bl (pc' := 43) [(.aload_n 0, 1)] [some (.ref a0), some (.int x1), some (.int x2), some (.int x3), some (.int x4), some (.int x5)] [.ref a0] (by decide +kernel) rfl ?_
      refine i_gr (idx := 31) (ci := 11) (k := 10) (t := 2) (p := 17003) (pc' := 46) (by decide +kernel) h0 ?_
      refine i_bl (pc' := 49) [(.iload_n 3, 1), (.iload 4, 2)] [some (.ref a0), some (.int x1), some (.int x2), some (.int x3), some (.int x4), some (.int x5)] [.int x4, .int x3, .ref (sh_r a0 10)] (by decide +kernel) rfl ?_
      refine i_as (y := x4) (pc' := 50) (by decide +kernel) (o_11_10 hN h0) (fun m5 => ?_)
      refine i_bl (pc' := 51) [(.aload_n 0, 1)] [some (.ref a0), some (.int x1), some (.int x2), some (.int x3), some (.int x4), some (.int x5)] [.ref a0] (by decide +kernel) rfl ?_
      refine i_gr (idx := 34) (ci := 11) (k := 11) (t := 2) (p := 17004) (pc' := 54) (by decide +kernel) h0 ?_
      refine i_bl (pc' := 57) [(.iload_n 3, 1), (.iload 5, 2)] [some (.ref a0), some (.int x1), some (.int x2), some (.int x3), some (.int x4), some (.int x5)] [.int x5, .int x3, .ref (sh_r a0 11)] (by decide +kernel) rfl ?_
      refine i_as (y := x5) (pc' := 58) (by decide +kernel) (o_11_11 hN h0) (fun m6 => ?_)
      refine i_bl (pc' := 62) [(.iload_n 3, 1), (.iconst 1, 1), (.iadd, 1), (.istore_n 3, 1)] [some (.ref a0), some (.int x1), some (.int x2), some (.int (x3 + 1)), some (.int x4), some (.int x5)] [] (by decide +kernel) rfl ?_
      refine i_wb (fun y7 => ev_dn b z 210 62 [some (.ref a0), some (.int x1), some (.int x2), some (.int y7), some (.int x4), some (.int x5)] [] (nx, mem L nx m6)) (fun y7 => ?_)
      refine i_bl (pc' := 65) [(.iinc 5 (1), 3)] [some (.ref a0), some (.int x1), some (.int x2), some (.int y7), some (.int x4), some (.int (x5 + 1))] [] (by decide +kernel) rfl ?_
      refine i_wb (fun y8 => ev_dn b z 210 65 [some (.ref a0), some (.int x1), some (.int x2), some (.int y7), some (.int x4), some (.int y8)] [] (nx, mem L nx m6)) (fun y8 => ?_)
      refine i_go (t := 17) (off := -48) (by decide +kernel) ?_
      exact i_co () rfl
    · refine i_go (t := 62) (off := 23) (by decide +kernel) ?_
      refine i_bl (pc' := 65) [(.iinc 5 (1), 3)] [some (.ref a0), some (.int x1), some (.int x2), some (.int x3), some (.int x4), some (.int (x5 + 1))] [] (by decide +kernel) rfl ?_
      refine i_wb (fun y9 => ev_dn b z 210 65 [some (.ref a0), some (.int x1), some (.int x2), some (.int x3), some (.int x4), some (.int y9)] [] (nx, mem L nx m)) (fun y9 => ?_)
      refine i_go (t := 17) (off := -48) (by decide +kernel) ?_
      exact i_co () rfl

theorem t_210_17 {L nx : Nat} (hN : okn nx) {b z : Nat} {m : Mm} {a0 : Nat} (h0 : ok nx a0 11) {x1 : Int32} {x2 : Int32} {x3 : Int32} {x4 : Int32} {x5 : Int32}  : Im (d_210_17 a0 x1 x2 x4 x3 x5 m) (kL (wI L nx) (E_210_5 L nx b z a0 x1 x2)) (ev_dn b z 210 17 [some (.ref a0), some (.int x1), some (.int x2), some (.int x3), some (.int x4), some (.int x5)] [] (nx, mem L nx m)) := by
  exact i_it (f := fun s => s_210_17 a0 x1 x2 x4 s.1 s.2.1 s.2.2) (E := E_210_17 L nx b z a0 x1 x2 x4) (K := (kL (wI L nx) (E_210_5 L nx b z a0 x1 x2))) (fun d s => u_210_17 hN (h0 := h0)) () (x3, x5, m)
noncomputable def s_210_5 (a0 : Nat) (x1 : Int32) (x2 : Int32) (x3 : Int32) (x4 : Int32) (m : Mm) : Option ((Int32 × Int32 × Mm) ⊕ (Int32 × Mm)) := (d_193 a0 m).bind fun v1 => if v1 ≤ x4 then (some (.inr (x3, m))) else (d_210_17 a0 x1 x2 x4 x3 0 m)
noncomputable def d_210_5 (a0 : Nat) (x1 : Int32) (x2 : Int32) (x3 : Int32) (x4 : Int32) (m : Mm) : Option (Int32 × Mm) := it (fun s => s_210_5 a0 x1 x2 s.1 s.2.1 s.2.2) (x3, x4, m)
theorem e_210_5 (a0 : Nat) (x1 : Int32) (x2 : Int32) (x3 : Int32) (x4 : Int32) (m : Mm) : d_210_5 a0 x1 x2 x3 x4 m = oi (s_210_5 a0 x1 x2 x3 x4 m) (fun s => d_210_5 a0 x1 x2 s.1 s.2.1 s.2.2) := it_eq _
theorem u_210_5 {L nx : Nat} (hN : okn nx) {b z : Nat} {m : Mm} {a0 : Nat} (h0 : ok nx a0 11) {x1 : Int32} {x2 : Int32} {x3 : Int32} {x4 : Int32} {o5 : Option Value} : Im (s_210_5 a0 x1 x2 x3 x4 m) (kL (wI L nx) (E_210_5 L nx b z a0 x1 x2)) (ev_dn b z 210 5 [some (.ref a0), some (.int x1), some (.int x2), some (.int x3), some (.int x4), o5] [] (nx, mem L nx m)) := by
  unfold s_210_5
  refine i_bl (pc' := 8) [(.iload 4, 2), (.aload_n 0, 1)] [some (.ref a0), some (.int x1), some (.int x2), some (.int x3), some (.int x4), o5] [.ref a0, .int x4] (by decide +kernel) rfl ?_
  refine i_cv (ci := 11) (t := 193) (na := 1) (ml := 1) (idx := 125) (pc' := 11) (st' := [.int x4]) (en := [some (.ref a0)]) (av := []) (vo := fun v => some (.int v)) (mo := fun _ => m) (s2 := fun v => .int v :: [.int x4]) (by decide +kernel) (by decide +kernel) h0 ⟨rfl, rfl, rfl, rfl, rfl, rfl⟩ (fun _ => rfl) (t_193 hN (h0 := h0)) (fun v1 => ?_)
  refine i_ic (c := .ge) (off := 63) (t := 74) (pc' := 14) (p := v1 ≤ x4) (by decide +kernel) rfl ?_ ?_
  · refine i_bl (pc' := 75) [(.iload_n 3, 1)] [some (.ref a0), some (.int x1), some (.int x2), some (.int x3), some (.int x4), o5] [.int x3] (by decide +kernel) rfl ?_
    exact i_ir (i_ri (by decide +kernel) rfl)
  · refine i_bl (pc' := 17) [(.iconst 0, 1), (.istore 5, 2)] [some (.ref a0), some (.int x1), some (.int x2), some (.int x3), some (.int x4), some (.int 0)] [] (by decide +kernel) rfl ?_
    exact t_210_17 hN (h0 := h0)

theorem t_210_5 {L nx : Nat} (hN : okn nx) {b z : Nat} {m : Mm} {a0 : Nat} (h0 : ok nx a0 11) {x1 : Int32} {x2 : Int32} {x3 : Int32} {x4 : Int32} {o5 : Option Value} : Im (d_210_5 a0 x1 x2 x3 x4 m) (wI L nx) (ev_dn b z 210 5 [some (.ref a0), some (.int x1), some (.int x2), some (.int x3), some (.int x4), o5] [] (nx, mem L nx m)) := by
  exact i_it (f := fun s => s_210_5 a0 x1 x2 s.1 s.2.1 s.2.2) (E := E_210_5 L nx b z a0 x1 x2) (K := (wI L nx)) (fun d s => u_210_5 hN (h0 := h0)) (o5) (x3, x4, m)
noncomputable def d_210 (a0 : Nat) (x1 : Int32) (x2 : Int32) (m : Mm) : Option (Int32 × Mm) := d_210_5 a0 x1 x2 0 0 m
theorem t_210 {L nx : Nat} (hN : okn nx) {b z : Nat} {m : Mm} {a0 : Nat} (h0 : ok nx a0 11) {x1 : Int32} {x2 : Int32}  : Im (d_210 a0 x1 x2 m) (wI L nx) (ev_dn b z 210 0 [some (.ref a0), some (.int x1), some (.int x2), none, none, none] [] (nx, mem L nx m)) := by
  unfold d_210
  refine i_bl (pc' := 5) [(.iconst 0, 1), (.istore_n 3, 1), (.iconst 0, 1), (.istore 4, 2)] [some (.ref a0), some (.int x1), some (.int x2), some (.int 0), some (.int 0), none] [] (by decide +kernel) rfl ?_
  exact t_210_5 hN (h0 := h0)

/-! 211 LanternChessModel.part(IIII)I -/
noncomputable def d_211 (a0 : Nat) (x1 : Int32) (x2 : Int32) (x3 : Int32) (x4 : Int32) (m : Mm) : Option (Int32 × Mm) := if ¬ x4 = 0 then (if ¬ x4 = 1 then (if ¬ x4 = 2 then (if ev_in x3 (sh_n (sh_r a0 10)) = true then (if ev_in x3 (sh_n (sh_r a0 11)) = true then ((d_208 a0 x1 x2 (m (sh_r a0 10) (ix x3)) (m (sh_r a0 11) (ix x3)) m).bind fun r1 => some (r1.1, r1.2)) else none) else none) else (if ev_in x3 (sh_n (sh_r a0 10)) = true then (if ev_in x3 (sh_n (sh_r a0 11)) = true then ((d_205 a0 x1 (m (sh_r a0 10) (ix x3)) (m (sh_r a0 11) (ix x3)) m).bind fun v2 => some (v2, m)) else none) else none)) else (if ev_in x3 (sh_n (sh_r a0 11)) = true then (some (m (sh_r a0 11) (ix x3), m)) else none)) else (if ev_in x3 (sh_n (sh_r a0 10)) = true then (some (m (sh_r a0 10) (ix x3), m)) else none)
theorem t_211 {L nx : Nat} (hN : okn nx) {b z : Nat} {m : Mm} {a0 : Nat} (h0 : ok nx a0 11) {x1 : Int32} {x2 : Int32} {x3 : Int32} {x4 : Int32}  : Im (d_211 a0 x1 x2 x3 x4 m) (wI L nx) (ev_dn b z 211 0 [some (.ref a0), some (.int x1), some (.int x2), some (.int x3), some (.int x4)] [] (nx, mem L nx m)) := by
  unfold d_211
  refine i_bl (pc' := 2) [(.iload 4, 2)] [some (.ref a0), some (.int x1), some (.int x2), some (.int x3), some (.int x4)] [.int x4] (by decide +kernel) rfl ?_
  refine i_if (c := .ne) (off := 10) (t := 12) (pc' := 5) (p := ¬ x4 = 0) (by decide +kernel) rfl ?_ ?_
  · refine i_bl (pc' := 15) [(.iload 4, 2), (.iconst 1, 1)] [some (.ref a0), some (.int x1), some (.int x2), some (.int x3), some (.int x4)] [.int 1, .int x4] (by decide +kernel) rfl ?_
    refine i_ic (c := .ne) (off := 10) (t := 25) (pc' := 18) (p := ¬ x4 = 1) (by decide +kernel) rfl ?_ ?_
    · refine i_bl (pc' := 28) [(.iload 4, 2), (.iconst 2, 1)] [some (.ref a0), some (.int x1), some (.int x2), some (.int x3), some (.int x4)] [.int 2, .int x4] (by decide +kernel) rfl ?_
      refine i_ic (c := .ne) (off := 23) (t := 51) (pc' := 31) (p := ¬ x4 = 2) (by decide +kernel) rfl ?_ ?_
      · refine i_bl (pc' := 55) [(.aload_n 0, 1), (.iload_n 1, 1), (.iload_n 2, 1), (.aload_n 0, 1)] [some (.ref a0), some (.int x1), some (.int x2), some (.int x3), some (.int x4)] [.ref a0, .int x2, .int x1, .ref a0] (by decide +kernel) rfl ?_
        refine i_gr (idx := 31) (ci := 11) (k := 10) (t := 2) (p := 17003) (pc' := 58) (by decide +kernel) h0 ?_
        refine i_bl (pc' := 59) [(.iload_n 3, 1)] [some (.ref a0), some (.int x1), some (.int x2), some (.int x3), some (.int x4)] [.int x3, .ref (sh_r a0 10), .int x2, .int x1, .ref a0] (by decide +kernel) rfl ?_
        refine i_al (pc' := 60) (by decide +kernel) (o_11_10 hN h0) ?_
        refine i_bl (pc' := 61) [(.aload_n 0, 1)] [some (.ref a0), some (.int x1), some (.int x2), some (.int x3), some (.int x4)] [.ref a0, .int (m (sh_r a0 10) (ix x3)), .int x2, .int x1, .ref a0] (by decide +kernel) rfl ?_
        refine i_gr (idx := 34) (ci := 11) (k := 11) (t := 2) (p := 17004) (pc' := 64) (by decide +kernel) h0 ?_
        refine i_bl (pc' := 65) [(.iload_n 3, 1)] [some (.ref a0), some (.int x1), some (.int x2), some (.int x3), some (.int x4)] [.int x3, .ref (sh_r a0 11), .int (m (sh_r a0 10) (ix x3)), .int x2, .int x1, .ref a0] (by decide +kernel) rfl ?_
        refine i_al (pc' := 66) (by decide +kernel) (o_11_11 hN h0) ?_
        refine i_cv (ci := 11) (t := 208) (na := 5) (ml := 9) (idx := 144) (pc' := 69) (st' := []) (en := [some (.ref a0), some (.int x1), some (.int x2), some (.int (m (sh_r a0 10) (ix x3))), some (.int (m (sh_r a0 11) (ix x3))), none, none, none, none]) (av := [.int x1, .int x2, .int (m (sh_r a0 10) (ix x3)), .int (m (sh_r a0 11) (ix x3))]) (vo := fun v => some (.int v.1)) (mo := fun v => v.2) (s2 := fun v => .int v.1 :: []) (by decide +kernel) (by decide +kernel) h0 ⟨rfl, rfl, rfl, rfl, rfl, rfl⟩ (fun _ => rfl) (t_208 hN (h0 := h0)) (fun r1 => ?_)
        exact i_ri (by decide +kernel) rfl
      · refine i_bl (pc' := 34) [(.aload_n 0, 1), (.iload_n 1, 1), (.aload_n 0, 1)] [some (.ref a0), some (.int x1), some (.int x2), some (.int x3), some (.int x4)] [.ref a0, .int x1, .ref a0] (by decide +kernel) rfl ?_
        refine i_gr (idx := 31) (ci := 11) (k := 10) (t := 2) (p := 17003) (pc' := 37) (by decide +kernel) h0 ?_
        refine i_bl (pc' := 38) [(.iload_n 3, 1)] [some (.ref a0), some (.int x1), some (.int x2), some (.int x3), some (.int x4)] [.int x3, .ref (sh_r a0 10), .int x1, .ref a0] (by decide +kernel) rfl ?_
        refine i_al (pc' := 39) (by decide +kernel) (o_11_10 hN h0) ?_
        refine i_bl (pc' := 40) [(.aload_n 0, 1)] [some (.ref a0), some (.int x1), some (.int x2), some (.int x3), some (.int x4)] [.ref a0, .int (m (sh_r a0 10) (ix x3)), .int x1, .ref a0] (by decide +kernel) rfl ?_
        refine i_gr (idx := 34) (ci := 11) (k := 11) (t := 2) (p := 17004) (pc' := 43) (by decide +kernel) h0 ?_
        refine i_bl (pc' := 44) [(.iload_n 3, 1)] [some (.ref a0), some (.int x1), some (.int x2), some (.int x3), some (.int x4)] [.int x3, .ref (sh_r a0 11), .int (m (sh_r a0 10) (ix x3)), .int x1, .ref a0] (by decide +kernel) rfl ?_
        refine i_al (pc' := 45) (by decide +kernel) (o_11_11 hN h0) ?_
        refine i_cv (ci := 11) (t := 205) (na := 4) (ml := 4) (idx := 133) (pc' := 48) (st' := []) (en := [some (.ref a0), some (.int x1), some (.int (m (sh_r a0 10) (ix x3))), some (.int (m (sh_r a0 11) (ix x3)))]) (av := [.int x1, .int (m (sh_r a0 10) (ix x3)), .int (m (sh_r a0 11) (ix x3))]) (vo := fun v => some (.int v)) (mo := fun _ => m) (s2 := fun v => .int v :: []) (by decide +kernel) (by decide +kernel) h0 ⟨rfl, rfl, rfl, rfl, rfl, rfl⟩ (fun _ => rfl) (t_205 hN (h0 := h0)) (fun v2 => ?_)
        refine i_go (t := 69) (off := 21) (by decide +kernel) ?_
        exact i_ri (by decide +kernel) rfl
    · refine i_bl (pc' := 19) [(.aload_n 0, 1)] [some (.ref a0), some (.int x1), some (.int x2), some (.int x3), some (.int x4)] [.ref a0] (by decide +kernel) rfl ?_
      refine i_gr (idx := 34) (ci := 11) (k := 11) (t := 2) (p := 17004) (pc' := 22) (by decide +kernel) h0 ?_
      refine i_bl (pc' := 23) [(.iload_n 3, 1)] [some (.ref a0), some (.int x1), some (.int x2), some (.int x3), some (.int x4)] [.int x3, .ref (sh_r a0 11)] (by decide +kernel) rfl ?_
      refine i_al (pc' := 24) (by decide +kernel) (o_11_11 hN h0) ?_
      exact i_ri (by decide +kernel) rfl
  · refine i_bl (pc' := 6) [(.aload_n 0, 1)] [some (.ref a0), some (.int x1), some (.int x2), some (.int x3), some (.int x4)] [.ref a0] (by decide +kernel) rfl ?_
    refine i_gr (idx := 31) (ci := 11) (k := 10) (t := 2) (p := 17003) (pc' := 9) (by decide +kernel) h0 ?_
    refine i_bl (pc' := 10) [(.iload_n 3, 1)] [some (.ref a0), some (.int x1), some (.int x2), some (.int x3), some (.int x4)] [.int x3, .ref (sh_r a0 10)] (by decide +kernel) rfl ?_
    refine i_al (pc' := 11) (by decide +kernel) (o_11_10 hN h0) ?_
    exact i_ri (by decide +kernel) rfl

/-! 212 LanternChessModel.isSide(I)Z -/
noncomputable def d_212 (x0 : Int32) : Option Bool := (d_185 x0 0 1).bind fun v1 => some v1
theorem t_212 {L nx : Nat} (hN : okn nx) {b z : Nat} {m : Mm}  {x0 : Int32}  : Im (d_212 x0) (kZ L nx m) (ev_dn b z 212 0 [some (.int x0)] [] (nx, mem L nx m)) := by
  unfold d_212
  refine i_bl (pc' := 4) [(.iload_n 0, 1), (.i2l, 1), (.lconst 0, 1), (.lconst 1, 1)] [some (.int x0)] [.long (1 : Int32).toInt64, .long (0 : Int32).toInt64, .long x0.toInt64] (by decide +kernel) rfl ?_
  refine i_cs (t := 185) (na := 3) (ml := 6) (idx := 148) (pc' := 7) (st' := []) (en := [some (.long x0.toInt64), none, some (.long (0 : Int32).toInt64), none, some (.long (1 : Int32).toInt64), none]) (av := [.long x0.toInt64, .long (0 : Int32).toInt64, .long (1 : Int32).toInt64]) (vo := fun v => some (.int (bi v))) (mo := fun _ => m) (s2 := fun v => .int (bi v) :: []) (by decide +kernel) ⟨rfl, rfl, rfl, rfl, rfl, rfl⟩ (fun _ => rfl) (t_185 hN ) (fun v1 => ?_)
  exact i_rz (B := v1) (by decide +kernel) rfl

/-! 213 LanternChessModel.isCell(II)Z -/
noncomputable def d_213 (a0 : Nat) (x1 : Int32) (x2 : Int32) (m : Mm) : Option Bool := if ev_in 0 (sh_n (sh_r a0 1)) = true then ((d_185 x1 0 ((m (sh_r a0 1) (ix 0)) - 1)).bind fun v1 => if v1 = true then (if ev_in 1 (sh_n (sh_r a0 1)) = true then ((d_185 x2 0 ((m (sh_r a0 1) (ix 1)) - 1)).bind fun v2 => if v2 = true then (some true) else (some false)) else none) else (some false)) else none
theorem t_213 {L nx : Nat} (hN : okn nx) {b z : Nat} {m : Mm} {a0 : Nat} (h0 : ok nx a0 11) {x1 : Int32} {x2 : Int32}  : Im (d_213 a0 x1 x2 m) (kZ L nx m) (ev_dn b z 213 0 [some (.ref a0), some (.int x1), some (.int x2)] [] (nx, mem L nx m)) := by
  unfold d_213
  refine i_bl (pc' := 4) [(.iload_n 1, 1), (.i2l, 1), (.lconst 0, 1), (.aload_n 0, 1)] [some (.ref a0), some (.int x1), some (.int x2)] [.ref a0, .long (0 : Int32).toInt64, .long x1.toInt64] (by decide +kernel) rfl ?_
  refine i_gr (idx := 7) (ci := 11) (k := 1) (t := 2) (p := 16234) (pc' := 7) (by decide +kernel) h0 ?_
  refine i_bl (pc' := 8) [(.iconst 0, 1)] [some (.ref a0), some (.int x1), some (.int x2)] [.int 0, .ref (sh_r a0 1), .long (0 : Int32).toInt64, .long x1.toInt64] (by decide +kernel) rfl ?_
  refine i_al (pc' := 9) (by decide +kernel) (o_11_1 hN h0) ?_
  refine i_bl (pc' := 12) [(.iconst 1, 1), (.isub, 1), (.i2l, 1)] [some (.ref a0), some (.int x1), some (.int x2)] [.long ((m (sh_r a0 1) (ix 0)) - 1).toInt64, .long (0 : Int32).toInt64, .long x1.toInt64] (by decide +kernel) rfl ?_
  refine i_cs (t := 185) (na := 3) (ml := 6) (idx := 148) (pc' := 15) (st' := []) (en := [some (.long x1.toInt64), none, some (.long (0 : Int32).toInt64), none, some (.long ((m (sh_r a0 1) (ix 0)) - 1).toInt64), none]) (av := [.long x1.toInt64, .long (0 : Int32).toInt64, .long ((m (sh_r a0 1) (ix 0)) - 1).toInt64]) (vo := fun v => some (.int (bi v))) (mo := fun _ => m) (s2 := fun v => .int (bi v) :: []) (by decide +kernel) ⟨rfl, rfl, rfl, rfl, rfl, rfl⟩ (fun _ => rfl) (t_185 hN ) (fun v1 => ?_)
  refine i_bz (off := 25) (t := 40) (pc' := 18) (by decide +kernel) ?_ ?_
  · refine i_bl (pc' := 22) [(.iload_n 2, 1), (.i2l, 1), (.lconst 0, 1), (.aload_n 0, 1)] [some (.ref a0), some (.int x1), some (.int x2)] [.ref a0, .long (0 : Int32).toInt64, .long x2.toInt64] (by decide +kernel) rfl ?_
    refine i_gr (idx := 7) (ci := 11) (k := 1) (t := 2) (p := 16234) (pc' := 25) (by decide +kernel) h0 ?_
    refine i_bl (pc' := 26) [(.iconst 1, 1)] [some (.ref a0), some (.int x1), some (.int x2)] [.int 1, .ref (sh_r a0 1), .long (0 : Int32).toInt64, .long x2.toInt64] (by decide +kernel) rfl ?_
    refine i_al (pc' := 27) (by decide +kernel) (o_11_1 hN h0) ?_
    refine i_bl (pc' := 30) [(.iconst 1, 1), (.isub, 1), (.i2l, 1)] [some (.ref a0), some (.int x1), some (.int x2)] [.long ((m (sh_r a0 1) (ix 1)) - 1).toInt64, .long (0 : Int32).toInt64, .long x2.toInt64] (by decide +kernel) rfl ?_
    refine i_cs (t := 185) (na := 3) (ml := 6) (idx := 148) (pc' := 33) (st' := []) (en := [some (.long x2.toInt64), none, some (.long (0 : Int32).toInt64), none, some (.long ((m (sh_r a0 1) (ix 1)) - 1).toInt64), none]) (av := [.long x2.toInt64, .long (0 : Int32).toInt64, .long ((m (sh_r a0 1) (ix 1)) - 1).toInt64]) (vo := fun v => some (.int (bi v))) (mo := fun _ => m) (s2 := fun v => .int (bi v) :: []) (by decide +kernel) ⟨rfl, rfl, rfl, rfl, rfl, rfl⟩ (fun _ => rfl) (t_185 hN ) (fun v2 => ?_)
    refine i_bz (off := 7) (t := 40) (pc' := 36) (by decide +kernel) ?_ ?_
    · refine i_bl (pc' := 37) [(.iconst 1, 1)] [some (.ref a0), some (.int x1), some (.int x2)] [.int 1] (by decide +kernel) rfl ?_
      refine i_go (t := 41) (off := 4) (by decide +kernel) ?_
      exact i_rz (B := true) (by decide +kernel) rfl
    · refine i_bl (pc' := 41) [(.iconst 0, 1)] [some (.ref a0), some (.int x1), some (.int x2)] [.int 0] (by decide +kernel) rfl ?_
      exact i_rz (B := false) (by decide +kernel) rfl
  · refine i_bl (pc' := 41) [(.iconst 0, 1)] [some (.ref a0), some (.int x1), some (.int x2)] [.int 0] (by decide +kernel) rfl ?_
    exact i_rz (B := false) (by decide +kernel) rfl

/-! 214 LanternChessModel.cell(II)I -/
noncomputable def d_214 (a0 : Nat) (x1 : Int32) (x2 : Int32) (m : Mm) : Option Int32 := if ev_in 0 (sh_n (sh_r a0 1)) = true then (some (x1 + ((m (sh_r a0 1) (ix 0)) * x2))) else none
theorem t_214 {L nx : Nat} (hN : okn nx) {b z : Nat} {m : Mm} {a0 : Nat} (h0 : ok nx a0 11) {x1 : Int32} {x2 : Int32}  : Im (d_214 a0 x1 x2 m) (kI L nx m) (ev_dn b z 214 0 [some (.ref a0), some (.int x1), some (.int x2)] [] (nx, mem L nx m)) := by
  unfold d_214
  refine i_bl (pc' := 2) [(.iload_n 1, 1), (.aload_n 0, 1)] [some (.ref a0), some (.int x1), some (.int x2)] [.ref a0, .int x1] (by decide +kernel) rfl ?_
  refine i_gr (idx := 7) (ci := 11) (k := 1) (t := 2) (p := 16234) (pc' := 5) (by decide +kernel) h0 ?_
  refine i_bl (pc' := 6) [(.iconst 0, 1)] [some (.ref a0), some (.int x1), some (.int x2)] [.int 0, .ref (sh_r a0 1), .int x1] (by decide +kernel) rfl ?_
  refine i_al (pc' := 7) (by decide +kernel) (o_11_1 hN h0) ?_
  refine i_bl (pc' := 10) [(.iload_n 2, 1), (.imul, 1), (.iadd, 1)] [some (.ref a0), some (.int x1), some (.int x2)] [.int (x1 + ((m (sh_r a0 1) (ix 0)) * x2))] (by decide +kernel) rfl ?_
  exact i_ri (by decide +kernel) rfl

/-! 215 LanternChessModel.count(I)I -/
noncomputable def d_215 (a0 : Nat) (x1 : Int32) (m : Mm) : Option (Int32 × Mm) := (d_185 x1 0 15).bind fun v1 => (d_183 a0 v1 m).bind fun r2 => if r2.1 = true then (if ¬ x1 = 15 then (if ev_in x1 (sh_n (sh_r a0 1)) = true then (some (r2.2 (sh_r a0 1) (ix x1), r2.2)) else none) else (some (r2.2 a0 8, r2.2))) else (some (0, r2.2))
theorem t_215 {L nx : Nat} (hN : okn nx) {b z : Nat} {m : Mm} {a0 : Nat} (h0 : ok nx a0 11) {x1 : Int32}  : Im (d_215 a0 x1 m) (wI L nx) (ev_dn b z 215 0 [some (.ref a0), some (.int x1)] [] (nx, mem L nx m)) := by
  unfold d_215
  refine i_bl (pc' := 4) [(.aload_n 0, 1), (.iload_n 1, 1), (.i2l, 1), (.lconst 0, 1)] [some (.ref a0), some (.int x1)] [.long (0 : Int32).toInt64, .long x1.toInt64, .ref a0] (by decide +kernel) rfl ?_
  refine i_l2 (idx := 152) (p := 17114) (x := 15) (pc' := 7) (by decide +kernel) ?_
  refine i_cs (t := 185) (na := 3) (ml := 6) (idx := 148) (pc' := 10) (st' := [.ref a0]) (en := [some (.long x1.toInt64), none, some (.long (0 : Int32).toInt64), none, some (.long (15 : Int32).toInt64), none]) (av := [.long x1.toInt64, .long (0 : Int32).toInt64, .long (15 : Int32).toInt64]) (vo := fun v => some (.int (bi v))) (mo := fun _ => m) (s2 := fun v => .int (bi v) :: [.ref a0]) (by decide +kernel) ⟨rfl, rfl, rfl, rfl, rfl, rfl⟩ (fun _ => rfl) (t_185 hN ) (fun v1 => ?_)
  refine i_cv (ci := 11) (t := 183) (na := 2) (ml := 2) (idx := 77) (pc' := 13) (st' := []) (en := [some (.ref a0), some (.int (bi v1))]) (av := [.int (bi v1)]) (vo := fun v => some (.int (bi v.1))) (mo := fun v => v.2) (s2 := fun v => .int (bi v.1) :: []) (by decide +kernel) (by decide +kernel) h0 ⟨rfl, rfl, rfl, rfl, rfl, rfl⟩ (fun _ => rfl) (t_183 hN (h0 := h0)) (fun r2 => ?_)
  refine i_bn (off := 5) (t := 18) (pc' := 16) (by decide +kernel) ?_ ?_
  · refine i_bl (pc' := 21) [(.iload_n 1, 1), (.bipush (15), 2)] [some (.ref a0), some (.int x1)] [.int 15, .int x1] (by decide +kernel) rfl ?_
    refine i_ic (c := .ne) (off := 10) (t := 31) (pc' := 24) (p := ¬ x1 = 15) (by decide +kernel) rfl ?_ ?_
    · refine i_bl (pc' := 32) [(.aload_n 0, 1)] [some (.ref a0), some (.int x1)] [.ref a0] (by decide +kernel) rfl ?_
      refine i_gr (idx := 7) (ci := 11) (k := 1) (t := 2) (p := 16234) (pc' := 35) (by decide +kernel) h0 ?_
      refine i_bl (pc' := 36) [(.iload_n 1, 1)] [some (.ref a0), some (.int x1)] [.int x1, .ref (sh_r a0 1)] (by decide +kernel) rfl ?_
      refine i_al (pc' := 37) (by decide +kernel) (o_11_1 hN h0) ?_
      exact i_ri (by decide +kernel) rfl
    · refine i_bl (pc' := 25) [(.aload_n 0, 1)] [some (.ref a0), some (.int x1)] [.ref a0] (by decide +kernel) rfl ?_
      refine i_gf (idx := 74) (ci := 11) (k := 8) (t := 0) (p := 17001) (pc' := 28) (by decide +kernel) h0 ?_
      refine i_go (t := 37) (off := 9) (by decide +kernel) ?_
      exact i_ri (by decide +kernel) rfl
  · refine i_bl (pc' := 17) [(.iconst 0, 1)] [some (.ref a0), some (.int x1)] [.int 0] (by decide +kernel) rfl ?_
    exact i_ri (by decide +kernel) rfl

/-! 216 LanternChessModel.clock(I)I -/
noncomputable def d_216 (a0 : Nat) (x1 : Int32) (m : Mm) : Option (Int32 × Mm) := (d_212 x1).bind fun v1 => (d_183 a0 v1 m).bind fun r2 => if r2.1 = true then (if ev_in (15 + x1) (sh_n (sh_r a0 1)) = true then (some (r2.2 (sh_r a0 1) (ix (15 + x1)), r2.2)) else none) else (some (0, r2.2))
theorem t_216 {L nx : Nat} (hN : okn nx) {b z : Nat} {m : Mm} {a0 : Nat} (h0 : ok nx a0 11) {x1 : Int32}  : Im (d_216 a0 x1 m) (wI L nx) (ev_dn b z 216 0 [some (.ref a0), some (.int x1)] [] (nx, mem L nx m)) := by
  unfold d_216
  refine i_bl (pc' := 2) [(.aload_n 0, 1), (.iload_n 1, 1)] [some (.ref a0), some (.int x1)] [.int x1, .ref a0] (by decide +kernel) rfl ?_
  refine i_cs (t := 212) (na := 1) (ml := 1) (idx := 154) (pc' := 5) (st' := [.ref a0]) (en := [some (.int x1)]) (av := [.int x1]) (vo := fun v => some (.int (bi v))) (mo := fun _ => m) (s2 := fun v => .int (bi v) :: [.ref a0]) (by decide +kernel) ⟨rfl, rfl, rfl, rfl, rfl, rfl⟩ (fun _ => rfl) (t_212 hN ) (fun v1 => ?_)
  refine i_cv (ci := 11) (t := 183) (na := 2) (ml := 2) (idx := 77) (pc' := 8) (st' := []) (en := [some (.ref a0), some (.int (bi v1))]) (av := [.int (bi v1)]) (vo := fun v => some (.int (bi v.1))) (mo := fun v => v.2) (s2 := fun v => .int (bi v.1) :: []) (by decide +kernel) (by decide +kernel) h0 ⟨rfl, rfl, rfl, rfl, rfl, rfl⟩ (fun _ => rfl) (t_183 hN (h0 := h0)) (fun r2 => ?_)
  refine i_bz (off := 15) (t := 23) (pc' := 11) (by decide +kernel) ?_ ?_
  · refine i_bl (pc' := 12) [(.aload_n 0, 1)] [some (.ref a0), some (.int x1)] [.ref a0] (by decide +kernel) rfl ?_
    refine i_gr (idx := 7) (ci := 11) (k := 1) (t := 2) (p := 16234) (pc' := 15) (by decide +kernel) h0 ?_
    refine i_bl (pc' := 19) [(.bipush (15), 2), (.iload_n 1, 1), (.iadd, 1)] [some (.ref a0), some (.int x1)] [.int (15 + x1), .ref (sh_r a0 1)] (by decide +kernel) rfl ?_
    refine i_al (pc' := 20) (by decide +kernel) (o_11_1 hN h0) ?_
    refine i_go (t := 24) (off := 4) (by decide +kernel) ?_
    exact i_ri (by decide +kernel) rfl
  · refine i_bl (pc' := 24) [(.iconst 0, 1)] [some (.ref a0), some (.int x1)] [.int 0] (by decide +kernel) rfl ?_
    exact i_ri (by decide +kernel) rfl

/-! 217 LanternChessModel.piece(III)I -/
noncomputable def d_217 (a0 : Nat) (x1 : Int32) (x2 : Int32) (x3 : Int32) (m : Mm) : Option (Int32 × Mm) := (d_212 x1).bind fun v1 => (d_183 a0 v1 m).bind fun r2 => if r2.1 = true then ((d_213 a0 x2 x3 r2.2).bind fun v3 => (d_184 a0 v3 2 r2.2).bind fun r4 => if r4.1 = true then ((d_194 x1).bind fun v5 => (d_214 a0 x2 x3 r4.2).bind fun v6 => if ev_in (v5 + v6) (sh_n (sh_r a0 1)) = true then (some ((r4.2 (sh_r a0 1) (ix (v5 + v6))) - 1, r4.2)) else none) else (some (0, r4.2))) else (some (0, r2.2))
theorem t_217 {L nx : Nat} (hN : okn nx) {b z : Nat} {m : Mm} {a0 : Nat} (h0 : ok nx a0 11) {x1 : Int32} {x2 : Int32} {x3 : Int32}  : Im (d_217 a0 x1 x2 x3 m) (wI L nx) (ev_dn b z 217 0 [some (.ref a0), some (.int x1), some (.int x2), some (.int x3)] [] (nx, mem L nx m)) := by
  unfold d_217
  refine i_bl (pc' := 2) [(.aload_n 0, 1), (.iload_n 1, 1)] [some (.ref a0), some (.int x1), some (.int x2), some (.int x3)] [.int x1, .ref a0] (by decide +kernel) rfl ?_
  refine i_cs (t := 212) (na := 1) (ml := 1) (idx := 154) (pc' := 5) (st' := [.ref a0]) (en := [some (.int x1)]) (av := [.int x1]) (vo := fun v => some (.int (bi v))) (mo := fun _ => m) (s2 := fun v => .int (bi v) :: [.ref a0]) (by decide +kernel) ⟨rfl, rfl, rfl, rfl, rfl, rfl⟩ (fun _ => rfl) (t_212 hN ) (fun v1 => ?_)
  refine i_cv (ci := 11) (t := 183) (na := 2) (ml := 2) (idx := 77) (pc' := 8) (st' := []) (en := [some (.ref a0), some (.int (bi v1))]) (av := [.int (bi v1)]) (vo := fun v => some (.int (bi v.1))) (mo := fun v => v.2) (s2 := fun v => .int (bi v.1) :: []) (by decide +kernel) (by decide +kernel) h0 ⟨rfl, rfl, rfl, rfl, rfl, rfl⟩ (fun _ => rfl) (t_183 hN (h0 := h0)) (fun r2 => ?_)
  refine i_bz (off := 17) (t := 25) (pc' := 11) (by decide +kernel) ?_ ?_
  · refine i_bl (pc' := 15) [(.aload_n 0, 1), (.aload_n 0, 1), (.iload_n 2, 1), (.iload_n 3, 1)] [some (.ref a0), some (.int x1), some (.int x2), some (.int x3)] [.int x3, .int x2, .ref a0, .ref a0] (by decide +kernel) rfl ?_
    refine i_cv (ci := 11) (t := 213) (na := 3) (ml := 3) (idx := 158) (pc' := 18) (st' := [.ref a0]) (en := [some (.ref a0), some (.int x2), some (.int x3)]) (av := [.int x2, .int x3]) (vo := fun v => some (.int (bi v))) (mo := fun _ => r2.2) (s2 := fun v => .int (bi v) :: [.ref a0]) (by decide +kernel) (by decide +kernel) h0 ⟨rfl, rfl, rfl, rfl, rfl, rfl⟩ (fun _ => rfl) (t_213 hN (h0 := h0)) (fun v3 => ?_)
    refine i_bl (pc' := 19) [(.iconst 2, 1)] [some (.ref a0), some (.int x1), some (.int x2), some (.int x3)] [.int 2, .int (bi v3), .ref a0] (by decide +kernel) rfl ?_
    refine i_cv (ci := 11) (t := 184) (na := 3) (ml := 3) (idx := 161) (pc' := 22) (st' := []) (en := [some (.ref a0), some (.int (bi v3)), some (.int 2)]) (av := [.int (bi v3), .int 2]) (vo := fun v => some (.int (bi v.1))) (mo := fun v => v.2) (s2 := fun v => .int (bi v.1) :: []) (by decide +kernel) (by decide +kernel) h0 ⟨rfl, rfl, rfl, rfl, rfl, rfl⟩ (fun _ => rfl) (t_184 hN (h0 := h0)) (fun r4 => ?_)
    refine i_bn (off := 5) (t := 27) (pc' := 25) (by decide +kernel) ?_ ?_
    · refine i_bl (pc' := 28) [(.aload_n 0, 1)] [some (.ref a0), some (.int x1), some (.int x2), some (.int x3)] [.ref a0] (by decide +kernel) rfl ?_
      refine i_gr (idx := 7) (ci := 11) (k := 1) (t := 2) (p := 16234) (pc' := 31) (by decide +kernel) h0 ?_
      refine i_bl (pc' := 32) [(.iload_n 1, 1)] [some (.ref a0), some (.int x1), some (.int x2), some (.int x3)] [.int x1, .ref (sh_r a0 1)] (by decide +kernel) rfl ?_
      refine i_cs (t := 194) (na := 1) (ml := 1) (idx := 165) (pc' := 35) (st' := [.ref (sh_r a0 1)]) (en := [some (.int x1)]) (av := [.int x1]) (vo := fun v => some (.int v)) (mo := fun _ => r4.2) (s2 := fun v => .int v :: [.ref (sh_r a0 1)]) (by decide +kernel) ⟨rfl, rfl, rfl, rfl, rfl, rfl⟩ (fun _ => rfl) (t_194 hN ) (fun v5 => ?_)
      refine i_bl (pc' := 38) [(.aload_n 0, 1), (.iload_n 2, 1), (.iload_n 3, 1)] [some (.ref a0), some (.int x1), some (.int x2), some (.int x3)] [.int x3, .int x2, .ref a0, .int v5, .ref (sh_r a0 1)] (by decide +kernel) rfl ?_
      refine i_cv (ci := 11) (t := 214) (na := 3) (ml := 3) (idx := 168) (pc' := 41) (st' := [.int v5, .ref (sh_r a0 1)]) (en := [some (.ref a0), some (.int x2), some (.int x3)]) (av := [.int x2, .int x3]) (vo := fun v => some (.int v)) (mo := fun _ => r4.2) (s2 := fun v => .int v :: [.int v5, .ref (sh_r a0 1)]) (by decide +kernel) (by decide +kernel) h0 ⟨rfl, rfl, rfl, rfl, rfl, rfl⟩ (fun _ => rfl) (t_214 hN (h0 := h0)) (fun v6 => ?_)
      refine i_bl (pc' := 42) [(.iadd, 1)] [some (.ref a0), some (.int x1), some (.int x2), some (.int x3)] [.int (v5 + v6), .ref (sh_r a0 1)] (by decide +kernel) rfl ?_
      refine i_al (pc' := 43) (by decide +kernel) (o_11_1 hN h0) ?_
      refine i_bl (pc' := 45) [(.iconst 1, 1), (.isub, 1)] [some (.ref a0), some (.int x1), some (.int x2), some (.int x3)] [.int ((r4.2 (sh_r a0 1) (ix (v5 + v6))) - 1)] (by decide +kernel) rfl ?_
      exact i_ri (by decide +kernel) rfl
    · refine i_bl (pc' := 26) [(.iconst 0, 1)] [some (.ref a0), some (.int x1), some (.int x2), some (.int x3)] [.int 0] (by decide +kernel) rfl ?_
      exact i_ri (by decide +kernel) rfl
  · refine i_bl (pc' := 26) [(.iconst 0, 1)] [some (.ref a0), some (.int x1), some (.int x2), some (.int x3)] [.int 0] (by decide +kernel) rfl ?_
    exact i_ri (by decide +kernel) rfl

/-! 218 LanternChessModel.isMove(IIIIII)Z -/
noncomputable def d_218_53 (a0 : Nat) (x1 : Int32) (x2 : Int32) (x3 : Int32) (x4 : Int32) (x5 : Int32) (x6 : Int32) (s0 : Nat) (s1 : Bool) (m : Mm) : Option (Bool × Mm) := (d_184 s0 s1 2 m).bind fun r4 => if r4.1 = true then ((d_194 x1).bind fun v5 => (d_214 a0 x3 x4 r4.2).bind fun v6 => (d_214 a0 x5 x6 r4.2).bind fun v7 => (d_203 a0 v5 x2 v6 v7 r4.2).bind fun v8 => some (v8, r4.2)) else (some (false, r4.2))
theorem t_218_53 {L nx : Nat} (hN : okn nx) {b z : Nat} {m : Mm} {a0 : Nat} (h0 : ok nx a0 11) {s0 : Nat} (hs0 : ok nx s0 11) {x1 : Int32} {x2 : Int32} {x3 : Int32} {x4 : Int32} {x5 : Int32} {x6 : Int32} {s1 : Bool}  : Im (d_218_53 a0 x1 x2 x3 x4 x5 x6 s0 s1 m) (wZ L nx) (ev_dn b z 218 53 [some (.ref a0), some (.int x1), some (.int x2), some (.int x3), some (.int x4), some (.int x5), some (.int x6)] [.int (bi s1), .ref s0] (nx, mem L nx m)) := by
  unfold d_218_53
  refine i_bl (pc' := 54) [(.iconst 2, 1)] [some (.ref a0), some (.int x1), some (.int x2), some (.int x3), some (.int x4), some (.int x5), some (.int x6)] [.int 2, .int (bi s1), .ref s0] (by decide +kernel) rfl ?_
  refine i_cv (ci := 11) (t := 184) (na := 3) (ml := 3) (idx := 161) (pc' := 57) (st' := []) (en := [some (.ref s0), some (.int (bi s1)), some (.int 2)]) (av := [.int (bi s1), .int 2]) (vo := fun v => some (.int (bi v.1))) (mo := fun v => v.2) (s2 := fun v => .int (bi v.1) :: []) (by decide +kernel) (by decide +kernel) hs0 ⟨rfl, rfl, rfl, rfl, rfl, rfl⟩ (fun _ => rfl) (t_184 hN (h0 := hs0)) (fun r4 => ?_)
  refine i_bn (off := 5) (t := 62) (pc' := 60) (by decide +kernel) ?_ ?_
  · refine i_bl (pc' := 64) [(.aload_n 0, 1), (.iload_n 1, 1)] [some (.ref a0), some (.int x1), some (.int x2), some (.int x3), some (.int x4), some (.int x5), some (.int x6)] [.int x1, .ref a0] (by decide +kernel) rfl ?_
    refine i_cs (t := 194) (na := 1) (ml := 1) (idx := 165) (pc' := 67) (st' := [.ref a0]) (en := [some (.int x1)]) (av := [.int x1]) (vo := fun v => some (.int v)) (mo := fun _ => r4.2) (s2 := fun v => .int v :: [.ref a0]) (by decide +kernel) ⟨rfl, rfl, rfl, rfl, rfl, rfl⟩ (fun _ => rfl) (t_194 hN ) (fun v5 => ?_)
    refine i_bl (pc' := 72) [(.iload_n 2, 1), (.aload_n 0, 1), (.iload_n 3, 1), (.iload 4, 2)] [some (.ref a0), some (.int x1), some (.int x2), some (.int x3), some (.int x4), some (.int x5), some (.int x6)] [.int x4, .int x3, .ref a0, .int x2, .int v5, .ref a0] (by decide +kernel) rfl ?_
    refine i_cv (ci := 11) (t := 214) (na := 3) (ml := 3) (idx := 168) (pc' := 75) (st' := [.int x2, .int v5, .ref a0]) (en := [some (.ref a0), some (.int x3), some (.int x4)]) (av := [.int x3, .int x4]) (vo := fun v => some (.int v)) (mo := fun _ => r4.2) (s2 := fun v => .int v :: [.int x2, .int v5, .ref a0]) (by decide +kernel) (by decide +kernel) h0 ⟨rfl, rfl, rfl, rfl, rfl, rfl⟩ (fun _ => rfl) (t_214 hN (h0 := h0)) (fun v6 => ?_)
    refine i_bl (pc' := 80) [(.aload_n 0, 1), (.iload 5, 2), (.iload 6, 2)] [some (.ref a0), some (.int x1), some (.int x2), some (.int x3), some (.int x4), some (.int x5), some (.int x6)] [.int x6, .int x5, .ref a0, .int v6, .int x2, .int v5, .ref a0] (by decide +kernel) rfl ?_
    refine i_cv (ci := 11) (t := 214) (na := 3) (ml := 3) (idx := 168) (pc' := 83) (st' := [.int v6, .int x2, .int v5, .ref a0]) (en := [some (.ref a0), some (.int x5), some (.int x6)]) (av := [.int x5, .int x6]) (vo := fun v => some (.int v)) (mo := fun _ => r4.2) (s2 := fun v => .int v :: [.int v6, .int x2, .int v5, .ref a0]) (by decide +kernel) (by decide +kernel) h0 ⟨rfl, rfl, rfl, rfl, rfl, rfl⟩ (fun _ => rfl) (t_214 hN (h0 := h0)) (fun v7 => ?_)
    refine i_cv (ci := 11) (t := 203) (na := 5) (ml := 7) (idx := 129) (pc' := 86) (st' := []) (en := [some (.ref a0), some (.int v5), some (.int x2), some (.int v6), some (.int v7), none, none]) (av := [.int v5, .int x2, .int v6, .int v7]) (vo := fun v => some (.int (bi v))) (mo := fun _ => r4.2) (s2 := fun v => .int (bi v) :: []) (by decide +kernel) (by decide +kernel) h0 ⟨rfl, rfl, rfl, rfl, rfl, rfl⟩ (fun _ => rfl) (t_203 hN (h0 := h0)) (fun v8 => ?_)
    exact i_rz (B := v8) (by decide +kernel) rfl
  · refine i_bl (pc' := 61) [(.iconst 0, 1)] [some (.ref a0), some (.int x1), some (.int x2), some (.int x3), some (.int x4), some (.int x5), some (.int x6)] [.int 0] (by decide +kernel) rfl ?_
    exact i_rz (B := false) (by decide +kernel) rfl

noncomputable def d_218_20 (a0 : Nat) (x1 : Int32) (x2 : Int32) (x3 : Int32) (x4 : Int32) (x5 : Int32) (x6 : Int32) (s0 : Nat) (s1 : Bool) (m : Mm) : Option (Bool × Mm) := (d_183 s0 s1 m).bind fun r2 => if r2.1 = true then ((d_213 a0 x3 x4 r2.2).bind fun v3 => if v3 = true then ((d_213 a0 x5 x6 r2.2).bind fun v9 => if v9 = true then (d_218_53 a0 x1 x2 x3 x4 x5 x6 a0 true r2.2) else (d_218_53 a0 x1 x2 x3 x4 x5 x6 a0 false r2.2)) else (d_218_53 a0 x1 x2 x3 x4 x5 x6 a0 false r2.2)) else (some (false, r2.2))
theorem t_218_20 {L nx : Nat} (hN : okn nx) {b z : Nat} {m : Mm} {a0 : Nat} (h0 : ok nx a0 11) {s0 : Nat} (hs0 : ok nx s0 11) {x1 : Int32} {x2 : Int32} {x3 : Int32} {x4 : Int32} {x5 : Int32} {x6 : Int32} {s1 : Bool}  : Im (d_218_20 a0 x1 x2 x3 x4 x5 x6 s0 s1 m) (wZ L nx) (ev_dn b z 218 20 [some (.ref a0), some (.int x1), some (.int x2), some (.int x3), some (.int x4), some (.int x5), some (.int x6)] [.int (bi s1), .ref s0] (nx, mem L nx m)) := by
  unfold d_218_20
  refine i_cv (ci := 11) (t := 183) (na := 2) (ml := 2) (idx := 77) (pc' := 23) (st' := []) (en := [some (.ref s0), some (.int (bi s1))]) (av := [.int (bi s1)]) (vo := fun v => some (.int (bi v.1))) (mo := fun v => v.2) (s2 := fun v => .int (bi v.1) :: []) (by decide +kernel) (by decide +kernel) hs0 ⟨rfl, rfl, rfl, rfl, rfl, rfl⟩ (fun _ => rfl) (t_183 hN (h0 := hs0)) (fun r2 => ?_)
  refine i_bz (off := 37) (t := 60) (pc' := 26) (by decide +kernel) ?_ ?_
  · refine i_bl (pc' := 31) [(.aload_n 0, 1), (.aload_n 0, 1), (.iload_n 3, 1), (.iload 4, 2)] [some (.ref a0), some (.int x1), some (.int x2), some (.int x3), some (.int x4), some (.int x5), some (.int x6)] [.int x4, .int x3, .ref a0, .ref a0] (by decide +kernel) rfl ?_
    refine i_cv (ci := 11) (t := 213) (na := 3) (ml := 3) (idx := 158) (pc' := 34) (st' := [.ref a0]) (en := [some (.ref a0), some (.int x3), some (.int x4)]) (av := [.int x3, .int x4]) (vo := fun v => some (.int (bi v))) (mo := fun _ => r2.2) (s2 := fun v => .int (bi v) :: [.ref a0]) (by decide +kernel) (by decide +kernel) h0 ⟨rfl, rfl, rfl, rfl, rfl, rfl⟩ (fun _ => rfl) (t_213 hN (h0 := h0)) (fun v3 => ?_)
    refine i_bz (off := 18) (t := 52) (pc' := 37) (by decide +kernel) ?_ ?_
    · refine i_bl (pc' := 42) [(.aload_n 0, 1), (.iload 5, 2), (.iload 6, 2)] [some (.ref a0), some (.int x1), some (.int x2), some (.int x3), some (.int x4), some (.int x5), some (.int x6)] [.int x6, .int x5, .ref a0, .ref a0] (by decide +kernel) rfl ?_
      refine i_cv (ci := 11) (t := 213) (na := 3) (ml := 3) (idx := 158) (pc' := 45) (st' := [.ref a0]) (en := [some (.ref a0), some (.int x5), some (.int x6)]) (av := [.int x5, .int x6]) (vo := fun v => some (.int (bi v))) (mo := fun _ => r2.2) (s2 := fun v => .int (bi v) :: [.ref a0]) (by decide +kernel) (by decide +kernel) h0 ⟨rfl, rfl, rfl, rfl, rfl, rfl⟩ (fun _ => rfl) (t_213 hN (h0 := h0)) (fun v9 => ?_)
      refine i_bz (off := 7) (t := 52) (pc' := 48) (by decide +kernel) ?_ ?_
      · refine i_bl (pc' := 49) [(.iconst 1, 1)] [some (.ref a0), some (.int x1), some (.int x2), some (.int x3), some (.int x4), some (.int x5), some (.int x6)] [.int 1, .ref a0] (by decide +kernel) rfl ?_
        refine i_go (t := 53) (off := 4) (by decide +kernel) ?_
        exact t_218_53 hN (h0 := h0) (hs0 := h0)
      · refine i_bl (pc' := 53) [(.iconst 0, 1)] [some (.ref a0), some (.int x1), some (.int x2), some (.int x3), some (.int x4), some (.int x5), some (.int x6)] [.int 0, .ref a0] (by decide +kernel) rfl ?_
        exact t_218_53 hN (h0 := h0) (hs0 := h0)
    · refine i_bl (pc' := 53) [(.iconst 0, 1)] [some (.ref a0), some (.int x1), some (.int x2), some (.int x3), some (.int x4), some (.int x5), some (.int x6)] [.int 0, .ref a0] (by decide +kernel) rfl ?_
      exact t_218_53 hN (h0 := h0) (hs0 := h0)
  · refine i_bl (pc' := 61) [(.iconst 0, 1)] [some (.ref a0), some (.int x1), some (.int x2), some (.int x3), some (.int x4), some (.int x5), some (.int x6)] [.int 0] (by decide +kernel) rfl ?_
    exact i_rz (B := false) (by decide +kernel) rfl

noncomputable def d_218 (a0 : Nat) (x1 : Int32) (x2 : Int32) (x3 : Int32) (x4 : Int32) (x5 : Int32) (x6 : Int32) (m : Mm) : Option (Bool × Mm) := (d_212 x1).bind fun v1 => if v1 = true then ((d_212 x2).bind fun v10 => if v10 = true then (d_218_20 a0 x1 x2 x3 x4 x5 x6 a0 true m) else (d_218_20 a0 x1 x2 x3 x4 x5 x6 a0 false m)) else (d_218_20 a0 x1 x2 x3 x4 x5 x6 a0 false m)
theorem t_218 {L nx : Nat} (hN : okn nx) {b z : Nat} {m : Mm} {a0 : Nat} (h0 : ok nx a0 11) {x1 : Int32} {x2 : Int32} {x3 : Int32} {x4 : Int32} {x5 : Int32} {x6 : Int32}  : Im (d_218 a0 x1 x2 x3 x4 x5 x6 m) (wZ L nx) (ev_dn b z 218 0 [some (.ref a0), some (.int x1), some (.int x2), some (.int x3), some (.int x4), some (.int x5), some (.int x6)] [] (nx, mem L nx m)) := by
  unfold d_218
  refine i_bl (pc' := 2) [(.aload_n 0, 1), (.iload_n 1, 1)] [some (.ref a0), some (.int x1), some (.int x2), some (.int x3), some (.int x4), some (.int x5), some (.int x6)] [.int x1, .ref a0] (by decide +kernel) rfl ?_
  refine i_cs (t := 212) (na := 1) (ml := 1) (idx := 154) (pc' := 5) (st' := [.ref a0]) (en := [some (.int x1)]) (av := [.int x1]) (vo := fun v => some (.int (bi v))) (mo := fun _ => m) (s2 := fun v => .int (bi v) :: [.ref a0]) (by decide +kernel) ⟨rfl, rfl, rfl, rfl, rfl, rfl⟩ (fun _ => rfl) (t_212 hN ) (fun v1 => ?_)
  refine i_bz (off := 14) (t := 19) (pc' := 8) (by decide +kernel) ?_ ?_
  · refine i_bl (pc' := 9) [(.iload_n 2, 1)] [some (.ref a0), some (.int x1), some (.int x2), some (.int x3), some (.int x4), some (.int x5), some (.int x6)] [.int x2, .ref a0] (by decide +kernel) rfl ?_
    refine i_cs (t := 212) (na := 1) (ml := 1) (idx := 154) (pc' := 12) (st' := [.ref a0]) (en := [some (.int x2)]) (av := [.int x2]) (vo := fun v => some (.int (bi v))) (mo := fun _ => m) (s2 := fun v => .int (bi v) :: [.ref a0]) (by decide +kernel) ⟨rfl, rfl, rfl, rfl, rfl, rfl⟩ (fun _ => rfl) (t_212 hN ) (fun v10 => ?_)
    refine i_bz (off := 7) (t := 19) (pc' := 15) (by decide +kernel) ?_ ?_
    · refine i_bl (pc' := 16) [(.iconst 1, 1)] [some (.ref a0), some (.int x1), some (.int x2), some (.int x3), some (.int x4), some (.int x5), some (.int x6)] [.int 1, .ref a0] (by decide +kernel) rfl ?_
      refine i_go (t := 20) (off := 4) (by decide +kernel) ?_
      exact t_218_20 hN (h0 := h0) (hs0 := h0)
    · refine i_bl (pc' := 20) [(.iconst 0, 1)] [some (.ref a0), some (.int x1), some (.int x2), some (.int x3), some (.int x4), some (.int x5), some (.int x6)] [.int 0, .ref a0] (by decide +kernel) rfl ?_
      exact t_218_20 hN (h0 := h0) (hs0 := h0)
  · refine i_bl (pc' := 20) [(.iconst 0, 1)] [some (.ref a0), some (.int x1), some (.int x2), some (.int x3), some (.int x4), some (.int x5), some (.int x6)] [.int 0, .ref a0] (by decide +kernel) rfl ?_
    exact t_218_20 hN (h0 := h0) (hs0 := h0)

/-! 219 LanternChessModel.moves(II)I -/
noncomputable def d_219_20 (a0 : Nat) (x1 : Int32) (x2 : Int32) (s0 : Nat) (s1 : Bool) (m : Mm) : Option (Int32 × Mm) := (d_183 s0 s1 m).bind fun r2 => if r2.1 = true then ((d_194 x1).bind fun v3 => (d_210 a0 v3 x2 r2.2).bind fun r4 => some (r4.1, r4.2)) else (some (0, r2.2))
theorem t_219_20 {L nx : Nat} (hN : okn nx) {b z : Nat} {m : Mm} {a0 : Nat} (h0 : ok nx a0 11) {s0 : Nat} (hs0 : ok nx s0 11) {x1 : Int32} {x2 : Int32} {s1 : Bool}  : Im (d_219_20 a0 x1 x2 s0 s1 m) (wI L nx) (ev_dn b z 219 20 [some (.ref a0), some (.int x1), some (.int x2)] [.int (bi s1), .ref s0] (nx, mem L nx m)) := by
  unfold d_219_20
  refine i_cv (ci := 11) (t := 183) (na := 2) (ml := 2) (idx := 77) (pc' := 23) (st' := []) (en := [some (.ref s0), some (.int (bi s1))]) (av := [.int (bi s1)]) (vo := fun v => some (.int (bi v.1))) (mo := fun v => v.2) (s2 := fun v => .int (bi v.1) :: []) (by decide +kernel) (by decide +kernel) hs0 ⟨rfl, rfl, rfl, rfl, rfl, rfl⟩ (fun _ => rfl) (t_183 hN (h0 := hs0)) (fun r2 => ?_)
  refine i_bz (off := 15) (t := 38) (pc' := 26) (by decide +kernel) ?_ ?_
  · refine i_bl (pc' := 28) [(.aload_n 0, 1), (.iload_n 1, 1)] [some (.ref a0), some (.int x1), some (.int x2)] [.int x1, .ref a0] (by decide +kernel) rfl ?_
    refine i_cs (t := 194) (na := 1) (ml := 1) (idx := 165) (pc' := 31) (st' := [.ref a0]) (en := [some (.int x1)]) (av := [.int x1]) (vo := fun v => some (.int v)) (mo := fun _ => r2.2) (s2 := fun v => .int v :: [.ref a0]) (by decide +kernel) ⟨rfl, rfl, rfl, rfl, rfl, rfl⟩ (fun _ => rfl) (t_194 hN ) (fun v3 => ?_)
    refine i_bl (pc' := 32) [(.iload_n 2, 1)] [some (.ref a0), some (.int x1), some (.int x2)] [.int x2, .int v3, .ref a0] (by decide +kernel) rfl ?_
    refine i_cv (ci := 11) (t := 210) (na := 3) (ml := 6) (idx := 171) (pc' := 35) (st' := []) (en := [some (.ref a0), some (.int v3), some (.int x2), none, none, none]) (av := [.int v3, .int x2]) (vo := fun v => some (.int v.1)) (mo := fun v => v.2) (s2 := fun v => .int v.1 :: []) (by decide +kernel) (by decide +kernel) h0 ⟨rfl, rfl, rfl, rfl, rfl, rfl⟩ (fun _ => rfl) (t_210 hN (h0 := h0)) (fun r4 => ?_)
    refine i_go (t := 39) (off := 4) (by decide +kernel) ?_
    exact i_ri (by decide +kernel) rfl
  · refine i_bl (pc' := 39) [(.iconst 0, 1)] [some (.ref a0), some (.int x1), some (.int x2)] [.int 0] (by decide +kernel) rfl ?_
    exact i_ri (by decide +kernel) rfl

noncomputable def d_219 (a0 : Nat) (x1 : Int32) (x2 : Int32) (m : Mm) : Option (Int32 × Mm) := (d_212 x1).bind fun v1 => if v1 = true then ((d_212 x2).bind fun v5 => if v5 = true then (d_219_20 a0 x1 x2 a0 true m) else (d_219_20 a0 x1 x2 a0 false m)) else (d_219_20 a0 x1 x2 a0 false m)
theorem t_219 {L nx : Nat} (hN : okn nx) {b z : Nat} {m : Mm} {a0 : Nat} (h0 : ok nx a0 11) {x1 : Int32} {x2 : Int32}  : Im (d_219 a0 x1 x2 m) (wI L nx) (ev_dn b z 219 0 [some (.ref a0), some (.int x1), some (.int x2)] [] (nx, mem L nx m)) := by
  unfold d_219
  refine i_bl (pc' := 2) [(.aload_n 0, 1), (.iload_n 1, 1)] [some (.ref a0), some (.int x1), some (.int x2)] [.int x1, .ref a0] (by decide +kernel) rfl ?_
  refine i_cs (t := 212) (na := 1) (ml := 1) (idx := 154) (pc' := 5) (st' := [.ref a0]) (en := [some (.int x1)]) (av := [.int x1]) (vo := fun v => some (.int (bi v))) (mo := fun _ => m) (s2 := fun v => .int (bi v) :: [.ref a0]) (by decide +kernel) ⟨rfl, rfl, rfl, rfl, rfl, rfl⟩ (fun _ => rfl) (t_212 hN ) (fun v1 => ?_)
  refine i_bz (off := 14) (t := 19) (pc' := 8) (by decide +kernel) ?_ ?_
  · refine i_bl (pc' := 9) [(.iload_n 2, 1)] [some (.ref a0), some (.int x1), some (.int x2)] [.int x2, .ref a0] (by decide +kernel) rfl ?_
    refine i_cs (t := 212) (na := 1) (ml := 1) (idx := 154) (pc' := 12) (st' := [.ref a0]) (en := [some (.int x2)]) (av := [.int x2]) (vo := fun v => some (.int (bi v))) (mo := fun _ => m) (s2 := fun v => .int (bi v) :: [.ref a0]) (by decide +kernel) ⟨rfl, rfl, rfl, rfl, rfl, rfl⟩ (fun _ => rfl) (t_212 hN ) (fun v5 => ?_)
    refine i_bz (off := 7) (t := 19) (pc' := 15) (by decide +kernel) ?_ ?_
    · refine i_bl (pc' := 16) [(.iconst 1, 1)] [some (.ref a0), some (.int x1), some (.int x2)] [.int 1, .ref a0] (by decide +kernel) rfl ?_
      refine i_go (t := 20) (off := 4) (by decide +kernel) ?_
      exact t_219_20 hN (h0 := h0) (hs0 := h0)
    · refine i_bl (pc' := 20) [(.iconst 0, 1)] [some (.ref a0), some (.int x1), some (.int x2)] [.int 0, .ref a0] (by decide +kernel) rfl ?_
      exact t_219_20 hN (h0 := h0) (hs0 := h0)
  · refine i_bl (pc' := 20) [(.iconst 0, 1)] [some (.ref a0), some (.int x1), some (.int x2)] [.int 0, .ref a0] (by decide +kernel) rfl ?_
    exact t_219_20 hN (h0 := h0) (hs0 := h0)

/-! 220 LanternChessModel.move(IIII)I -/
noncomputable def d_220_66 (a0 : Nat) (x1 : Int32) (x2 : Int32) (x3 : Int32) (x4 : Int32) (s0 : Nat) (s1 : Bool) (m : Mm) : Option (Int32 × Mm) := (d_183 s0 s1 m).bind fun r2 => if r2.1 = true then ((d_185 x4 0 3).bind fun v3 => (d_184 a0 v3 2 r2.2).bind fun r4 => if r4.1 = true then ((d_194 x1).bind fun v5 => (d_211 a0 v5 x2 x3 x4 r4.2).bind fun r6 => some (r6.1, r6.2)) else (some (0, r4.2))) else (some (0, r2.2))
theorem t_220_66 {L nx : Nat} (hN : okn nx) {b z : Nat} {m : Mm} {a0 : Nat} (h0 : ok nx a0 11) {s0 : Nat} (hs0 : ok nx s0 11) {x1 : Int32} {x2 : Int32} {x3 : Int32} {x4 : Int32} {s1 : Bool} {o5 : Option Value} {o6 : Option Value} : Im (d_220_66 a0 x1 x2 x3 x4 s0 s1 m) (wI L nx) (ev_dn b z 220 66 [some (.ref a0), some (.int x1), some (.int x2), some (.int x3), some (.int x4), o5, o6] [.int (bi s1), .ref s0] (nx, mem L nx m)) := by
  unfold d_220_66
  refine i_cv (ci := 11) (t := 183) (na := 2) (ml := 2) (idx := 77) (pc' := 69) (st' := []) (en := [some (.ref s0), some (.int (bi s1))]) (av := [.int (bi s1)]) (vo := fun v => some (.int (bi v.1))) (mo := fun v => v.2) (s2 := fun v => .int (bi v.1) :: []) (by decide +kernel) (by decide +kernel) hs0 ⟨rfl, rfl, rfl, rfl, rfl, rfl⟩ (fun _ => rfl) (t_183 hN (h0 := hs0)) (fun r2 => ?_)
  refine i_bz (off := 21) (t := 90) (pc' := 72) (by decide +kernel) ?_ ?_
  · refine i_bl (pc' := 77) [(.aload_n 0, 1), (.iload 4, 2), (.i2l, 1), (.lconst 0, 1)] [some (.ref a0), some (.int x1), some (.int x2), some (.int x3), some (.int x4), o5, o6] [.long (0 : Int32).toInt64, .long x4.toInt64, .ref a0] (by decide +kernel) rfl ?_
    refine i_l2 (idx := 174) (p := 17195) (x := 3) (pc' := 80) (by decide +kernel) ?_
    refine i_cs (t := 185) (na := 3) (ml := 6) (idx := 148) (pc' := 83) (st' := [.ref a0]) (en := [some (.long x4.toInt64), none, some (.long (0 : Int32).toInt64), none, some (.long (3 : Int32).toInt64), none]) (av := [.long x4.toInt64, .long (0 : Int32).toInt64, .long (3 : Int32).toInt64]) (vo := fun v => some (.int (bi v))) (mo := fun _ => r2.2) (s2 := fun v => .int (bi v) :: [.ref a0]) (by decide +kernel) ⟨rfl, rfl, rfl, rfl, rfl, rfl⟩ (fun _ => rfl) (t_185 hN ) (fun v3 => ?_)
    refine i_bl (pc' := 84) [(.iconst 2, 1)] [some (.ref a0), some (.int x1), some (.int x2), some (.int x3), some (.int x4), o5, o6] [.int 2, .int (bi v3), .ref a0] (by decide +kernel) rfl ?_
    refine i_cv (ci := 11) (t := 184) (na := 3) (ml := 3) (idx := 161) (pc' := 87) (st' := []) (en := [some (.ref a0), some (.int (bi v3)), some (.int 2)]) (av := [.int (bi v3), .int 2]) (vo := fun v => some (.int (bi v.1))) (mo := fun v => v.2) (s2 := fun v => .int (bi v.1) :: []) (by decide +kernel) (by decide +kernel) h0 ⟨rfl, rfl, rfl, rfl, rfl, rfl⟩ (fun _ => rfl) (t_184 hN (h0 := h0)) (fun r4 => ?_)
    refine i_bn (off := 5) (t := 92) (pc' := 90) (by decide +kernel) ?_ ?_
    · refine i_bl (pc' := 94) [(.aload_n 0, 1), (.iload_n 1, 1)] [some (.ref a0), some (.int x1), some (.int x2), some (.int x3), some (.int x4), o5, o6] [.int x1, .ref a0] (by decide +kernel) rfl ?_
      refine i_cs (t := 194) (na := 1) (ml := 1) (idx := 165) (pc' := 97) (st' := [.ref a0]) (en := [some (.int x1)]) (av := [.int x1]) (vo := fun v => some (.int v)) (mo := fun _ => r4.2) (s2 := fun v => .int v :: [.ref a0]) (by decide +kernel) ⟨rfl, rfl, rfl, rfl, rfl, rfl⟩ (fun _ => rfl) (t_194 hN ) (fun v5 => ?_)
      refine i_bl (pc' := 101) [(.iload_n 2, 1), (.iload_n 3, 1), (.iload 4, 2)] [some (.ref a0), some (.int x1), some (.int x2), some (.int x3), some (.int x4), o5, o6] [.int x4, .int x3, .int x2, .int v5, .ref a0] (by decide +kernel) rfl ?_
      refine i_cv (ci := 11) (t := 211) (na := 5) (ml := 5) (idx := 176) (pc' := 104) (st' := []) (en := [some (.ref a0), some (.int v5), some (.int x2), some (.int x3), some (.int x4)]) (av := [.int v5, .int x2, .int x3, .int x4]) (vo := fun v => some (.int v.1)) (mo := fun v => v.2) (s2 := fun v => .int v.1 :: []) (by decide +kernel) (by decide +kernel) h0 ⟨rfl, rfl, rfl, rfl, rfl, rfl⟩ (fun _ => rfl) (t_211 hN (h0 := h0)) (fun r6 => ?_)
      exact i_ri (by decide +kernel) rfl
    · refine i_bl (pc' := 91) [(.iconst 0, 1)] [some (.ref a0), some (.int x1), some (.int x2), some (.int x3), some (.int x4), o5, o6] [.int 0] (by decide +kernel) rfl ?_
      exact i_ri (by decide +kernel) rfl
  · refine i_bl (pc' := 91) [(.iconst 0, 1)] [some (.ref a0), some (.int x1), some (.int x2), some (.int x3), some (.int x4), o5, o6] [.int 0] (by decide +kernel) rfl ?_
    exact i_ri (by decide +kernel) rfl

noncomputable def d_220_39 (a0 : Nat) (x1 : Int32) (x2 : Int32) (x3 : Int32) (x4 : Int32) (x5 : Bool) (s0 : Int32) (m : Mm) : Option (Int32 × Mm) := if x5 = true then ((d_185 x3 0 (s0 - 1)).bind fun v7 => if v7 = true then (d_220_66 a0 x1 x2 x3 x4 a0 true m) else (d_220_66 a0 x1 x2 x3 x4 a0 false m)) else (d_220_66 a0 x1 x2 x3 x4 a0 false m)
theorem t_220_39 {L nx : Nat} (hN : okn nx) {b z : Nat} {m : Mm} {a0 : Nat} (h0 : ok nx a0 11) {x1 : Int32} {x2 : Int32} {x3 : Int32} {x4 : Int32} {x5 : Bool} {s0 : Int32}  : Im (d_220_39 a0 x1 x2 x3 x4 x5 s0 m) (wI L nx) (ev_dn b z 220 39 [some (.ref a0), some (.int x1), some (.int x2), some (.int x3), some (.int x4), some (.int (bi x5)), none] [.int s0] (nx, mem L nx m)) := by
  unfold d_220_39
  refine i_bl (pc' := 44) [(.istore 6, 2), (.aload_n 0, 1), (.iload 5, 2)] [some (.ref a0), some (.int x1), some (.int x2), some (.int x3), some (.int x4), some (.int (bi x5)), some (.int s0)] [.int (bi x5), .ref a0] (by decide +kernel) rfl ?_
  refine i_bz (off := 21) (t := 65) (pc' := 47) (by decide +kernel) ?_ ?_
  · refine i_bl (pc' := 55) [(.iload_n 3, 1), (.i2l, 1), (.lconst 0, 1), (.iload 6, 2), (.iconst 1, 1), (.isub, 1), (.i2l, 1)] [some (.ref a0), some (.int x1), some (.int x2), some (.int x3), some (.int x4), some (.int (bi x5)), some (.int s0)] [.long (s0 - 1).toInt64, .long (0 : Int32).toInt64, .long x3.toInt64, .ref a0] (by decide +kernel) rfl ?_
    refine i_cs (t := 185) (na := 3) (ml := 6) (idx := 148) (pc' := 58) (st' := [.ref a0]) (en := [some (.long x3.toInt64), none, some (.long (0 : Int32).toInt64), none, some (.long (s0 - 1).toInt64), none]) (av := [.long x3.toInt64, .long (0 : Int32).toInt64, .long (s0 - 1).toInt64]) (vo := fun v => some (.int (bi v))) (mo := fun _ => m) (s2 := fun v => .int (bi v) :: [.ref a0]) (by decide +kernel) ⟨rfl, rfl, rfl, rfl, rfl, rfl⟩ (fun _ => rfl) (t_185 hN ) (fun v7 => ?_)
    refine i_bz (off := 7) (t := 65) (pc' := 61) (by decide +kernel) ?_ ?_
    · refine i_bl (pc' := 62) [(.iconst 1, 1)] [some (.ref a0), some (.int x1), some (.int x2), some (.int x3), some (.int x4), some (.int (bi x5)), some (.int s0)] [.int 1, .ref a0] (by decide +kernel) rfl ?_
      refine i_go (t := 66) (off := 4) (by decide +kernel) ?_
      exact t_220_66 hN (h0 := h0) (hs0 := h0)
    · refine i_bl (pc' := 66) [(.iconst 0, 1)] [some (.ref a0), some (.int x1), some (.int x2), some (.int x3), some (.int x4), some (.int (bi x5)), some (.int s0)] [.int 0, .ref a0] (by decide +kernel) rfl ?_
      exact t_220_66 hN (h0 := h0) (hs0 := h0)
  · refine i_bl (pc' := 66) [(.iconst 0, 1)] [some (.ref a0), some (.int x1), some (.int x2), some (.int x3), some (.int x4), some (.int (bi x5)), some (.int s0)] [.int 0, .ref a0] (by decide +kernel) rfl ?_
    exact t_220_66 hN (h0 := h0) (hs0 := h0)

noncomputable def d_220_19 (a0 : Nat) (x1 : Int32) (x2 : Int32) (x3 : Int32) (x4 : Int32) (s0 : Bool) (m : Mm) : Option (Int32 × Mm) := if s0 = true then ((d_194 x1).bind fun v8 => (d_210 a0 v8 x2 m).bind fun r9 => d_220_39 a0 x1 x2 x3 x4 s0 r9.1 r9.2) else (d_220_39 a0 x1 x2 x3 x4 s0 0 m)
theorem t_220_19 {L nx : Nat} (hN : okn nx) {b z : Nat} {m : Mm} {a0 : Nat} (h0 : ok nx a0 11) {x1 : Int32} {x2 : Int32} {x3 : Int32} {x4 : Int32} {s0 : Bool}  : Im (d_220_19 a0 x1 x2 x3 x4 s0 m) (wI L nx) (ev_dn b z 220 19 [some (.ref a0), some (.int x1), some (.int x2), some (.int x3), some (.int x4), none, none] [.int (bi s0)] (nx, mem L nx m)) := by
  unfold d_220_19
  refine i_bl (pc' := 23) [(.istore 5, 2), (.iload 5, 2)] [some (.ref a0), some (.int x1), some (.int x2), some (.int x3), some (.int x4), some (.int (bi s0)), none] [.int (bi s0)] (by decide +kernel) rfl ?_
  refine i_bz (off := 15) (t := 38) (pc' := 26) (by decide +kernel) ?_ ?_
  · refine i_bl (pc' := 28) [(.aload_n 0, 1), (.iload_n 1, 1)] [some (.ref a0), some (.int x1), some (.int x2), some (.int x3), some (.int x4), some (.int (bi s0)), none] [.int x1, .ref a0] (by decide +kernel) rfl ?_
    refine i_cs (t := 194) (na := 1) (ml := 1) (idx := 165) (pc' := 31) (st' := [.ref a0]) (en := [some (.int x1)]) (av := [.int x1]) (vo := fun v => some (.int v)) (mo := fun _ => m) (s2 := fun v => .int v :: [.ref a0]) (by decide +kernel) ⟨rfl, rfl, rfl, rfl, rfl, rfl⟩ (fun _ => rfl) (t_194 hN ) (fun v8 => ?_)
    refine i_bl (pc' := 32) [(.iload_n 2, 1)] [some (.ref a0), some (.int x1), some (.int x2), some (.int x3), some (.int x4), some (.int (bi s0)), none] [.int x2, .int v8, .ref a0] (by decide +kernel) rfl ?_
    refine i_cv (ci := 11) (t := 210) (na := 3) (ml := 6) (idx := 171) (pc' := 35) (st' := []) (en := [some (.ref a0), some (.int v8), some (.int x2), none, none, none]) (av := [.int v8, .int x2]) (vo := fun v => some (.int v.1)) (mo := fun v => v.2) (s2 := fun v => .int v.1 :: []) (by decide +kernel) (by decide +kernel) h0 ⟨rfl, rfl, rfl, rfl, rfl, rfl⟩ (fun _ => rfl) (t_210 hN (h0 := h0)) (fun r9 => ?_)
    refine i_go (t := 39) (off := 4) (by decide +kernel) ?_
    exact t_220_39 hN (h0 := h0)
  · refine i_bl (pc' := 39) [(.iconst 0, 1)] [some (.ref a0), some (.int x1), some (.int x2), some (.int x3), some (.int x4), some (.int (bi s0)), none] [.int 0] (by decide +kernel) rfl ?_
    exact t_220_39 hN (h0 := h0)

noncomputable def d_220 (a0 : Nat) (x1 : Int32) (x2 : Int32) (x3 : Int32) (x4 : Int32) (m : Mm) : Option (Int32 × Mm) := (d_212 x1).bind fun v1 => if v1 = true then ((d_212 x2).bind fun v10 => if v10 = true then (d_220_19 a0 x1 x2 x3 x4 true m) else (d_220_19 a0 x1 x2 x3 x4 false m)) else (d_220_19 a0 x1 x2 x3 x4 false m)
theorem t_220 {L nx : Nat} (hN : okn nx) {b z : Nat} {m : Mm} {a0 : Nat} (h0 : ok nx a0 11) {x1 : Int32} {x2 : Int32} {x3 : Int32} {x4 : Int32}  : Im (d_220 a0 x1 x2 x3 x4 m) (wI L nx) (ev_dn b z 220 0 [some (.ref a0), some (.int x1), some (.int x2), some (.int x3), some (.int x4), none, none] [] (nx, mem L nx m)) := by
  unfold d_220
  refine i_bl (pc' := 1) [(.iload_n 1, 1)] [some (.ref a0), some (.int x1), some (.int x2), some (.int x3), some (.int x4), none, none] [.int x1] (by decide +kernel) rfl ?_
  refine i_cs (t := 212) (na := 1) (ml := 1) (idx := 154) (pc' := 4) (st' := []) (en := [some (.int x1)]) (av := [.int x1]) (vo := fun v => some (.int (bi v))) (mo := fun _ => m) (s2 := fun v => .int (bi v) :: []) (by decide +kernel) ⟨rfl, rfl, rfl, rfl, rfl, rfl⟩ (fun _ => rfl) (t_212 hN ) (fun v1 => ?_)
  refine i_bz (off := 14) (t := 18) (pc' := 7) (by decide +kernel) ?_ ?_
  · refine i_bl (pc' := 8) [(.iload_n 2, 1)] [some (.ref a0), some (.int x1), some (.int x2), some (.int x3), some (.int x4), none, none] [.int x2] (by decide +kernel) rfl ?_
    refine i_cs (t := 212) (na := 1) (ml := 1) (idx := 154) (pc' := 11) (st' := []) (en := [some (.int x2)]) (av := [.int x2]) (vo := fun v => some (.int (bi v))) (mo := fun _ => m) (s2 := fun v => .int (bi v) :: []) (by decide +kernel) ⟨rfl, rfl, rfl, rfl, rfl, rfl⟩ (fun _ => rfl) (t_212 hN ) (fun v10 => ?_)
    refine i_bz (off := 7) (t := 18) (pc' := 14) (by decide +kernel) ?_ ?_
    · refine i_bl (pc' := 15) [(.iconst 1, 1)] [some (.ref a0), some (.int x1), some (.int x2), some (.int x3), some (.int x4), none, none] [.int 1] (by decide +kernel) rfl ?_
      refine i_go (t := 19) (off := 4) (by decide +kernel) ?_
      exact t_220_19 hN (h0 := h0)
    · refine i_bl (pc' := 19) [(.iconst 0, 1)] [some (.ref a0), some (.int x1), some (.int x2), some (.int x3), some (.int x4), none, none] [.int 0] (by decide +kernel) rfl ?_
      exact t_220_19 hN (h0 := h0)
  · refine i_bl (pc' := 19) [(.iconst 0, 1)] [some (.ref a0), some (.int x1), some (.int x2), some (.int x3), some (.int x4), none, none] [.int 0] (by decide +kernel) rfl ?_
    exact t_220_19 hN (h0 := h0)

/-! 222 LanternChessModel.aheadOf(II)I -/
noncomputable def E_222_5 (L nx b z : Nat) (a0 : Nat) (x1 : Int32) (x2 : Int32) (m : Mm) (d : Unit) (s : (Int32 × Int32)) : ev_Q := ev_dn b z 222 5 [some (.ref a0), some (.int x1), some (.int x2), some (.int s.1), some (.int s.2)] [] (nx, mem L nx m)
noncomputable def d_222_49 (a0 : Nat) (x1 : Int32) (x2 : Int32) (x3 : Int32) (x4 : Int32) (m : Mm) : Option ((Int32 × Int32) ⊕ Int32) := wb (x3 + 1) fun y1 => wb (x4 + 1) fun y2 => some (.inl (y1, y2))
theorem t_222_49 {L nx : Nat} (hN : okn nx) {b z : Nat} {m : Mm} {a0 : Nat} (h0 : ok nx a0 11) {x1 : Int32} {x2 : Int32} {x3 : Int32} {x4 : Int32}  : Im (d_222_49 a0 x1 x2 x3 x4 m) (kL (kI L nx m) (E_222_5 L nx b z a0 x1 x2 m)) (ev_dn b z 222 49 [some (.ref a0), some (.int x1), some (.int x2), some (.int x3), some (.int x4)] [] (nx, mem L nx m)) := by
  unfold d_222_49
  refine i_bl (pc' := 53) [(.iload_n 3, 1), (.iconst 1, 1), (.iadd, 1), (.istore_n 3, 1)] [some (.ref a0), some (.int x1), some (.int x2), some (.int (x3 + 1)), some (.int x4)] [] (by decide +kernel) rfl ?_
  refine i_wb (fun y1 => ev_dn b z 222 53 [some (.ref a0), some (.int x1), some (.int x2), some (.int y1), some (.int x4)] [] (nx, mem L nx m)) (fun y1 => ?_)
  refine i_bl (pc' := 56) [(.iinc 4 (1), 3)] [some (.ref a0), some (.int x1), some (.int x2), some (.int y1), some (.int (x4 + 1))] [] (by decide +kernel) rfl ?_
  refine i_wb (fun y2 => ev_dn b z 222 56 [some (.ref a0), some (.int x1), some (.int x2), some (.int y1), some (.int y2)] [] (nx, mem L nx m)) (fun y2 => ?_)
  refine i_go (t := 5) (off := -51) (by decide +kernel) ?_
  exact i_co () rfl

noncomputable def s_222_5 (a0 : Nat) (x1 : Int32) (x2 : Int32) (m : Mm) (x3 : Int32) (x4 : Int32) : Option ((Int32 × Int32) ⊕ Int32) := if x2 ≤ x4 then (some (.inr x3)) else (if ev_in x4 (sh_n (sh_r a0 12)) = true then (if ev_in x1 (sh_n (sh_r a0 12)) = true then (if (m (sh_r a0 12) (ix x1)) < (m (sh_r a0 12) (ix x4)) then (d_222_49 a0 x1 x2 x3 x4 m) else (if ev_in x4 (sh_n (sh_r a0 12)) = true then (if ev_in x1 (sh_n (sh_r a0 12)) = true then (if ¬ (m (sh_r a0 12) (ix x4)) = (m (sh_r a0 12) (ix x1)) then (wb (x4 + 1) fun y3 => some (.inl (x3, y3))) else (if x1 ≤ x4 then (wb (x4 + 1) fun y4 => some (.inl (x3, y4))) else (d_222_49 a0 x1 x2 x3 x4 m))) else none) else none)) else none) else none)
noncomputable def d_222_5 (a0 : Nat) (x1 : Int32) (x2 : Int32) (m : Mm) (x3 : Int32) (x4 : Int32) : Option Int32 := it (fun s => s_222_5 a0 x1 x2 m s.1 s.2) (x3, x4)
theorem e_222_5 (a0 : Nat) (x1 : Int32) (x2 : Int32) (m : Mm) (x3 : Int32) (x4 : Int32) : d_222_5 a0 x1 x2 m x3 x4 = oi (s_222_5 a0 x1 x2 m x3 x4) (fun s => d_222_5 a0 x1 x2 m s.1 s.2) := it_eq _
theorem u_222_5 {L nx : Nat} (hN : okn nx) {b z : Nat} {m : Mm} {a0 : Nat} (h0 : ok nx a0 11) {x1 : Int32} {x2 : Int32} {x3 : Int32} {x4 : Int32}  : Im (s_222_5 a0 x1 x2 m x3 x4) (kL (kI L nx m) (E_222_5 L nx b z a0 x1 x2 m)) (ev_dn b z 222 5 [some (.ref a0), some (.int x1), some (.int x2), some (.int x3), some (.int x4)] [] (nx, mem L nx m)) := by
  unfold s_222_5
  refine i_bl (pc' := 8) [(.iload 4, 2), (.iload_n 2, 1)] [some (.ref a0), some (.int x1), some (.int x2), some (.int x3), some (.int x4)] [.int x2, .int x4] (by decide +kernel) rfl ?_
  refine i_ic (c := .ge) (off := 51) (t := 59) (pc' := 11) (p := x2 ≤ x4) (by decide +kernel) rfl ?_ ?_
  · refine i_bl (pc' := 60) [(.iload_n 3, 1)] [some (.ref a0), some (.int x1), some (.int x2), some (.int x3), some (.int x4)] [.int x3] (by decide +kernel) rfl ?_
    exact i_ir (i_ri (by decide +kernel) rfl)
  · refine i_bl (pc' := 12) [(.aload_n 0, 1)] [some (.ref a0), some (.int x1), some (.int x2), some (.int x3), some (.int x4)] [.ref a0] (by decide +kernel) rfl ?_
    refine i_gr (idx := 37) (ci := 11) (k := 12) (t := 2) (p := 17005) (pc' := 15) (by decide +kernel) h0 ?_
    refine i_bl (pc' := 17) [(.iload 4, 2)] [some (.ref a0), some (.int x1), some (.int x2), some (.int x3), some (.int x4)] [.int x4, .ref (sh_r a0 12)] (by decide +kernel) rfl ?_
    refine i_al (pc' := 18) (by decide +kernel) (o_11_12 hN h0) ?_
    refine i_bl (pc' := 19) [(.aload_n 0, 1)] [some (.ref a0), some (.int x1), some (.int x2), some (.int x3), some (.int x4)] [.ref a0, .int (m (sh_r a0 12) (ix x4))] (by decide +kernel) rfl ?_
    refine i_gr (idx := 37) (ci := 11) (k := 12) (t := 2) (p := 17005) (pc' := 22) (by decide +kernel) h0 ?_
    refine i_bl (pc' := 23) [(.iload_n 1, 1)] [some (.ref a0), some (.int x1), some (.int x2), some (.int x3), some (.int x4)] [.int x1, .ref (sh_r a0 12), .int (m (sh_r a0 12) (ix x4))] (by decide +kernel) rfl ?_
    refine i_al (pc' := 24) (by decide +kernel) (o_11_12 hN h0) ?_
    refine i_ic (c := .gt) (off := 25) (t := 49) (pc' := 27) (p := (m (sh_r a0 12) (ix x1)) < (m (sh_r a0 12) (ix x4))) (by decide +kernel) rfl ?_ ?_
    · exact t_222_49 hN (h0 := h0)
    · refine i_bl (pc' := 28) [(.aload_n 0, 1)] [some (.ref a0), some (.int x1), some (.int x2), some (.int x3), some (.int x4)] [.ref a0] (by decide +kernel) rfl ?_
      refine i_gr (idx := 37) (ci := 11) (k := 12) (t := 2) (p := 17005) (pc' := 31) (by decide +kernel) h0 ?_
      refine i_bl (pc' := 33) [(.iload 4, 2)] [some (.ref a0), some (.int x1), some (.int x2), some (.int x3), some (.int x4)] [.int x4, .ref (sh_r a0 12)] (by decide +kernel) rfl ?_
      refine i_al (pc' := 34) (by decide +kernel) (o_11_12 hN h0) ?_
      refine i_bl (pc' := 35) [(.aload_n 0, 1)] [some (.ref a0), some (.int x1), some (.int x2), some (.int x3), some (.int x4)] [.ref a0, .int (m (sh_r a0 12) (ix x4))] (by decide +kernel) rfl ?_
      refine i_gr (idx := 37) (ci := 11) (k := 12) (t := 2) (p := 17005) (pc' := 38) (by decide +kernel) h0 ?_
      refine i_bl (pc' := 39) [(.iload_n 1, 1)] [some (.ref a0), some (.int x1), some (.int x2), some (.int x3), some (.int x4)] [.int x1, .ref (sh_r a0 12), .int (m (sh_r a0 12) (ix x4))] (by decide +kernel) rfl ?_
      refine i_al (pc' := 40) (by decide +kernel) (o_11_12 hN h0) ?_
      refine i_ic (c := .ne) (off := 13) (t := 53) (pc' := 43) (p := ¬ (m (sh_r a0 12) (ix x4)) = (m (sh_r a0 12) (ix x1))) (by decide +kernel) rfl ?_ ?_
      · refine i_bl (pc' := 56) [(.iinc 4 (1), 3)] [some (.ref a0), some (.int x1), some (.int x2), some (.int x3), some (.int (x4 + 1))] [] (by decide +kernel) rfl ?_
        refine i_wb (fun y3 => ev_dn b z 222 56 [some (.ref a0), some (.int x1), some (.int x2), some (.int x3), some (.int y3)] [] (nx, mem L nx m)) (fun y3 => ?_)
        refine i_go (t := 5) (off := -51) (by decide +kernel) ?_
        exact i_co () rfl
      · refine i_bl (pc' := 46) [(.iload 4, 2), (.iload_n 1, 1)] [some (.ref a0), some (.int x1), some (.int x2), some (.int x3), some (.int x4)] [.int x1, .int x4] (by decide +kernel) rfl ?_
        refine i_ic (c := .ge) (off := 7) (t := 53) (pc' := 49) (p := x1 ≤ x4) (by decide +kernel) rfl ?_ ?_
        · refine i_bl (pc' := 56) [(.iinc 4 (1), 3)] [some (.ref a0), some (.int x1), some (.int x2), some (.int x3), some (.int (x4 + 1))] [] (by decide +kernel) rfl ?_
          refine i_wb (fun y4 => ev_dn b z 222 56 [some (.ref a0), some (.int x1), some (.int x2), some (.int x3), some (.int y4)] [] (nx, mem L nx m)) (fun y4 => ?_)
          refine i_go (t := 5) (off := -51) (by decide +kernel) ?_
          exact i_co () rfl
        · exact t_222_49 hN (h0 := h0)

theorem t_222_5 {L nx : Nat} (hN : okn nx) {b z : Nat} {m : Mm} {a0 : Nat} (h0 : ok nx a0 11) {x1 : Int32} {x2 : Int32} {x3 : Int32} {x4 : Int32}  : Im (d_222_5 a0 x1 x2 m x3 x4) (kI L nx m) (ev_dn b z 222 5 [some (.ref a0), some (.int x1), some (.int x2), some (.int x3), some (.int x4)] [] (nx, mem L nx m)) := by
  exact i_it (f := fun s => s_222_5 a0 x1 x2 m s.1 s.2) (E := E_222_5 L nx b z a0 x1 x2 m) (K := (kI L nx m)) (fun d s => u_222_5 hN (h0 := h0)) () (x3, x4)
noncomputable def d_222 (a0 : Nat) (x1 : Int32) (x2 : Int32) (m : Mm) : Option Int32 := d_222_5 a0 x1 x2 m 0 0
theorem t_222 {L nx : Nat} (hN : okn nx) {b z : Nat} {m : Mm} {a0 : Nat} (h0 : ok nx a0 11) {x1 : Int32} {x2 : Int32}  : Im (d_222 a0 x1 x2 m) (kI L nx m) (ev_dn b z 222 0 [some (.ref a0), some (.int x1), some (.int x2), none, none] [] (nx, mem L nx m)) := by
  unfold d_222
  refine i_bl (pc' := 5) [(.iconst 0, 1), (.istore_n 3, 1), (.iconst 0, 1), (.istore 4, 2)] [some (.ref a0), some (.int x1), some (.int x2), some (.int 0), some (.int 0)] [] (by decide +kernel) rfl ?_
  exact t_222_5 hN (h0 := h0)

/-! 221 LanternChessModel.ranked(II)I -/
noncomputable def E_221_62 (L nx b z : Nat) (a0 : Nat) (x1 : Int32) (x2 : Int32) (x3 : Int32) (x4 : Int32) (x5 : Int32) (d : Unit) (s : (Int32 × Mm)) : ev_Q := ev_dn b z 221 62 [some (.ref a0), some (.int x1), some (.int x2), some (.int x3), some (.int x4), some (.int x5), some (.int s.1)] [] (nx, mem L nx s.2)
noncomputable def E_221_106 (L nx b z : Nat) (a0 : Nat) (x1 : Int32) (x2 : Int32) (x3 : Int32) (x4 : Int32) (x5 : Int32) (m : Mm) (d : Unit) (s : (Int32)) : ev_Q := ev_dn b z 221 106 [some (.ref a0), some (.int x1), some (.int x2), some (.int x3), some (.int x4), some (.int x5), some (.int s)] [] (nx, mem L nx m)
noncomputable def d_221_127 (a0 : Nat) (x2 : Int32) (x3 : Int32) (x4 : Int32) (x6 : Int32) (m : Mm) : Option (Int32 × Mm) := (d_211 a0 x4 x3 x6 x2 m).bind fun r9 => some (r9.1, r9.2)
theorem t_221_127 {L nx : Nat} (hN : okn nx) {b z : Nat} {m : Mm} {a0 : Nat} (h0 : ok nx a0 11) {x2 : Int32} {x3 : Int32} {x4 : Int32} {x6 : Int32} {o1 : Option Value} {o5 : Option Value} : Im (d_221_127 a0 x2 x3 x4 x6 m) (wI L nx) (ev_dn b z 221 127 [some (.ref a0), o1, some (.int x2), some (.int x3), some (.int x4), o5, some (.int x6)] [] (nx, mem L nx m)) := by
  unfold d_221_127
  refine i_bl (pc' := 134) [(.aload_n 0, 1), (.iload 4, 2), (.iload_n 3, 1), (.iload 6, 2), (.iload_n 2, 1)] [some (.ref a0), o1, some (.int x2), some (.int x3), some (.int x4), o5, some (.int x6)] [.int x2, .int x6, .int x3, .int x4, .ref a0] (by decide +kernel) rfl ?_
  refine i_cv (ci := 11) (t := 211) (na := 5) (ml := 5) (idx := 176) (pc' := 137) (st' := []) (en := [some (.ref a0), some (.int x4), some (.int x3), some (.int x6), some (.int x2)]) (av := [.int x4, .int x3, .int x6, .int x2]) (vo := fun v => some (.int v.1)) (mo := fun v => v.2) (s2 := fun v => .int v.1 :: []) (by decide +kernel) (by decide +kernel) h0 ⟨rfl, rfl, rfl, rfl, rfl, rfl⟩ (fun _ => rfl) (t_211 hN (h0 := h0)) (fun r9 => ?_)
  exact i_ri (by decide +kernel) rfl

noncomputable def s_221_106 (a0 : Nat) (x1 : Int32) (x2 : Int32) (x3 : Int32) (x4 : Int32) (x5 : Int32) (m : Mm) (x6 : Int32) : Option ((Int32) ⊕ (Int32 × Mm)) := (d_222 a0 x6 x5 m).bind fun v8 => if v8 = x1 then ((d_221_127 a0 x2 x3 x4 x6 m).map Sum.inr) else (wb (x6 + 1) fun y10 => some (.inl (y10)))
noncomputable def d_221_106 (a0 : Nat) (x1 : Int32) (x2 : Int32) (x3 : Int32) (x4 : Int32) (x5 : Int32) (m : Mm) (x6 : Int32) : Option (Int32 × Mm) := it (fun s => s_221_106 a0 x1 x2 x3 x4 x5 m s) (x6)
theorem e_221_106 (a0 : Nat) (x1 : Int32) (x2 : Int32) (x3 : Int32) (x4 : Int32) (x5 : Int32) (m : Mm) (x6 : Int32) : d_221_106 a0 x1 x2 x3 x4 x5 m x6 = oi (s_221_106 a0 x1 x2 x3 x4 x5 m x6) (fun s => d_221_106 a0 x1 x2 x3 x4 x5 m s) := it_eq _
theorem u_221_106 {L nx : Nat} (hN : okn nx) {b z : Nat} {m : Mm} {a0 : Nat} (h0 : ok nx a0 11) {x1 : Int32} {x2 : Int32} {x3 : Int32} {x4 : Int32} {x5 : Int32} {x6 : Int32}  : Im (s_221_106 a0 x1 x2 x3 x4 x5 m x6) (kL (wI L nx) (E_221_106 L nx b z a0 x1 x2 x3 x4 x5 m)) (ev_dn b z 221 106 [some (.ref a0), some (.int x1), some (.int x2), some (.int x3), some (.int x4), some (.int x5), some (.int x6)] [] (nx, mem L nx m)) := by
  unfold s_221_106
  refine i_bl (pc' := 111) [(.aload_n 0, 1), (.iload 6, 2), (.iload 5, 2)] [some (.ref a0), some (.int x1), some (.int x2), some (.int x3), some (.int x4), some (.int x5), some (.int x6)] [.int x5, .int x6, .ref a0] (by decide +kernel) rfl ?_
  refine i_cv (ci := 11) (t := 222) (na := 3) (ml := 5) (idx := 179) (pc' := 114) (st' := []) (en := [some (.ref a0), some (.int x6), some (.int x5), none, none]) (av := [.int x6, .int x5]) (vo := fun v => some (.int v)) (mo := fun _ => m) (s2 := fun v => .int v :: []) (by decide +kernel) (by decide +kernel) h0 ⟨rfl, rfl, rfl, rfl, rfl, rfl⟩ (fun _ => rfl) (t_222 hN (h0 := h0)) (fun v8 => ?_)
  refine i_bl (pc' := 115) [(.iload_n 1, 1)] [some (.ref a0), some (.int x1), some (.int x2), some (.int x3), some (.int x4), some (.int x5), some (.int x6)] [.int x1, .int v8] (by decide +kernel) rfl ?_
  refine i_ic (c := .eq) (off := 12) (t := 127) (pc' := 118) (p := v8 = x1) (by decide +kernel) rfl ?_ ?_
  · exact i_mr (t_221_127 hN (h0 := h0))
  · refine i_bl (pc' := 124) [(.iload 6, 2), (.iconst 1, 1), (.iadd, 1), (.istore 6, 2)] [some (.ref a0), some (.int x1), some (.int x2), some (.int x3), some (.int x4), some (.int x5), some (.int (x6 + 1))] [] (by decide +kernel) rfl ?_
    refine i_wb (fun y10 => ev_dn b z 221 124 [some (.ref a0), some (.int x1), some (.int x2), some (.int x3), some (.int x4), some (.int x5), some (.int y10)] [] (nx, mem L nx m)) (fun y10 => ?_)
    refine i_go (t := 106) (off := -18) (by decide +kernel) ?_
    exact i_co () rfl

theorem t_221_106 {L nx : Nat} (hN : okn nx) {b z : Nat} {m : Mm} {a0 : Nat} (h0 : ok nx a0 11) {x1 : Int32} {x2 : Int32} {x3 : Int32} {x4 : Int32} {x5 : Int32} {x6 : Int32}  : Im (d_221_106 a0 x1 x2 x3 x4 x5 m x6) (wI L nx) (ev_dn b z 221 106 [some (.ref a0), some (.int x1), some (.int x2), some (.int x3), some (.int x4), some (.int x5), some (.int x6)] [] (nx, mem L nx m)) := by
  exact i_it (f := fun s => s_221_106 a0 x1 x2 x3 x4 x5 m s) (E := E_221_106 L nx b z a0 x1 x2 x3 x4 x5 m) (K := (wI L nx)) (fun d s => u_221_106 hN (h0 := h0)) () (x6)
noncomputable def s_221_62 (a0 : Nat) (x1 : Int32) (x2 : Int32) (x3 : Int32) (x4 : Int32) (x5 : Int32) (x6 : Int32) (m : Mm) : Option ((Int32 × Mm) ⊕ (Int32 × Mm)) := if x5 ≤ x6 then ((d_221_106 a0 x1 x2 x3 x4 x5 m 0).map Sum.inr) else (if ev_in x6 (sh_n (sh_r a0 10)) = true then (if ev_in x6 (sh_n (sh_r a0 11)) = true then ((d_208 a0 x4 x3 (m (sh_r a0 10) (ix x6)) (m (sh_r a0 11) (ix x6)) m).bind fun r11 => if ev_in x6 (sh_n (sh_r a0 12)) = true then (wb (wr r11.2 (sh_r a0 12) (ix x6) r11.1) fun m12 => wb (x6 + 1) fun y13 => some (.inl (y13, m12))) else none) else none) else none)
noncomputable def d_221_62 (a0 : Nat) (x1 : Int32) (x2 : Int32) (x3 : Int32) (x4 : Int32) (x5 : Int32) (x6 : Int32) (m : Mm) : Option (Int32 × Mm) := it (fun s => s_221_62 a0 x1 x2 x3 x4 x5 s.1 s.2) (x6, m)
theorem e_221_62 (a0 : Nat) (x1 : Int32) (x2 : Int32) (x3 : Int32) (x4 : Int32) (x5 : Int32) (x6 : Int32) (m : Mm) : d_221_62 a0 x1 x2 x3 x4 x5 x6 m = oi (s_221_62 a0 x1 x2 x3 x4 x5 x6 m) (fun s => d_221_62 a0 x1 x2 x3 x4 x5 s.1 s.2) := it_eq _
theorem u_221_62 {L nx : Nat} (hN : okn nx) {b z : Nat} {m : Mm} {a0 : Nat} (h0 : ok nx a0 11) {x1 : Int32} {x2 : Int32} {x3 : Int32} {x4 : Int32} {x5 : Int32} {x6 : Int32}  : Im (s_221_62 a0 x1 x2 x3 x4 x5 x6 m) (kL (wI L nx) (E_221_62 L nx b z a0 x1 x2 x3 x4 x5)) (ev_dn b z 221 62 [some (.ref a0), some (.int x1), some (.int x2), some (.int x3), some (.int x4), some (.int x5), some (.int x6)] [] (nx, mem L nx m)) := by
  unfold s_221_62
  refine i_bl (pc' := 66) [(.iload 6, 2), (.iload 5, 2)] [some (.ref a0), some (.int x1), some (.int x2), some (.int x3), some (.int x4), some (.int x5), some (.int x6)] [.int x5, .int x6] (by decide +kernel) rfl ?_
  refine i_ic (c := .ge) (off := 37) (t := 103) (pc' := 69) (p := x5 ≤ x6) (by decide +kernel) rfl ?_ ?_
  · refine i_bl (pc' := 106) [(.iconst 0, 1), (.istore 6, 2)] [some (.ref a0), some (.int x1), some (.int x2), some (.int x3), some (.int x4), some (.int x5), some (.int 0)] [] (by decide +kernel) rfl ?_
    exact i_mr (t_221_106 hN (h0 := h0))
  · refine i_bl (pc' := 70) [(.aload_n 0, 1)] [some (.ref a0), some (.int x1), some (.int x2), some (.int x3), some (.int x4), some (.int x5), some (.int x6)] [.ref a0] (by decide +kernel) rfl ?_
    refine i_gr (idx := 37) (ci := 11) (k := 12) (t := 2) (p := 17005) (pc' := 73) (by decide +kernel) h0 ?_
    refine i_bl (pc' := 80) [(.iload 6, 2), (.aload_n 0, 1), (.iload 4, 2), (.iload_n 3, 1), (.aload_n 0, 1)] [some (.ref a0), some (.int x1), some (.int x2), some (.int x3), some (.int x4), some (.int x5), some (.int x6)] [.ref a0, .int x3, .int x4, .ref a0, .int x6, .ref (sh_r a0 12)] (by decide +kernel) rfl ?_
    refine i_gr (idx := 31) (ci := 11) (k := 10) (t := 2) (p := 17003) (pc' := 83) (by decide +kernel) h0 ?_
    refine i_bl (pc' := 85) [(.iload 6, 2)] [some (.ref a0), some (.int x1), some (.int x2), some (.int x3), some (.int x4), some (.int x5), some (.int x6)] [.int x6, .ref (sh_r a0 10), .int x3, .int x4, .ref a0, .int x6, .ref (sh_r a0 12)] (by decide +kernel) rfl ?_
    refine i_al (pc' := 86) (by decide +kernel) (o_11_10 hN h0) ?_
    refine i_bl (pc' := 87) [(.aload_n 0, 1)] [some (.ref a0), some (.int x1), some (.int x2), some (.int x3), some (.int x4), some (.int x5), some (.int x6)] [.ref a0, .int (m (sh_r a0 10) (ix x6)), .int x3, .int x4, .ref a0, .int x6, .ref (sh_r a0 12)] (by decide +kernel) rfl ?_
    refine i_gr (idx := 34) (ci := 11) (k := 11) (t := 2) (p := 17004) (pc' := 90) (by decide +kernel) h0 ?_
    refine i_bl (pc' := 92) [(.iload 6, 2)] [some (.ref a0), some (.int x1), some (.int x2), some (.int x3), some (.int x4), some (.int x5), some (.int x6)] [.int x6, .ref (sh_r a0 11), .int (m (sh_r a0 10) (ix x6)), .int x3, .int x4, .ref a0, .int x6, .ref (sh_r a0 12)] (by decide +kernel) rfl ?_
    refine i_al (pc' := 93) (by decide +kernel) (o_11_11 hN h0) ?_
    refine i_cv (ci := 11) (t := 208) (na := 5) (ml := 9) (idx := 144) (pc' := 96) (st' := [.int x6, .ref (sh_r a0 12)]) (en := [some (.ref a0), some (.int x4), some (.int x3), some (.int (m (sh_r a0 10) (ix x6))), some (.int (m (sh_r a0 11) (ix x6))), none, none, none, none]) (av := [.int x4, .int x3, .int (m (sh_r a0 10) (ix x6)), .int (m (sh_r a0 11) (ix x6))]) (vo := fun v => some (.int v.1)) (mo := fun v => v.2) (s2 := fun v => .int v.1 :: [.int x6, .ref (sh_r a0 12)]) (by decide +kernel) (by decide +kernel) h0 ⟨rfl, rfl, rfl, rfl, rfl, rfl⟩ (fun _ => rfl) (t_208 hN (h0 := h0)) (fun r11 => ?_)
    refine i_as (y := r11.1) (pc' := 97) (by decide +kernel) (o_11_12 hN h0) (fun m12 => ?_)
    refine i_bl (pc' := 100) [(.iinc 6 (1), 3)] [some (.ref a0), some (.int x1), some (.int x2), some (.int x3), some (.int x4), some (.int x5), some (.int (x6 + 1))] [] (by decide +kernel) rfl ?_
    refine i_wb (fun y13 => ev_dn b z 221 100 [some (.ref a0), some (.int x1), some (.int x2), some (.int x3), some (.int x4), some (.int x5), some (.int y13)] [] (nx, mem L nx m12)) (fun y13 => ?_)
    refine i_go (t := 62) (off := -38) (by decide +kernel) ?_
    exact i_co () rfl

theorem t_221_62 {L nx : Nat} (hN : okn nx) {b z : Nat} {m : Mm} {a0 : Nat} (h0 : ok nx a0 11) {x1 : Int32} {x2 : Int32} {x3 : Int32} {x4 : Int32} {x5 : Int32} {x6 : Int32}  : Im (d_221_62 a0 x1 x2 x3 x4 x5 x6 m) (wI L nx) (ev_dn b z 221 62 [some (.ref a0), some (.int x1), some (.int x2), some (.int x3), some (.int x4), some (.int x5), some (.int x6)] [] (nx, mem L nx m)) := by
  exact i_it (f := fun s => s_221_62 a0 x1 x2 x3 x4 x5 s.1 s.2) (E := E_221_62 L nx b z a0 x1 x2 x3 x4 x5) (K := (wI L nx)) (fun d s => u_221_62 hN (h0 := h0)) () (x6, m)
noncomputable def d_221 (a0 : Nat) (x1 : Int32) (x2 : Int32) (m : Mm) : Option (Int32 × Mm) := if ev_in 3 (sh_n (sh_r a0 1)) = true then (wb (m (sh_r a0 1) (ix 3)) fun y1 => (d_194 y1).bind fun v2 => (d_210 a0 v2 y1 m).bind fun r3 => (d_185 x1 0 (r3.1 - 1)).bind fun v4 => (d_183 a0 v4 r3.2).bind fun r5 => if r5.1 = true then ((d_185 x2 0 3).bind fun v6 => (d_184 a0 v6 2 r5.2).bind fun r7 => if r7.1 = true then (d_221_62 a0 x1 x2 y1 v2 r3.1 0 r7.2) else (some (0, r7.2))) else (some (0, r5.2))) else none
theorem t_221 {L nx : Nat} (hN : okn nx) {b z : Nat} {m : Mm} {a0 : Nat} (h0 : ok nx a0 11) {x1 : Int32} {x2 : Int32}  : Im (d_221 a0 x1 x2 m) (wI L nx) (ev_dn b z 221 0 [some (.ref a0), some (.int x1), some (.int x2), none, none, none, none] [] (nx, mem L nx m)) := by
  unfold d_221
  refine i_bl (pc' := 1) [(.aload_n 0, 1)] [some (.ref a0), some (.int x1), some (.int x2), none, none, none, none] [.ref a0] (by decide +kernel) rfl ?_
  refine i_gr (idx := 7) (ci := 11) (k := 1) (t := 2) (p := 16234) (pc' := 4) (by decide +kernel) h0 ?_
  refine i_bl (pc' := 5) [(.iconst 3, 1)] [some (.ref a0), some (.int x1), some (.int x2), none, none, none, none] [.int 3, .ref (sh_r a0 1)] (by decide +kernel) rfl ?_
  refine i_al (pc' := 6) (by decide +kernel) (o_11_1 hN h0) ?_
  refine i_bl (pc' := 7) [(.istore_n 3, 1)] [some (.ref a0), some (.int x1), some (.int x2), some (.int (m (sh_r a0 1) (ix 3))), none, none, none] [] (by decide +kernel) rfl ?_
  refine i_wb (fun y1 => ev_dn b z 221 7 [some (.ref a0), some (.int x1), some (.int x2), some (.int y1), none, none, none] [] (nx, mem L nx m)) (fun y1 => ?_)
  refine i_bl (pc' := 8) [(.iload_n 3, 1)] [some (.ref a0), some (.int x1), some (.int x2), some (.int y1), none, none, none] [.int y1] (by decide +kernel) rfl ?_
  refine i_cs (t := 194) (na := 1) (ml := 1) (idx := 165) (pc' := 11) (st' := []) (en := [some (.int y1)]) (av := [.int y1]) (vo := fun v => some (.int v)) (mo := fun _ => m) (s2 := fun v => .int v :: []) (by decide +kernel) ⟨rfl, rfl, rfl, rfl, rfl, rfl⟩ (fun _ => rfl) (t_194 hN ) (fun v2 => ?_)
  refine i_bl (pc' := 17) [(.istore 4, 2), (.aload_n 0, 1), (.iload 4, 2), (.iload_n 3, 1)] [some (.ref a0), some (.int x1), some (.int x2), some (.int y1), some (.int v2), none, none] [.int y1, .int v2, .ref a0] (by decide +kernel) rfl ?_
  refine i_cv (ci := 11) (t := 210) (na := 3) (ml := 6) (idx := 171) (pc' := 20) (st' := []) (en := [some (.ref a0), some (.int v2), some (.int y1), none, none, none]) (av := [.int v2, .int y1]) (vo := fun v => some (.int v.1)) (mo := fun v => v.2) (s2 := fun v => .int v.1 :: []) (by decide +kernel) (by decide +kernel) h0 ⟨rfl, rfl, rfl, rfl, rfl, rfl⟩ (fun _ => rfl) (t_210 hN (h0 := h0)) (fun r3 => ?_)
  refine i_bl (pc' := 31) [(.istore 5, 2), (.aload_n 0, 1), (.iload_n 1, 1), (.i2l, 1), (.lconst 0, 1), (.iload 5, 2), (.iconst 1, 1), (.isub, 1), (.i2l, 1)] [some (.ref a0), some (.int x1), some (.int x2), some (.int y1), some (.int v2), some (.int r3.1), none] [.long (r3.1 - 1).toInt64, .long (0 : Int32).toInt64, .long x1.toInt64, .ref a0] (by decide +kernel) rfl ?_
  refine i_cs (t := 185) (na := 3) (ml := 6) (idx := 148) (pc' := 34) (st' := [.ref a0]) (en := [some (.long x1.toInt64), none, some (.long (0 : Int32).toInt64), none, some (.long (r3.1 - 1).toInt64), none]) (av := [.long x1.toInt64, .long (0 : Int32).toInt64, .long (r3.1 - 1).toInt64]) (vo := fun v => some (.int (bi v))) (mo := fun _ => r3.2) (s2 := fun v => .int (bi v) :: [.ref a0]) (by decide +kernel) ⟨rfl, rfl, rfl, rfl, rfl, rfl⟩ (fun _ => rfl) (t_185 hN ) (fun v4 => ?_)
  refine i_cv (ci := 11) (t := 183) (na := 2) (ml := 2) (idx := 77) (pc' := 37) (st' := []) (en := [some (.ref a0), some (.int (bi v4))]) (av := [.int (bi v4)]) (vo := fun v => some (.int (bi v.1))) (mo := fun v => v.2) (s2 := fun v => .int (bi v.1) :: []) (by decide +kernel) (by decide +kernel) h0 ⟨rfl, rfl, rfl, rfl, rfl, rfl⟩ (fun _ => rfl) (t_183 hN (h0 := h0)) (fun r5 => ?_)
  refine i_bz (off := 20) (t := 57) (pc' := 40) (by decide +kernel) ?_ ?_
  · refine i_bl (pc' := 44) [(.aload_n 0, 1), (.iload_n 2, 1), (.i2l, 1), (.lconst 0, 1)] [some (.ref a0), some (.int x1), some (.int x2), some (.int y1), some (.int v2), some (.int r3.1), none] [.long (0 : Int32).toInt64, .long x2.toInt64, .ref a0] (by decide +kernel) rfl ?_
    refine i_l2 (idx := 174) (p := 17195) (x := 3) (pc' := 47) (by decide +kernel) ?_
    refine i_cs (t := 185) (na := 3) (ml := 6) (idx := 148) (pc' := 50) (st' := [.ref a0]) (en := [some (.long x2.toInt64), none, some (.long (0 : Int32).toInt64), none, some (.long (3 : Int32).toInt64), none]) (av := [.long x2.toInt64, .long (0 : Int32).toInt64, .long (3 : Int32).toInt64]) (vo := fun v => some (.int (bi v))) (mo := fun _ => r5.2) (s2 := fun v => .int (bi v) :: [.ref a0]) (by decide +kernel) ⟨rfl, rfl, rfl, rfl, rfl, rfl⟩ (fun _ => rfl) (t_185 hN ) (fun v6 => ?_)
    refine i_bl (pc' := 51) [(.iconst 2, 1)] [some (.ref a0), some (.int x1), some (.int x2), some (.int y1), some (.int v2), some (.int r3.1), none] [.int 2, .int (bi v6), .ref a0] (by decide +kernel) rfl ?_
    refine i_cv (ci := 11) (t := 184) (na := 3) (ml := 3) (idx := 161) (pc' := 54) (st' := []) (en := [some (.ref a0), some (.int (bi v6)), some (.int 2)]) (av := [.int (bi v6), .int 2]) (vo := fun v => some (.int (bi v.1))) (mo := fun v => v.2) (s2 := fun v => .int (bi v.1) :: []) (by decide +kernel) (by decide +kernel) h0 ⟨rfl, rfl, rfl, rfl, rfl, rfl⟩ (fun _ => rfl) (t_184 hN (h0 := h0)) (fun r7 => ?_)
    refine i_bn (off := 5) (t := 59) (pc' := 57) (by decide +kernel) ?_ ?_
    · refine i_bl (pc' := 62) [(.iconst 0, 1), (.istore 6, 2)] [some (.ref a0), some (.int x1), some (.int x2), some (.int y1), some (.int v2), some (.int r3.1), some (.int 0)] [] (by decide +kernel) rfl ?_
      exact t_221_62 hN (h0 := h0)
    · refine i_bl (pc' := 58) [(.iconst 0, 1)] [some (.ref a0), some (.int x1), some (.int x2), some (.int y1), some (.int v2), some (.int r3.1), none] [.int 0] (by decide +kernel) rfl ?_
      exact i_ri (by decide +kernel) rfl
  · refine i_bl (pc' := 58) [(.iconst 0, 1)] [some (.ref a0), some (.int x1), some (.int x2), some (.int y1), some (.int v2), some (.int r3.1), none] [.int 0] (by decide +kernel) rfl ?_
    exact i_ri (by decide +kernel) rfl

/-! 223 LanternChessModel.attackers(IIII)I -/
noncomputable def E_223_96 (L nx b z : Nat) (a0 : Nat) (x2 : Int32) (x5 : Int32) (x6 : Int32) (x7 : Int32) (m : Mm) (d : Option Value × Option Value × Option Value) (s : (Int32 × Int32)) : ev_Q := ev_dn b z 223 96 [some (.ref a0), d.1, some (.int x2), d.2.1, d.2.2, some (.int x5), some (.int x6), some (.int x7), some (.int s.1), some (.int s.2)] [] (nx, mem L nx m)
noncomputable def d_223_131 (a0 : Nat) (x5 : Int32) (x6 : Int32) (x7 : Int32) (x8 : Int32) (m : Mm) : Option (Int32 × Mm) := if ev_in (x5 + x6) (sh_n (sh_r a0 1)) = true then (wb (wr m (sh_r a0 1) (ix (x5 + x6)) x7) fun m10 => some (x8, m10)) else none
theorem t_223_131 {L nx : Nat} (hN : okn nx) {b z : Nat} {m : Mm} {a0 : Nat} (h0 : ok nx a0 11) {x5 : Int32} {x6 : Int32} {x7 : Int32} {x8 : Int32} {o1 : Option Value} {o2 : Option Value} {o3 : Option Value} {o4 : Option Value} {o9 : Option Value} : Im (d_223_131 a0 x5 x6 x7 x8 m) (wI L nx) (ev_dn b z 223 131 [some (.ref a0), o1, o2, o3, o4, some (.int x5), some (.int x6), some (.int x7), some (.int x8), o9] [] (nx, mem L nx m)) := by
  unfold d_223_131
  refine i_bl (pc' := 132) [(.aload_n 0, 1)] [some (.ref a0), o1, o2, o3, o4, some (.int x5), some (.int x6), some (.int x7), some (.int x8), o9] [.ref a0] (by decide +kernel) rfl ?_
  refine i_gr (idx := 7) (ci := 11) (k := 1) (t := 2) (p := 16234) (pc' := 135) (by decide +kernel) h0 ?_
  refine i_bl (pc' := 142) [(.iload 5, 2), (.iload 6, 2), (.iadd, 1), (.iload 7, 2)] [some (.ref a0), o1, o2, o3, o4, some (.int x5), some (.int x6), some (.int x7), some (.int x8), o9] [.int x7, .int (x5 + x6), .ref (sh_r a0 1)] (by decide +kernel) rfl ?_
  refine i_as (y := x7) (pc' := 143) (by decide +kernel) (o_11_1 hN h0) (fun m10 => ?_)
  refine i_bl (pc' := 145) [(.iload 8, 2)] [some (.ref a0), o1, o2, o3, o4, some (.int x5), some (.int x6), some (.int x7), some (.int x8), o9] [.int x8] (by decide +kernel) rfl ?_
  exact i_ri (by decide +kernel) rfl

noncomputable def s_223_96 (a0 : Nat) (x2 : Int32) (x5 : Int32) (x6 : Int32) (x7 : Int32) (m : Mm) (x8 : Int32) (x9 : Int32) : Option ((Int32 × Int32) ⊕ (Int32 × Mm)) := (d_193 a0 m).bind fun v9 => if v9 ≤ x9 then ((d_223_131 a0 x5 x6 x7 x8 m).map Sum.inr) else ((d_203 a0 x5 x2 x9 x6 m).bind fun v11 => if v11 = true then (wb (x8 + 1) fun y13 => wb (x9 + 1) fun y14 => some (.inl (y13, y14))) else (wb (x9 + 1) fun y12 => some (.inl (x8, y12))))
noncomputable def d_223_96 (a0 : Nat) (x2 : Int32) (x5 : Int32) (x6 : Int32) (x7 : Int32) (m : Mm) (x8 : Int32) (x9 : Int32) : Option (Int32 × Mm) := it (fun s => s_223_96 a0 x2 x5 x6 x7 m s.1 s.2) (x8, x9)
theorem e_223_96 (a0 : Nat) (x2 : Int32) (x5 : Int32) (x6 : Int32) (x7 : Int32) (m : Mm) (x8 : Int32) (x9 : Int32) : d_223_96 a0 x2 x5 x6 x7 m x8 x9 = oi (s_223_96 a0 x2 x5 x6 x7 m x8 x9) (fun s => d_223_96 a0 x2 x5 x6 x7 m s.1 s.2) := it_eq _
theorem u_223_96 {L nx : Nat} (hN : okn nx) {b z : Nat} {m : Mm} {a0 : Nat} (h0 : ok nx a0 11) {x2 : Int32} {x5 : Int32} {x6 : Int32} {x7 : Int32} {x8 : Int32} {x9 : Int32} {o1 : Option Value} {o3 : Option Value} {o4 : Option Value} : Im (s_223_96 a0 x2 x5 x6 x7 m x8 x9) (kL (wI L nx) (E_223_96 L nx b z a0 x2 x5 x6 x7 m)) (ev_dn b z 223 96 [some (.ref a0), o1, some (.int x2), o3, o4, some (.int x5), some (.int x6), some (.int x7), some (.int x8), some (.int x9)] [] (nx, mem L nx m)) := by
  unfold s_223_96
  refine i_bl (pc' := 99) [(.iload 9, 2), (.aload_n 0, 1)] [some (.ref a0), o1, some (.int x2), o3, o4, some (.int x5), some (.int x6), some (.int x7), some (.int x8), some (.int x9)] [.ref a0, .int x9] (by decide +kernel) rfl ?_
  refine i_cv (ci := 11) (t := 193) (na := 1) (ml := 1) (idx := 125) (pc' := 102) (st' := [.int x9]) (en := [some (.ref a0)]) (av := []) (vo := fun v => some (.int v)) (mo := fun _ => m) (s2 := fun v => .int v :: [.int x9]) (by decide +kernel) (by decide +kernel) h0 ⟨rfl, rfl, rfl, rfl, rfl, rfl⟩ (fun _ => rfl) (t_193 hN (h0 := h0)) (fun v9 => ?_)
  refine i_ic (c := .ge) (off := 29) (t := 131) (pc' := 105) (p := v9 ≤ x9) (by decide +kernel) rfl ?_ ?_
  · exact i_mr (t_223_131 hN (h0 := h0))
  · refine i_bl (pc' := 113) [(.aload_n 0, 1), (.iload 5, 2), (.iload_n 2, 1), (.iload 9, 2), (.iload 6, 2)] [some (.ref a0), o1, some (.int x2), o3, o4, some (.int x5), some (.int x6), some (.int x7), some (.int x8), some (.int x9)] [.int x6, .int x9, .int x2, .int x5, .ref a0] (by decide +kernel) rfl ?_
    refine i_cv (ci := 11) (t := 203) (na := 5) (ml := 7) (idx := 129) (pc' := 116) (st' := []) (en := [some (.ref a0), some (.int x5), some (.int x2), some (.int x9), some (.int x6), none, none]) (av := [.int x5, .int x2, .int x9, .int x6]) (vo := fun v => some (.int (bi v))) (mo := fun _ => m) (s2 := fun v => .int (bi v) :: []) (by decide +kernel) (by decide +kernel) h0 ⟨rfl, rfl, rfl, rfl, rfl, rfl⟩ (fun _ => rfl) (t_203 hN (h0 := h0)) (fun v11 => ?_)
    refine i_bz (off := 9) (t := 125) (pc' := 119) (by decide +kernel) ?_ ?_
    · refine i_bl (pc' := 125) [(.iload 8, 2), (.iconst 1, 1), (.iadd, 1), (.istore 8, 2)] [some (.ref a0), o1, some (.int x2), o3, o4, some (.int x5), some (.int x6), some (.int x7), some (.int (x8 + 1)), some (.int x9)] [] (by decide +kernel) rfl ?_
      refine i_wb (fun y13 => ev_dn b z 223 125 [some (.ref a0), o1, some (.int x2), o3, o4, some (.int x5), some (.int x6), some (.int x7), some (.int y13), some (.int x9)] [] (nx, mem L nx m)) (fun y13 => ?_)
      refine i_bl (pc' := 128) [(.iinc 9 (1), 3)] [some (.ref a0), o1, some (.int x2), o3, o4, some (.int x5), some (.int x6), some (.int x7), some (.int y13), some (.int (x9 + 1))] [] (by decide +kernel) rfl ?_
      refine i_wb (fun y14 => ev_dn b z 223 128 [some (.ref a0), o1, some (.int x2), o3, o4, some (.int x5), some (.int x6), some (.int x7), some (.int y13), some (.int y14)] [] (nx, mem L nx m)) (fun y14 => ?_)
      refine i_go (t := 96) (off := -32) (by decide +kernel) ?_
      exact i_co (o1, o3, o4) rfl
    · refine i_bl (pc' := 128) [(.iinc 9 (1), 3)] [some (.ref a0), o1, some (.int x2), o3, o4, some (.int x5), some (.int x6), some (.int x7), some (.int x8), some (.int (x9 + 1))] [] (by decide +kernel) rfl ?_
      refine i_wb (fun y12 => ev_dn b z 223 128 [some (.ref a0), o1, some (.int x2), o3, o4, some (.int x5), some (.int x6), some (.int x7), some (.int x8), some (.int y12)] [] (nx, mem L nx m)) (fun y12 => ?_)
      refine i_go (t := 96) (off := -32) (by decide +kernel) ?_
      exact i_co (o1, o3, o4) rfl

theorem t_223_96 {L nx : Nat} (hN : okn nx) {b z : Nat} {m : Mm} {a0 : Nat} (h0 : ok nx a0 11) {x2 : Int32} {x5 : Int32} {x6 : Int32} {x7 : Int32} {x8 : Int32} {x9 : Int32} {o1 : Option Value} {o3 : Option Value} {o4 : Option Value} : Im (d_223_96 a0 x2 x5 x6 x7 m x8 x9) (wI L nx) (ev_dn b z 223 96 [some (.ref a0), o1, some (.int x2), o3, o4, some (.int x5), some (.int x6), some (.int x7), some (.int x8), some (.int x9)] [] (nx, mem L nx m)) := by
  exact i_it (f := fun s => s_223_96 a0 x2 x5 x6 x7 m s.1 s.2) (E := E_223_96 L nx b z a0 x2 x5 x6 x7 m) (K := (wI L nx)) (fun d s => u_223_96 hN (h0 := h0)) (o1, o3, o4) (x8, x9)
noncomputable def d_223_89 (a0 : Nat) (x2 : Int32) (x5 : Int32) (x6 : Int32) (x7 : Int32) (s0 : Nat) (s1 : Int32) (s2 : Int32) (m : Mm) : Option (Int32 × Mm) := if ev_in s1 (sh_n s0) = true then (wb (wr m s0 (ix s1) s2) fun m8 => d_223_96 a0 x2 x5 x6 x7 m8 0 0) else none
theorem t_223_89 {L nx : Nat} (hN : okn nx) {b z : Nat} {m : Mm} {a0 : Nat} (h0 : ok nx a0 11) {s0 : Nat} (hs0 : ok nx s0 100) {x2 : Int32} {x5 : Int32} {x6 : Int32} {x7 : Int32} {s1 : Int32} {s2 : Int32} {o1 : Option Value} {o3 : Option Value} {o4 : Option Value} : Im (d_223_89 a0 x2 x5 x6 x7 s0 s1 s2 m) (wI L nx) (ev_dn b z 223 89 [some (.ref a0), o1, some (.int x2), o3, o4, some (.int x5), some (.int x6), some (.int x7), none, none] [.int s2, .int s1, .ref s0] (nx, mem L nx m)) := by
  unfold d_223_89
  refine i_as (y := s2) (pc' := 90) (by decide +kernel) hs0 (fun m8 => ?_)
  refine i_bl (pc' := 96) [(.iconst 0, 1), (.istore 8, 2), (.iconst 0, 1), (.istore 9, 2)] [some (.ref a0), o1, some (.int x2), o3, o4, some (.int x5), some (.int x6), some (.int x7), some (.int 0), some (.int 0)] [] (by decide +kernel) rfl ?_
  exact t_223_96 hN (h0 := h0)

noncomputable def d_223_20 (a0 : Nat) (x1 : Int32) (x2 : Int32) (x3 : Int32) (x4 : Int32) (s0 : Nat) (s1 : Bool) (m : Mm) : Option (Int32 × Mm) := (d_183 s0 s1 m).bind fun r2 => if r2.1 = true then ((d_213 a0 x3 x4 r2.2).bind fun v3 => (d_184 a0 v3 2 r2.2).bind fun r4 => if r4.1 = true then ((d_194 x1).bind fun v5 => (d_214 a0 x3 x4 r4.2).bind fun v6 => if ev_in (v5 + v6) (sh_n (sh_r a0 1)) = true then (wb (r4.2 (sh_r a0 1) (ix (v5 + v6))) fun y7 => if ¬ x2 = 0 then (d_223_89 a0 x2 v5 v6 y7 (sh_r a0 1) (v5 + v6) 3 r4.2) else (d_223_89 a0 x2 v5 v6 y7 (sh_r a0 1) (v5 + v6) 9 r4.2)) else none) else (some (0, r4.2))) else (some (0, r2.2))
theorem t_223_20 {L nx : Nat} (hN : okn nx) {b z : Nat} {m : Mm} {a0 : Nat} (h0 : ok nx a0 11) {s0 : Nat} (hs0 : ok nx s0 11) {x1 : Int32} {x2 : Int32} {x3 : Int32} {x4 : Int32} {s1 : Bool}  : Im (d_223_20 a0 x1 x2 x3 x4 s0 s1 m) (wI L nx) (ev_dn b z 223 20 [some (.ref a0), some (.int x1), some (.int x2), some (.int x3), some (.int x4), none, none, none, none, none] [.int (bi s1), .ref s0] (nx, mem L nx m)) := by
  unfold d_223_20
  refine i_cv (ci := 11) (t := 183) (na := 2) (ml := 2) (idx := 77) (pc' := 23) (st' := []) (en := [some (.ref s0), some (.int (bi s1))]) (av := [.int (bi s1)]) (vo := fun v => some (.int (bi v.1))) (mo := fun v => v.2) (s2 := fun v => .int (bi v.1) :: []) (by decide +kernel) (by decide +kernel) hs0 ⟨rfl, rfl, rfl, rfl, rfl, rfl⟩ (fun _ => rfl) (t_183 hN (h0 := hs0)) (fun r2 => ?_)
  refine i_bz (off := 18) (t := 41) (pc' := 26) (by decide +kernel) ?_ ?_
  · refine i_bl (pc' := 31) [(.aload_n 0, 1), (.aload_n 0, 1), (.iload_n 3, 1), (.iload 4, 2)] [some (.ref a0), some (.int x1), some (.int x2), some (.int x3), some (.int x4), none, none, none, none, none] [.int x4, .int x3, .ref a0, .ref a0] (by decide +kernel) rfl ?_
    refine i_cv (ci := 11) (t := 213) (na := 3) (ml := 3) (idx := 158) (pc' := 34) (st' := [.ref a0]) (en := [some (.ref a0), some (.int x3), some (.int x4)]) (av := [.int x3, .int x4]) (vo := fun v => some (.int (bi v))) (mo := fun _ => r2.2) (s2 := fun v => .int (bi v) :: [.ref a0]) (by decide +kernel) (by decide +kernel) h0 ⟨rfl, rfl, rfl, rfl, rfl, rfl⟩ (fun _ => rfl) (t_213 hN (h0 := h0)) (fun v3 => ?_)
    refine i_bl (pc' := 35) [(.iconst 2, 1)] [some (.ref a0), some (.int x1), some (.int x2), some (.int x3), some (.int x4), none, none, none, none, none] [.int 2, .int (bi v3), .ref a0] (by decide +kernel) rfl ?_
    refine i_cv (ci := 11) (t := 184) (na := 3) (ml := 3) (idx := 161) (pc' := 38) (st' := []) (en := [some (.ref a0), some (.int (bi v3)), some (.int 2)]) (av := [.int (bi v3), .int 2]) (vo := fun v => some (.int (bi v.1))) (mo := fun v => v.2) (s2 := fun v => .int (bi v.1) :: []) (by decide +kernel) (by decide +kernel) h0 ⟨rfl, rfl, rfl, rfl, rfl, rfl⟩ (fun _ => rfl) (t_184 hN (h0 := h0)) (fun r4 => ?_)
    refine i_bn (off := 5) (t := 43) (pc' := 41) (by decide +kernel) ?_ ?_
    · refine i_bl (pc' := 44) [(.iload_n 1, 1)] [some (.ref a0), some (.int x1), some (.int x2), some (.int x3), some (.int x4), none, none, none, none, none] [.int x1] (by decide +kernel) rfl ?_
      refine i_cs (t := 194) (na := 1) (ml := 1) (idx := 165) (pc' := 47) (st' := []) (en := [some (.int x1)]) (av := [.int x1]) (vo := fun v => some (.int v)) (mo := fun _ => r4.2) (s2 := fun v => .int v :: []) (by decide +kernel) ⟨rfl, rfl, rfl, rfl, rfl, rfl⟩ (fun _ => rfl) (t_194 hN ) (fun v5 => ?_)
      refine i_bl (pc' := 53) [(.istore 5, 2), (.aload_n 0, 1), (.iload_n 3, 1), (.iload 4, 2)] [some (.ref a0), some (.int x1), some (.int x2), some (.int x3), some (.int x4), some (.int v5), none, none, none, none] [.int x4, .int x3, .ref a0] (by decide +kernel) rfl ?_
      refine i_cv (ci := 11) (t := 214) (na := 3) (ml := 3) (idx := 168) (pc' := 56) (st' := []) (en := [some (.ref a0), some (.int x3), some (.int x4)]) (av := [.int x3, .int x4]) (vo := fun v => some (.int v)) (mo := fun _ => r4.2) (s2 := fun v => .int v :: []) (by decide +kernel) (by decide +kernel) h0 ⟨rfl, rfl, rfl, rfl, rfl, rfl⟩ (fun _ => rfl) (t_214 hN (h0 := h0)) (fun v6 => ?_)
      refine i_bl (pc' := 59) [(.istore 6, 2), (.aload_n 0, 1)] [some (.ref a0), some (.int x1), some (.int x2), some (.int x3), some (.int x4), some (.int v5), some (.int v6), none, none, none] [.ref a0] (by decide +kernel) rfl ?_
      refine i_gr (idx := 7) (ci := 11) (k := 1) (t := 2) (p := 16234) (pc' := 62) (by decide +kernel) h0 ?_
      refine i_bl (pc' := 67) [(.iload 5, 2), (.iload 6, 2), (.iadd, 1)] [some (.ref a0), some (.int x1), some (.int x2), some (.int x3), some (.int x4), some (.int v5), some (.int v6), none, none, none] [.int (v5 + v6), .ref (sh_r a0 1)] (by decide +kernel) rfl ?_
      refine i_al (pc' := 68) (by decide +kernel) (o_11_1 hN h0) ?_
      refine i_bl (pc' := 70) [(.istore 7, 2)] [some (.ref a0), some (.int x1), some (.int x2), some (.int x3), some (.int x4), some (.int v5), some (.int v6), some (.int (r4.2 (sh_r a0 1) (ix (v5 + v6)))), none, none] [] (by decide +kernel) rfl ?_
      refine i_wb (fun y7 => ev_dn b z 223 70 [some (.ref a0), some (.int x1), some (.int x2), some (.int x3), some (.int x4), some (.int v5), some (.int v6), some (.int y7), none, none] [] (nx, mem L nx r4.2)) (fun y7 => ?_)
      refine i_bl (pc' := 71) [(.aload_n 0, 1)] [some (.ref a0), some (.int x1), some (.int x2), some (.int x3), some (.int x4), some (.int v5), some (.int v6), some (.int y7), none, none] [.ref a0] (by decide +kernel) rfl ?_
      refine i_gr (idx := 7) (ci := 11) (k := 1) (t := 2) (p := 16234) (pc' := 74) (by decide +kernel) h0 ?_
      refine i_bl (pc' := 80) [(.iload 5, 2), (.iload 6, 2), (.iadd, 1), (.iload_n 2, 1)] [some (.ref a0), some (.int x1), some (.int x2), some (.int x3), some (.int x4), some (.int v5), some (.int v6), some (.int y7), none, none] [.int x2, .int (v5 + v6), .ref (sh_r a0 1)] (by decide +kernel) rfl ?_
      refine i_if (c := .ne) (off := 8) (t := 88) (pc' := 83) (p := ¬ x2 = 0) (by decide +kernel) rfl ?_ ?_
      · refine i_bl (pc' := 89) [(.iconst 3, 1)] [some (.ref a0), some (.int x1), some (.int x2), some (.int x3), some (.int x4), some (.int v5), some (.int v6), some (.int y7), none, none] [.int 3, .int (v5 + v6), .ref (sh_r a0 1)] (by decide +kernel) rfl ?_
        exact t_223_89 hN (h0 := h0) (hs0 := (o_11_1 hN h0))
      · refine i_bl (pc' := 85) [(.bipush (9), 2)] [some (.ref a0), some (.int x1), some (.int x2), some (.int x3), some (.int x4), some (.int v5), some (.int v6), some (.int y7), none, none] [.int 9, .int (v5 + v6), .ref (sh_r a0 1)] (by decide +kernel) rfl ?_
        refine i_go (t := 89) (off := 4) (by decide +kernel) ?_
        exact t_223_89 hN (h0 := h0) (hs0 := (o_11_1 hN h0))
    · refine i_bl (pc' := 42) [(.iconst 0, 1)] [some (.ref a0), some (.int x1), some (.int x2), some (.int x3), some (.int x4), none, none, none, none, none] [.int 0] (by decide +kernel) rfl ?_
      exact i_ri (by decide +kernel) rfl
  · refine i_bl (pc' := 42) [(.iconst 0, 1)] [some (.ref a0), some (.int x1), some (.int x2), some (.int x3), some (.int x4), none, none, none, none, none] [.int 0] (by decide +kernel) rfl ?_
    exact i_ri (by decide +kernel) rfl

noncomputable def d_223 (a0 : Nat) (x1 : Int32) (x2 : Int32) (x3 : Int32) (x4 : Int32) (m : Mm) : Option (Int32 × Mm) := (d_212 x1).bind fun v1 => if v1 = true then ((d_212 x2).bind fun v15 => if v15 = true then (d_223_20 a0 x1 x2 x3 x4 a0 true m) else (d_223_20 a0 x1 x2 x3 x4 a0 false m)) else (d_223_20 a0 x1 x2 x3 x4 a0 false m)
theorem t_223 {L nx : Nat} (hN : okn nx) {b z : Nat} {m : Mm} {a0 : Nat} (h0 : ok nx a0 11) {x1 : Int32} {x2 : Int32} {x3 : Int32} {x4 : Int32}  : Im (d_223 a0 x1 x2 x3 x4 m) (wI L nx) (ev_dn b z 223 0 [some (.ref a0), some (.int x1), some (.int x2), some (.int x3), some (.int x4), none, none, none, none, none] [] (nx, mem L nx m)) := by
  unfold d_223
  refine i_bl (pc' := 2) [(.aload_n 0, 1), (.iload_n 1, 1)] [some (.ref a0), some (.int x1), some (.int x2), some (.int x3), some (.int x4), none, none, none, none, none] [.int x1, .ref a0] (by decide +kernel) rfl ?_
  refine i_cs (t := 212) (na := 1) (ml := 1) (idx := 154) (pc' := 5) (st' := [.ref a0]) (en := [some (.int x1)]) (av := [.int x1]) (vo := fun v => some (.int (bi v))) (mo := fun _ => m) (s2 := fun v => .int (bi v) :: [.ref a0]) (by decide +kernel) ⟨rfl, rfl, rfl, rfl, rfl, rfl⟩ (fun _ => rfl) (t_212 hN ) (fun v1 => ?_)
  refine i_bz (off := 14) (t := 19) (pc' := 8) (by decide +kernel) ?_ ?_
  · refine i_bl (pc' := 9) [(.iload_n 2, 1)] [some (.ref a0), some (.int x1), some (.int x2), some (.int x3), some (.int x4), none, none, none, none, none] [.int x2, .ref a0] (by decide +kernel) rfl ?_
    refine i_cs (t := 212) (na := 1) (ml := 1) (idx := 154) (pc' := 12) (st' := [.ref a0]) (en := [some (.int x2)]) (av := [.int x2]) (vo := fun v => some (.int (bi v))) (mo := fun _ => m) (s2 := fun v => .int (bi v) :: [.ref a0]) (by decide +kernel) ⟨rfl, rfl, rfl, rfl, rfl, rfl⟩ (fun _ => rfl) (t_212 hN ) (fun v15 => ?_)
    refine i_bz (off := 7) (t := 19) (pc' := 15) (by decide +kernel) ?_ ?_
    · refine i_bl (pc' := 16) [(.iconst 1, 1)] [some (.ref a0), some (.int x1), some (.int x2), some (.int x3), some (.int x4), none, none, none, none, none] [.int 1, .ref a0] (by decide +kernel) rfl ?_
      refine i_go (t := 20) (off := 4) (by decide +kernel) ?_
      exact t_223_20 hN (h0 := h0) (hs0 := h0)
    · refine i_bl (pc' := 20) [(.iconst 0, 1)] [some (.ref a0), some (.int x1), some (.int x2), some (.int x3), some (.int x4), none, none, none, none, none] [.int 0, .ref a0] (by decide +kernel) rfl ?_
      exact t_223_20 hN (h0 := h0) (hs0 := h0)
  · refine i_bl (pc' := 20) [(.iconst 0, 1)] [some (.ref a0), some (.int x1), some (.int x2), some (.int x3), some (.int x4), none, none, none, none, none] [.int 0, .ref a0] (by decide +kernel) rfl ?_
    exact t_223_20 hN (h0 := h0) (hs0 := h0)

/-! 224 LanternChessModel.isInCheck(II)Z -/
noncomputable def E_224_36 (L nx b z : Nat) (a0 : Nat) (x2 : Int32) (x3 : Int32) (m : Mm) (d : Option Value × Option Value) (s : (Int32)) : ev_Q := ev_dn b z 224 36 [some (.ref a0), d.1, some (.int x2), some (.int x3), some (.int s), d.2] [] (nx, mem L nx m)
noncomputable def E_224_69 (L nx b z : Nat) (a0 : Nat) (x2 : Int32) (x3 : Int32) (x4 : Int32) (m : Mm) (d : Option Value) (s : (Int32)) : ev_Q := ev_dn b z 224 69 [some (.ref a0), d, some (.int x2), some (.int x3), some (.int x4), some (.int s)] [] (nx, mem L nx m)
noncomputable def s_224_69 (a0 : Nat) (x2 : Int32) (x3 : Int32) (x4 : Int32) (m : Mm) (x5 : Int32) : Option ((Int32) ⊕ ((Int32) ⊕ (Bool × Mm))) := (d_193 a0 m).bind fun v5 => if v5 ≤ x5 then (wb (x4 + 1) fun y6 => some (.inr (.inl (y6)))) else ((d_203 a0 x3 (1 - x2) x5 x4 m).bind fun v7 => if v7 = true then (some (.inr (.inr (true, m)))) else (wb (x5 + 1) fun y8 => some (.inl (y8))))
noncomputable def d_224_69 (a0 : Nat) (x2 : Int32) (x3 : Int32) (x4 : Int32) (m : Mm) (x5 : Int32) : Option ((Int32) ⊕ (Bool × Mm)) := it (fun s => s_224_69 a0 x2 x3 x4 m s) (x5)
theorem e_224_69 (a0 : Nat) (x2 : Int32) (x3 : Int32) (x4 : Int32) (m : Mm) (x5 : Int32) : d_224_69 a0 x2 x3 x4 m x5 = oi (s_224_69 a0 x2 x3 x4 m x5) (fun s => d_224_69 a0 x2 x3 x4 m s) := it_eq _
theorem u_224_69 {L nx : Nat} (hN : okn nx) {b z : Nat} {m : Mm} {a0 : Nat} (h0 : ok nx a0 11) {x2 : Int32} {x3 : Int32} {x4 : Int32} {x5 : Int32} {o1 : Option Value} : Im (s_224_69 a0 x2 x3 x4 m x5) (kL (kL (wZ L nx) (E_224_36 L nx b z a0 x2 x3 m)) (E_224_69 L nx b z a0 x2 x3 x4 m)) (ev_dn b z 224 69 [some (.ref a0), o1, some (.int x2), some (.int x3), some (.int x4), some (.int x5)] [] (nx, mem L nx m)) := by
  unfold s_224_69
  refine i_bl (pc' := 72) [(.iload 5, 2), (.aload_n 0, 1)] [some (.ref a0), o1, some (.int x2), some (.int x3), some (.int x4), some (.int x5)] [.ref a0, .int x5] (by decide +kernel) rfl ?_
  refine i_cv (ci := 11) (t := 193) (na := 1) (ml := 1) (idx := 125) (pc' := 75) (st' := [.int x5]) (en := [some (.ref a0)]) (av := []) (vo := fun v => some (.int v)) (mo := fun _ => m) (s2 := fun v => .int v :: [.int x5]) (by decide +kernel) (by decide +kernel) h0 ⟨rfl, rfl, rfl, rfl, rfl, rfl⟩ (fun _ => rfl) (t_193 hN (h0 := h0)) (fun v5 => ?_)
  refine i_ic (c := .ge) (off := 26) (t := 101) (pc' := 78) (p := v5 ≤ x5) (by decide +kernel) rfl ?_ ?_
  · refine i_bl (pc' := 104) [(.iinc 4 (1), 3)] [some (.ref a0), o1, some (.int x2), some (.int x3), some (.int (x4 + 1)), some (.int x5)] [] (by decide +kernel) rfl ?_
    refine i_wb (fun y6 => ev_dn b z 224 104 [some (.ref a0), o1, some (.int x2), some (.int x3), some (.int y6), some (.int x5)] [] (nx, mem L nx m)) (fun y6 => ?_)
    refine i_go (t := 36) (off := -68) (by decide +kernel) ?_
    exact i_ir (i_co (o1, some (.int x5)) rfl)
  · refine i_bl (pc' := 87) [(.aload_n 0, 1), (.iload_n 3, 1), (.iconst 1, 1), (.iload_n 2, 1), (.isub, 1), (.iload 5, 2), (.iload 4, 2)] [some (.ref a0), o1, some (.int x2), some (.int x3), some (.int x4), some (.int x5)] [.int x4, .int x5, .int (1 - x2), .int x3, .ref a0] (by decide +kernel) rfl ?_
    refine i_cv (ci := 11) (t := 203) (na := 5) (ml := 7) (idx := 129) (pc' := 90) (st' := []) (en := [some (.ref a0), some (.int x3), some (.int (1 - x2)), some (.int x5), some (.int x4), none, none]) (av := [.int x3, .int (1 - x2), .int x5, .int x4]) (vo := fun v => some (.int (bi v))) (mo := fun _ => m) (s2 := fun v => .int (bi v) :: []) (by decide +kernel) (by decide +kernel) h0 ⟨rfl, rfl, rfl, rfl, rfl, rfl⟩ (fun _ => rfl) (t_203 hN (h0 := h0)) (fun v7 => ?_)
    refine i_bz (off := 5) (t := 95) (pc' := 93) (by decide +kernel) ?_ ?_
    · refine i_bl (pc' := 94) [(.iconst 1, 1)] [some (.ref a0), o1, some (.int x2), some (.int x3), some (.int x4), some (.int x5)] [.int 1] (by decide +kernel) rfl ?_
      exact i_ir (i_ir (i_rz (B := true) (by decide +kernel) rfl))
    · refine i_bl (pc' := 98) [(.iinc 5 (1), 3)] [some (.ref a0), o1, some (.int x2), some (.int x3), some (.int x4), some (.int (x5 + 1))] [] (by decide +kernel) rfl ?_
      refine i_wb (fun y8 => ev_dn b z 224 98 [some (.ref a0), o1, some (.int x2), some (.int x3), some (.int x4), some (.int y8)] [] (nx, mem L nx m)) (fun y8 => ?_)
      refine i_go (t := 69) (off := -29) (by decide +kernel) ?_
      exact i_co (o1) rfl

theorem t_224_69 {L nx : Nat} (hN : okn nx) {b z : Nat} {m : Mm} {a0 : Nat} (h0 : ok nx a0 11) {x2 : Int32} {x3 : Int32} {x4 : Int32} {x5 : Int32} {o1 : Option Value} : Im (d_224_69 a0 x2 x3 x4 m x5) (kL (wZ L nx) (E_224_36 L nx b z a0 x2 x3 m)) (ev_dn b z 224 69 [some (.ref a0), o1, some (.int x2), some (.int x3), some (.int x4), some (.int x5)] [] (nx, mem L nx m)) := by
  exact i_it (f := fun s => s_224_69 a0 x2 x3 x4 m s) (E := E_224_69 L nx b z a0 x2 x3 x4 m) (K := (kL (wZ L nx) (E_224_36 L nx b z a0 x2 x3 m))) (fun d s => u_224_69 hN (h0 := h0)) (o1) (x5)
noncomputable def s_224_36 (a0 : Nat) (x2 : Int32) (x3 : Int32) (m : Mm) (x4 : Int32) : Option ((Int32) ⊕ (Bool × Mm)) := (d_193 a0 m).bind fun v4 => if v4 ≤ x4 then (some (.inr (false, m))) else (if ev_in (x3 + x4) (sh_n (sh_r a0 1)) = true then (if (m (sh_r a0 1) (ix (x3 + x4))) = (1 + (6 * x2)) then (d_224_69 a0 x2 x3 x4 m 0) else (wb (x4 + 1) fun y9 => some (.inl (y9)))) else none)
noncomputable def d_224_36 (a0 : Nat) (x2 : Int32) (x3 : Int32) (m : Mm) (x4 : Int32) : Option (Bool × Mm) := it (fun s => s_224_36 a0 x2 x3 m s) (x4)
theorem e_224_36 (a0 : Nat) (x2 : Int32) (x3 : Int32) (m : Mm) (x4 : Int32) : d_224_36 a0 x2 x3 m x4 = oi (s_224_36 a0 x2 x3 m x4) (fun s => d_224_36 a0 x2 x3 m s) := it_eq _
theorem u_224_36 {L nx : Nat} (hN : okn nx) {b z : Nat} {m : Mm} {a0 : Nat} (h0 : ok nx a0 11) {x2 : Int32} {x3 : Int32} {x4 : Int32} {o1 : Option Value} {o5 : Option Value} : Im (s_224_36 a0 x2 x3 m x4) (kL (wZ L nx) (E_224_36 L nx b z a0 x2 x3 m)) (ev_dn b z 224 36 [some (.ref a0), o1, some (.int x2), some (.int x3), some (.int x4), o5] [] (nx, mem L nx m)) := by
  unfold s_224_36
  refine i_bl (pc' := 39) [(.iload 4, 2), (.aload_n 0, 1)] [some (.ref a0), o1, some (.int x2), some (.int x3), some (.int x4), o5] [.ref a0, .int x4] (by decide +kernel) rfl ?_
  refine i_cv (ci := 11) (t := 193) (na := 1) (ml := 1) (idx := 125) (pc' := 42) (st' := [.int x4]) (en := [some (.ref a0)]) (av := []) (vo := fun v => some (.int v)) (mo := fun _ => m) (s2 := fun v => .int v :: [.int x4]) (by decide +kernel) (by decide +kernel) h0 ⟨rfl, rfl, rfl, rfl, rfl, rfl⟩ (fun _ => rfl) (t_193 hN (h0 := h0)) (fun v4 => ?_)
  refine i_ic (c := .ge) (off := 65) (t := 107) (pc' := 45) (p := v4 ≤ x4) (by decide +kernel) rfl ?_ ?_
  · refine i_bl (pc' := 108) [(.iconst 0, 1)] [some (.ref a0), o1, some (.int x2), some (.int x3), some (.int x4), o5] [.int 0] (by decide +kernel) rfl ?_
    exact i_ir (i_rz (B := false) (by decide +kernel) rfl)
  · refine i_bl (pc' := 46) [(.aload_n 0, 1)] [some (.ref a0), o1, some (.int x2), some (.int x3), some (.int x4), o5] [.ref a0] (by decide +kernel) rfl ?_
    refine i_gr (idx := 7) (ci := 11) (k := 1) (t := 2) (p := 16234) (pc' := 49) (by decide +kernel) h0 ?_
    refine i_bl (pc' := 53) [(.iload_n 3, 1), (.iload 4, 2), (.iadd, 1)] [some (.ref a0), o1, some (.int x2), some (.int x3), some (.int x4), o5] [.int (x3 + x4), .ref (sh_r a0 1)] (by decide +kernel) rfl ?_
    refine i_al (pc' := 54) (by decide +kernel) (o_11_1 hN h0) ?_
    refine i_bl (pc' := 60) [(.iconst 1, 1), (.bipush (6), 2), (.iload_n 2, 1), (.imul, 1), (.iadd, 1)] [some (.ref a0), o1, some (.int x2), some (.int x3), some (.int x4), o5] [.int (1 + (6 * x2)), .int (m (sh_r a0 1) (ix (x3 + x4)))] (by decide +kernel) rfl ?_
    refine i_ic (c := .eq) (off := 6) (t := 66) (pc' := 63) (p := (m (sh_r a0 1) (ix (x3 + x4))) = (1 + (6 * x2))) (by decide +kernel) rfl ?_ ?_
    · refine i_bl (pc' := 69) [(.iconst 0, 1), (.istore 5, 2)] [some (.ref a0), o1, some (.int x2), some (.int x3), some (.int x4), some (.int 0)] [] (by decide +kernel) rfl ?_
      exact t_224_69 hN (h0 := h0)
    · refine i_go (t := 101) (off := 38) (by decide +kernel) ?_
      refine i_bl (pc' := 104) [(.iinc 4 (1), 3)] [some (.ref a0), o1, some (.int x2), some (.int x3), some (.int (x4 + 1)), o5] [] (by decide +kernel) rfl ?_
      refine i_wb (fun y9 => ev_dn b z 224 104 [some (.ref a0), o1, some (.int x2), some (.int x3), some (.int y9), o5] [] (nx, mem L nx m)) (fun y9 => ?_)
      refine i_go (t := 36) (off := -68) (by decide +kernel) ?_
      exact i_co (o1, o5) rfl

theorem t_224_36 {L nx : Nat} (hN : okn nx) {b z : Nat} {m : Mm} {a0 : Nat} (h0 : ok nx a0 11) {x2 : Int32} {x3 : Int32} {x4 : Int32} {o1 : Option Value} {o5 : Option Value} : Im (d_224_36 a0 x2 x3 m x4) (wZ L nx) (ev_dn b z 224 36 [some (.ref a0), o1, some (.int x2), some (.int x3), some (.int x4), o5] [] (nx, mem L nx m)) := by
  exact i_it (f := fun s => s_224_36 a0 x2 x3 m s) (E := E_224_36 L nx b z a0 x2 x3 m) (K := (wZ L nx)) (fun d s => u_224_36 hN (h0 := h0)) (o1, o5) (x4)
noncomputable def d_224_20 (a0 : Nat) (x1 : Int32) (x2 : Int32) (s0 : Nat) (s1 : Bool) (m : Mm) : Option (Bool × Mm) := (d_183 s0 s1 m).bind fun r2 => if r2.1 = true then ((d_194 x1).bind fun v3 => d_224_36 a0 x2 v3 r2.2 0) else (some (false, r2.2))
theorem t_224_20 {L nx : Nat} (hN : okn nx) {b z : Nat} {m : Mm} {a0 : Nat} (h0 : ok nx a0 11) {s0 : Nat} (hs0 : ok nx s0 11) {x1 : Int32} {x2 : Int32} {s1 : Bool}  : Im (d_224_20 a0 x1 x2 s0 s1 m) (wZ L nx) (ev_dn b z 224 20 [some (.ref a0), some (.int x1), some (.int x2), none, none, none] [.int (bi s1), .ref s0] (nx, mem L nx m)) := by
  unfold d_224_20
  refine i_cv (ci := 11) (t := 183) (na := 2) (ml := 2) (idx := 77) (pc' := 23) (st' := []) (en := [some (.ref s0), some (.int (bi s1))]) (av := [.int (bi s1)]) (vo := fun v => some (.int (bi v.1))) (mo := fun v => v.2) (s2 := fun v => .int (bi v.1) :: []) (by decide +kernel) (by decide +kernel) hs0 ⟨rfl, rfl, rfl, rfl, rfl, rfl⟩ (fun _ => rfl) (t_183 hN (h0 := hs0)) (fun r2 => ?_)
  refine i_bn (off := 5) (t := 28) (pc' := 26) (by decide +kernel) ?_ ?_
  · refine i_bl (pc' := 29) [(.iload_n 1, 1)] [some (.ref a0), some (.int x1), some (.int x2), none, none, none] [.int x1] (by decide +kernel) rfl ?_
    refine i_cs (t := 194) (na := 1) (ml := 1) (idx := 165) (pc' := 32) (st' := []) (en := [some (.int x1)]) (av := [.int x1]) (vo := fun v => some (.int v)) (mo := fun _ => r2.2) (s2 := fun v => .int v :: []) (by decide +kernel) ⟨rfl, rfl, rfl, rfl, rfl, rfl⟩ (fun _ => rfl) (t_194 hN ) (fun v3 => ?_)
    refine i_bl (pc' := 36) [(.istore_n 3, 1), (.iconst 0, 1), (.istore 4, 2)] [some (.ref a0), some (.int x1), some (.int x2), some (.int v3), some (.int 0), none] [] (by decide +kernel) rfl ?_
    exact t_224_36 hN (h0 := h0)
  · refine i_bl (pc' := 27) [(.iconst 0, 1)] [some (.ref a0), some (.int x1), some (.int x2), none, none, none] [.int 0] (by decide +kernel) rfl ?_
    exact i_rz (B := false) (by decide +kernel) rfl

noncomputable def d_224 (a0 : Nat) (x1 : Int32) (x2 : Int32) (m : Mm) : Option (Bool × Mm) := (d_212 x1).bind fun v1 => if v1 = true then ((d_212 x2).bind fun v10 => if v10 = true then (d_224_20 a0 x1 x2 a0 true m) else (d_224_20 a0 x1 x2 a0 false m)) else (d_224_20 a0 x1 x2 a0 false m)
theorem t_224 {L nx : Nat} (hN : okn nx) {b z : Nat} {m : Mm} {a0 : Nat} (h0 : ok nx a0 11) {x1 : Int32} {x2 : Int32}  : Im (d_224 a0 x1 x2 m) (wZ L nx) (ev_dn b z 224 0 [some (.ref a0), some (.int x1), some (.int x2), none, none, none] [] (nx, mem L nx m)) := by
  unfold d_224
  refine i_bl (pc' := 2) [(.aload_n 0, 1), (.iload_n 1, 1)] [some (.ref a0), some (.int x1), some (.int x2), none, none, none] [.int x1, .ref a0] (by decide +kernel) rfl ?_
  refine i_cs (t := 212) (na := 1) (ml := 1) (idx := 154) (pc' := 5) (st' := [.ref a0]) (en := [some (.int x1)]) (av := [.int x1]) (vo := fun v => some (.int (bi v))) (mo := fun _ => m) (s2 := fun v => .int (bi v) :: [.ref a0]) (by decide +kernel) ⟨rfl, rfl, rfl, rfl, rfl, rfl⟩ (fun _ => rfl) (t_212 hN ) (fun v1 => ?_)
  refine i_bz (off := 14) (t := 19) (pc' := 8) (by decide +kernel) ?_ ?_
  · refine i_bl (pc' := 9) [(.iload_n 2, 1)] [some (.ref a0), some (.int x1), some (.int x2), none, none, none] [.int x2, .ref a0] (by decide +kernel) rfl ?_
    refine i_cs (t := 212) (na := 1) (ml := 1) (idx := 154) (pc' := 12) (st' := [.ref a0]) (en := [some (.int x2)]) (av := [.int x2]) (vo := fun v => some (.int (bi v))) (mo := fun _ => m) (s2 := fun v => .int (bi v) :: [.ref a0]) (by decide +kernel) ⟨rfl, rfl, rfl, rfl, rfl, rfl⟩ (fun _ => rfl) (t_212 hN ) (fun v10 => ?_)
    refine i_bz (off := 7) (t := 19) (pc' := 15) (by decide +kernel) ?_ ?_
    · refine i_bl (pc' := 16) [(.iconst 1, 1)] [some (.ref a0), some (.int x1), some (.int x2), none, none, none] [.int 1, .ref a0] (by decide +kernel) rfl ?_
      refine i_go (t := 20) (off := 4) (by decide +kernel) ?_
      exact t_224_20 hN (h0 := h0) (hs0 := h0)
    · refine i_bl (pc' := 20) [(.iconst 0, 1)] [some (.ref a0), some (.int x1), some (.int x2), none, none, none] [.int 0, .ref a0] (by decide +kernel) rfl ?_
      exact t_224_20 hN (h0 := h0) (hs0 := h0)
  · refine i_bl (pc' := 20) [(.iconst 0, 1)] [some (.ref a0), some (.int x1), some (.int x2), none, none, none] [.int 0, .ref a0] (by decide +kernel) rfl ?_
    exact t_224_20 hN (h0 := h0) (hs0 := h0)

/-! 225 LanternChessModel.material(II)I -/
noncomputable def E_225_33 (L nx b z : Nat) (a0 : Nat) (x1 : Int32) (x2 : Int32) (m : Mm) (d : Option Value) (s : (Int32 × Int32)) : ev_Q := ev_dn b z 225 33 [some (.ref a0), some (.int x1), some (.int x2), some (.int s.1), some (.int s.2), d] [] (nx, mem L nx m)
noncomputable def s_225_33 (a0 : Nat) (x1 : Int32) (x2 : Int32) (m : Mm) (x3 : Int32) (x4 : Int32) : Option ((Int32 × Int32) ⊕ (Int32 × Mm)) := (d_193 a0 m).bind fun v3 => if v3 ≤ x4 then (some (.inr (x3, m))) else ((d_194 x1).bind fun v4 => if ev_in (v4 + x4) (sh_n (sh_r a0 1)) = true then (wb (m (sh_r a0 1) (ix (v4 + x4))) fun y5 => (d_196 y5).bind fun v6 => if ¬ v6 = x2 then (wb (x4 + 1) fun y7 => some (.inl (x3, y7))) else ((d_197 y5).bind fun v8 => if ev_in v8 7 = true then (wb (x3 + (m 1 (ix v8))) fun y9 => wb (x4 + 1) fun y10 => some (.inl (y9, y10))) else none)) else none)
noncomputable def d_225_33 (a0 : Nat) (x1 : Int32) (x2 : Int32) (m : Mm) (x3 : Int32) (x4 : Int32) : Option (Int32 × Mm) := it (fun s => s_225_33 a0 x1 x2 m s.1 s.2) (x3, x4)
theorem e_225_33 (a0 : Nat) (x1 : Int32) (x2 : Int32) (m : Mm) (x3 : Int32) (x4 : Int32) : d_225_33 a0 x1 x2 m x3 x4 = oi (s_225_33 a0 x1 x2 m x3 x4) (fun s => d_225_33 a0 x1 x2 m s.1 s.2) := it_eq _
theorem u_225_33 {L nx : Nat} (hN : okn nx) {b z : Nat} {m : Mm} {a0 : Nat} (h0 : ok nx a0 11) {x1 : Int32} {x2 : Int32} {x3 : Int32} {x4 : Int32} {o5 : Option Value} : Im (s_225_33 a0 x1 x2 m x3 x4) (kL (wI L nx) (E_225_33 L nx b z a0 x1 x2 m)) (ev_dn b z 225 33 [some (.ref a0), some (.int x1), some (.int x2), some (.int x3), some (.int x4), o5] [] (nx, mem L nx m)) := by
  unfold s_225_33
  refine i_bl (pc' := 36) [(.iload 4, 2), (.aload_n 0, 1)] [some (.ref a0), some (.int x1), some (.int x2), some (.int x3), some (.int x4), o5] [.ref a0, .int x4] (by decide +kernel) rfl ?_
  refine i_cv (ci := 11) (t := 193) (na := 1) (ml := 1) (idx := 125) (pc' := 39) (st' := [.int x4]) (en := [some (.ref a0)]) (av := []) (vo := fun v => some (.int v)) (mo := fun _ => m) (s2 := fun v => .int v :: [.int x4]) (by decide +kernel) (by decide +kernel) h0 ⟨rfl, rfl, rfl, rfl, rfl, rfl⟩ (fun _ => rfl) (t_193 hN (h0 := h0)) (fun v3 => ?_)
  refine i_ic (c := .ge) (off := 44) (t := 83) (pc' := 42) (p := v3 ≤ x4) (by decide +kernel) rfl ?_ ?_
  · refine i_bl (pc' := 84) [(.iload_n 3, 1)] [some (.ref a0), some (.int x1), some (.int x2), some (.int x3), some (.int x4), o5] [.int x3] (by decide +kernel) rfl ?_
    exact i_ir (i_ri (by decide +kernel) rfl)
  · refine i_bl (pc' := 43) [(.aload_n 0, 1)] [some (.ref a0), some (.int x1), some (.int x2), some (.int x3), some (.int x4), o5] [.ref a0] (by decide +kernel) rfl ?_
    refine i_gr (idx := 7) (ci := 11) (k := 1) (t := 2) (p := 16234) (pc' := 46) (by decide +kernel) h0 ?_
    refine i_bl (pc' := 47) [(.iload_n 1, 1)] [some (.ref a0), some (.int x1), some (.int x2), some (.int x3), some (.int x4), o5] [.int x1, .ref (sh_r a0 1)] (by decide +kernel) rfl ?_
    refine i_cs (t := 194) (na := 1) (ml := 1) (idx := 165) (pc' := 50) (st' := [.ref (sh_r a0 1)]) (en := [some (.int x1)]) (av := [.int x1]) (vo := fun v => some (.int v)) (mo := fun _ => m) (s2 := fun v => .int v :: [.ref (sh_r a0 1)]) (by decide +kernel) ⟨rfl, rfl, rfl, rfl, rfl, rfl⟩ (fun _ => rfl) (t_194 hN ) (fun v4 => ?_)
    refine i_bl (pc' := 53) [(.iload 4, 2), (.iadd, 1)] [some (.ref a0), some (.int x1), some (.int x2), some (.int x3), some (.int x4), o5] [.int (v4 + x4), .ref (sh_r a0 1)] (by decide +kernel) rfl ?_
    refine i_al (pc' := 54) (by decide +kernel) (o_11_1 hN h0) ?_
    refine i_bl (pc' := 56) [(.istore 5, 2)] [some (.ref a0), some (.int x1), some (.int x2), some (.int x3), some (.int x4), some (.int (m (sh_r a0 1) (ix (v4 + x4))))] [] (by decide +kernel) rfl ?_
    refine i_wb (fun y5 => ev_dn b z 225 56 [some (.ref a0), some (.int x1), some (.int x2), some (.int x3), some (.int x4), some (.int y5)] [] (nx, mem L nx m)) (fun y5 => ?_)
    refine i_bl (pc' := 58) [(.iload 5, 2)] [some (.ref a0), some (.int x1), some (.int x2), some (.int x3), some (.int x4), some (.int y5)] [.int y5] (by decide +kernel) rfl ?_
    refine i_cs (t := 196) (na := 1) (ml := 1) (idx := 111) (pc' := 61) (st' := []) (en := [some (.int y5)]) (av := [.int y5]) (vo := fun v => some (.int v)) (mo := fun _ => m) (s2 := fun v => .int v :: []) (by decide +kernel) ⟨rfl, rfl, rfl, rfl, rfl, rfl⟩ (fun _ => rfl) (t_196 hN ) (fun v6 => ?_)
    refine i_bl (pc' := 62) [(.iload_n 2, 1)] [some (.ref a0), some (.int x1), some (.int x2), some (.int x3), some (.int x4), some (.int y5)] [.int x2, .int v6] (by decide +kernel) rfl ?_
    refine i_ic (c := .ne) (off := 15) (t := 77) (pc' := 65) (p := ¬ v6 = x2) (by decide +kernel) rfl ?_ ?_
    · refine i_bl (pc' := 80) [(.iinc 4 (1), 3)] [some (.ref a0), some (.int x1), some (.int x2), some (.int x3), some (.int (x4 + 1)), some (.int y5)] [] (by decide +kernel) rfl ?_
      refine i_wb (fun y7 => ev_dn b z 225 80 [some (.ref a0), some (.int x1), some (.int x2), some (.int x3), some (.int y7), some (.int y5)] [] (nx, mem L nx m)) (fun y7 => ?_)
      refine i_go (t := 33) (off := -47) (by decide +kernel) ?_
      exact i_co (some (.int y5)) rfl
    · refine i_bl (pc' := 66) [(.iload_n 3, 1)] [some (.ref a0), some (.int x1), some (.int x2), some (.int x3), some (.int x4), some (.int y5)] [.int x3] (by decide +kernel) rfl ?_
      refine i_gs (w := 1) (pc' := 69) (idx := 118) (by decide +kernel) ?_
      refine i_bl (pc' := 71) [(.iload 5, 2)] [some (.ref a0), some (.int x1), some (.int x2), some (.int x3), some (.int x4), some (.int y5)] [.int y5, .ref 1, .int x3] (by decide +kernel) rfl ?_
      refine i_cs (t := 197) (na := 1) (ml := 1) (idx := 100) (pc' := 74) (st' := [.ref 1, .int x3]) (en := [some (.int y5)]) (av := [.int y5]) (vo := fun v => some (.int v)) (mo := fun _ => m) (s2 := fun v => .int v :: [.ref 1, .int x3]) (by decide +kernel) ⟨rfl, rfl, rfl, rfl, rfl, rfl⟩ (fun _ => rfl) (t_197 hN ) (fun v8 => ?_)
      refine i_aS (pc' := 75) 7 (by decide +kernel) rfl (o_lo hN (by decide +kernel)) ?_
      refine i_bl (pc' := 77) [(.iadd, 1), (.istore_n 3, 1)] [some (.ref a0), some (.int x1), some (.int x2), some (.int (x3 + (m 1 (ix v8)))), some (.int x4), some (.int y5)] [] (by decide +kernel) rfl ?_
      refine i_wb (fun y9 => ev_dn b z 225 77 [some (.ref a0), some (.int x1), some (.int x2), some (.int y9), some (.int x4), some (.int y5)] [] (nx, mem L nx m)) (fun y9 => ?_)
      refine i_bl (pc' := 80) [(.iinc 4 (1), 3)] [some (.ref a0), some (.int x1), some (.int x2), some (.int y9), some (.int (x4 + 1)), some (.int y5)] [] (by decide +kernel) rfl ?_
      refine i_wb (fun y10 => ev_dn b z 225 80 [some (.ref a0), some (.int x1), some (.int x2), some (.int y9), some (.int y10), some (.int y5)] [] (nx, mem L nx m)) (fun y10 => ?_)
      refine i_go (t := 33) (off := -47) (by decide +kernel) ?_
      exact i_co (some (.int y5)) rfl

theorem t_225_33 {L nx : Nat} (hN : okn nx) {b z : Nat} {m : Mm} {a0 : Nat} (h0 : ok nx a0 11) {x1 : Int32} {x2 : Int32} {x3 : Int32} {x4 : Int32} {o5 : Option Value} : Im (d_225_33 a0 x1 x2 m x3 x4) (wI L nx) (ev_dn b z 225 33 [some (.ref a0), some (.int x1), some (.int x2), some (.int x3), some (.int x4), o5] [] (nx, mem L nx m)) := by
  exact i_it (f := fun s => s_225_33 a0 x1 x2 m s.1 s.2) (E := E_225_33 L nx b z a0 x1 x2 m) (K := (wI L nx)) (fun d s => u_225_33 hN (h0 := h0)) (o5) (x3, x4)
noncomputable def d_225_20 (a0 : Nat) (x1 : Int32) (x2 : Int32) (s0 : Nat) (s1 : Bool) (m : Mm) : Option (Int32 × Mm) := (d_183 s0 s1 m).bind fun r2 => if r2.1 = true then (d_225_33 a0 x1 x2 r2.2 0 0) else (some (0, r2.2))
theorem t_225_20 {L nx : Nat} (hN : okn nx) {b z : Nat} {m : Mm} {a0 : Nat} (h0 : ok nx a0 11) {s0 : Nat} (hs0 : ok nx s0 11) {x1 : Int32} {x2 : Int32} {s1 : Bool}  : Im (d_225_20 a0 x1 x2 s0 s1 m) (wI L nx) (ev_dn b z 225 20 [some (.ref a0), some (.int x1), some (.int x2), none, none, none] [.int (bi s1), .ref s0] (nx, mem L nx m)) := by
  unfold d_225_20
  refine i_cv (ci := 11) (t := 183) (na := 2) (ml := 2) (idx := 77) (pc' := 23) (st' := []) (en := [some (.ref s0), some (.int (bi s1))]) (av := [.int (bi s1)]) (vo := fun v => some (.int (bi v.1))) (mo := fun v => v.2) (s2 := fun v => .int (bi v.1) :: []) (by decide +kernel) (by decide +kernel) hs0 ⟨rfl, rfl, rfl, rfl, rfl, rfl⟩ (fun _ => rfl) (t_183 hN (h0 := hs0)) (fun r2 => ?_)
  refine i_bn (off := 5) (t := 28) (pc' := 26) (by decide +kernel) ?_ ?_
  · refine i_bl (pc' := 33) [(.iconst 0, 1), (.istore_n 3, 1), (.iconst 0, 1), (.istore 4, 2)] [some (.ref a0), some (.int x1), some (.int x2), some (.int 0), some (.int 0), none] [] (by decide +kernel) rfl ?_
    exact t_225_33 hN (h0 := h0)
  · refine i_bl (pc' := 27) [(.iconst 0, 1)] [some (.ref a0), some (.int x1), some (.int x2), none, none, none] [.int 0] (by decide +kernel) rfl ?_
    exact i_ri (by decide +kernel) rfl

noncomputable def d_225 (a0 : Nat) (x1 : Int32) (x2 : Int32) (m : Mm) : Option (Int32 × Mm) := (d_212 x1).bind fun v1 => if v1 = true then ((d_212 x2).bind fun v11 => if v11 = true then (d_225_20 a0 x1 x2 a0 true m) else (d_225_20 a0 x1 x2 a0 false m)) else (d_225_20 a0 x1 x2 a0 false m)
theorem t_225 {L nx : Nat} (hN : okn nx) {b z : Nat} {m : Mm} {a0 : Nat} (h0 : ok nx a0 11) {x1 : Int32} {x2 : Int32}  : Im (d_225 a0 x1 x2 m) (wI L nx) (ev_dn b z 225 0 [some (.ref a0), some (.int x1), some (.int x2), none, none, none] [] (nx, mem L nx m)) := by
  unfold d_225
  refine i_bl (pc' := 2) [(.aload_n 0, 1), (.iload_n 1, 1)] [some (.ref a0), some (.int x1), some (.int x2), none, none, none] [.int x1, .ref a0] (by decide +kernel) rfl ?_
  refine i_cs (t := 212) (na := 1) (ml := 1) (idx := 154) (pc' := 5) (st' := [.ref a0]) (en := [some (.int x1)]) (av := [.int x1]) (vo := fun v => some (.int (bi v))) (mo := fun _ => m) (s2 := fun v => .int (bi v) :: [.ref a0]) (by decide +kernel) ⟨rfl, rfl, rfl, rfl, rfl, rfl⟩ (fun _ => rfl) (t_212 hN ) (fun v1 => ?_)
  refine i_bz (off := 14) (t := 19) (pc' := 8) (by decide +kernel) ?_ ?_
  · refine i_bl (pc' := 9) [(.iload_n 2, 1)] [some (.ref a0), some (.int x1), some (.int x2), none, none, none] [.int x2, .ref a0] (by decide +kernel) rfl ?_
    refine i_cs (t := 212) (na := 1) (ml := 1) (idx := 154) (pc' := 12) (st' := [.ref a0]) (en := [some (.int x2)]) (av := [.int x2]) (vo := fun v => some (.int (bi v))) (mo := fun _ => m) (s2 := fun v => .int (bi v) :: [.ref a0]) (by decide +kernel) ⟨rfl, rfl, rfl, rfl, rfl, rfl⟩ (fun _ => rfl) (t_212 hN ) (fun v11 => ?_)
    refine i_bz (off := 7) (t := 19) (pc' := 15) (by decide +kernel) ?_ ?_
    · refine i_bl (pc' := 16) [(.iconst 1, 1)] [some (.ref a0), some (.int x1), some (.int x2), none, none, none] [.int 1, .ref a0] (by decide +kernel) rfl ?_
      refine i_go (t := 20) (off := 4) (by decide +kernel) ?_
      exact t_225_20 hN (h0 := h0) (hs0 := h0)
    · refine i_bl (pc' := 20) [(.iconst 0, 1)] [some (.ref a0), some (.int x1), some (.int x2), none, none, none] [.int 0, .ref a0] (by decide +kernel) rfl ?_
      exact t_225_20 hN (h0 := h0) (hs0 := h0)
  · refine i_bl (pc' := 20) [(.iconst 0, 1)] [some (.ref a0), some (.int x1), some (.int x2), none, none, none] [.int 0, .ref a0] (by decide +kernel) rfl ?_
    exact t_225_20 hN (h0 := h0) (hs0 := h0)

/-! 226 LanternChessModel.sum(I)I -/
noncomputable def d_226 (a0 : Nat) (x1 : Int32) (m : Mm) : Option (Int32 × Mm) := (d_212 x1).bind fun v1 => (d_183 a0 v1 m).bind fun r2 => if r2.1 = true then ((d_194 x1).bind fun v3 => (d_209 a0 v3 r2.2).bind fun v4 => some (v4, r2.2)) else (some (0, r2.2))
theorem t_226 {L nx : Nat} (hN : okn nx) {b z : Nat} {m : Mm} {a0 : Nat} (h0 : ok nx a0 11) {x1 : Int32}  : Im (d_226 a0 x1 m) (wI L nx) (ev_dn b z 226 0 [some (.ref a0), some (.int x1)] [] (nx, mem L nx m)) := by
  unfold d_226
  refine i_bl (pc' := 2) [(.aload_n 0, 1), (.iload_n 1, 1)] [some (.ref a0), some (.int x1)] [.int x1, .ref a0] (by decide +kernel) rfl ?_
  refine i_cs (t := 212) (na := 1) (ml := 1) (idx := 154) (pc' := 5) (st' := [.ref a0]) (en := [some (.int x1)]) (av := [.int x1]) (vo := fun v => some (.int (bi v))) (mo := fun _ => m) (s2 := fun v => .int (bi v) :: [.ref a0]) (by decide +kernel) ⟨rfl, rfl, rfl, rfl, rfl, rfl⟩ (fun _ => rfl) (t_212 hN ) (fun v1 => ?_)
  refine i_cv (ci := 11) (t := 183) (na := 2) (ml := 2) (idx := 77) (pc' := 8) (st' := []) (en := [some (.ref a0), some (.int (bi v1))]) (av := [.int (bi v1)]) (vo := fun v => some (.int (bi v.1))) (mo := fun v => v.2) (s2 := fun v => .int (bi v.1) :: []) (by decide +kernel) (by decide +kernel) h0 ⟨rfl, rfl, rfl, rfl, rfl, rfl⟩ (fun _ => rfl) (t_183 hN (h0 := h0)) (fun r2 => ?_)
  refine i_bz (off := 14) (t := 22) (pc' := 11) (by decide +kernel) ?_ ?_
  · refine i_bl (pc' := 13) [(.aload_n 0, 1), (.iload_n 1, 1)] [some (.ref a0), some (.int x1)] [.int x1, .ref a0] (by decide +kernel) rfl ?_
    refine i_cs (t := 194) (na := 1) (ml := 1) (idx := 165) (pc' := 16) (st' := [.ref a0]) (en := [some (.int x1)]) (av := [.int x1]) (vo := fun v => some (.int v)) (mo := fun _ => r2.2) (s2 := fun v => .int v :: [.ref a0]) (by decide +kernel) ⟨rfl, rfl, rfl, rfl, rfl, rfl⟩ (fun _ => rfl) (t_194 hN ) (fun v3 => ?_)
    refine i_cv (ci := 11) (t := 209) (na := 2) (ml := 4) (idx := 182) (pc' := 19) (st' := []) (en := [some (.ref a0), some (.int v3), none, none]) (av := [.int v3]) (vo := fun v => some (.int v)) (mo := fun _ => r2.2) (s2 := fun v => .int v :: []) (by decide +kernel) (by decide +kernel) h0 ⟨rfl, rfl, rfl, rfl, rfl, rfl⟩ (fun _ => rfl) (t_209 hN (h0 := h0)) (fun v4 => ?_)
    refine i_go (t := 23) (off := 4) (by decide +kernel) ?_
    exact i_ri (by decide +kernel) rfl
  · refine i_bl (pc' := 23) [(.iconst 0, 1)] [some (.ref a0), some (.int x1)] [.int 0] (by decide +kernel) rfl ?_
    exact i_ri (by decide +kernel) rfl

/-! 227 LanternChessModel.differing()I -/
noncomputable def E_227_4 (L nx b z : Nat) (a0 : Nat) (m : Mm) (d : Unit) (s : (Int32 × Int32)) : ev_Q := ev_dn b z 227 4 [some (.ref a0), some (.int s.1), some (.int s.2)] [] (nx, mem L nx m)
noncomputable def s_227_4 (a0 : Nat) (m : Mm) (x1 : Int32) (x2 : Int32) : Option ((Int32 × Int32) ⊕ Int32) := (d_193 a0 m).bind fun v1 => if v1 ≤ x2 then (some (.inr x1)) else ((d_194 0).bind fun v2 => if ev_in (v2 + x2) (sh_n (sh_r a0 1)) = true then ((d_194 1).bind fun v3 => if ev_in (v3 + x2) (sh_n (sh_r a0 1)) = true then (if (m (sh_r a0 1) (ix (v2 + x2))) = (m (sh_r a0 1) (ix (v3 + x2))) then (wb (x2 + 1) fun y4 => some (.inl (x1, y4))) else (wb (x1 + 1) fun y5 => wb (x2 + 1) fun y6 => some (.inl (y5, y6)))) else none) else none)
noncomputable def d_227_4 (a0 : Nat) (m : Mm) (x1 : Int32) (x2 : Int32) : Option Int32 := it (fun s => s_227_4 a0 m s.1 s.2) (x1, x2)
theorem e_227_4 (a0 : Nat) (m : Mm) (x1 : Int32) (x2 : Int32) : d_227_4 a0 m x1 x2 = oi (s_227_4 a0 m x1 x2) (fun s => d_227_4 a0 m s.1 s.2) := it_eq _
theorem u_227_4 {L nx : Nat} (hN : okn nx) {b z : Nat} {m : Mm} {a0 : Nat} (h0 : ok nx a0 11) {x1 : Int32} {x2 : Int32}  : Im (s_227_4 a0 m x1 x2) (kL (kI L nx m) (E_227_4 L nx b z a0 m)) (ev_dn b z 227 4 [some (.ref a0), some (.int x1), some (.int x2)] [] (nx, mem L nx m)) := by
  unfold s_227_4
  refine i_bl (pc' := 6) [(.iload_n 2, 1), (.aload_n 0, 1)] [some (.ref a0), some (.int x1), some (.int x2)] [.ref a0, .int x2] (by decide +kernel) rfl ?_
  refine i_cv (ci := 11) (t := 193) (na := 1) (ml := 1) (idx := 125) (pc' := 9) (st' := [.int x2]) (en := [some (.ref a0)]) (av := []) (vo := fun v => some (.int v)) (mo := fun _ => m) (s2 := fun v => .int v :: [.int x2]) (by decide +kernel) (by decide +kernel) h0 ⟨rfl, rfl, rfl, rfl, rfl, rfl⟩ (fun _ => rfl) (t_193 hN (h0 := h0)) (fun v1 => ?_)
  refine i_ic (c := .ge) (off := 38) (t := 47) (pc' := 12) (p := v1 ≤ x2) (by decide +kernel) rfl ?_ ?_
  · refine i_bl (pc' := 48) [(.iload_n 1, 1)] [some (.ref a0), some (.int x1), some (.int x2)] [.int x1] (by decide +kernel) rfl ?_
    exact i_ir (i_ri (by decide +kernel) rfl)
  · refine i_bl (pc' := 13) [(.aload_n 0, 1)] [some (.ref a0), some (.int x1), some (.int x2)] [.ref a0] (by decide +kernel) rfl ?_
    refine i_gr (idx := 7) (ci := 11) (k := 1) (t := 2) (p := 16234) (pc' := 16) (by decide +kernel) h0 ?_
    refine i_bl (pc' := 17) [(.iconst 0, 1)] [some (.ref a0), some (.int x1), some (.int x2)] [.int 0, .ref (sh_r a0 1)] (by decide +kernel) rfl ?_
    refine i_cs (t := 194) (na := 1) (ml := 1) (idx := 165) (pc' := 20) (st' := [.ref (sh_r a0 1)]) (en := [some (.int 0)]) (av := [.int 0]) (vo := fun v => some (.int v)) (mo := fun _ => m) (s2 := fun v => .int v :: [.ref (sh_r a0 1)]) (by decide +kernel) ⟨rfl, rfl, rfl, rfl, rfl, rfl⟩ (fun _ => rfl) (t_194 hN ) (fun v2 => ?_)
    refine i_bl (pc' := 22) [(.iload_n 2, 1), (.iadd, 1)] [some (.ref a0), some (.int x1), some (.int x2)] [.int (v2 + x2), .ref (sh_r a0 1)] (by decide +kernel) rfl ?_
    refine i_al (pc' := 23) (by decide +kernel) (o_11_1 hN h0) ?_
    refine i_bl (pc' := 24) [(.aload_n 0, 1)] [some (.ref a0), some (.int x1), some (.int x2)] [.ref a0, .int (m (sh_r a0 1) (ix (v2 + x2)))] (by decide +kernel) rfl ?_
    refine i_gr (idx := 7) (ci := 11) (k := 1) (t := 2) (p := 16234) (pc' := 27) (by decide +kernel) h0 ?_
    refine i_bl (pc' := 28) [(.iconst 1, 1)] [some (.ref a0), some (.int x1), some (.int x2)] [.int 1, .ref (sh_r a0 1), .int (m (sh_r a0 1) (ix (v2 + x2)))] (by decide +kernel) rfl ?_
    refine i_cs (t := 194) (na := 1) (ml := 1) (idx := 165) (pc' := 31) (st' := [.ref (sh_r a0 1), .int (m (sh_r a0 1) (ix (v2 + x2)))]) (en := [some (.int 1)]) (av := [.int 1]) (vo := fun v => some (.int v)) (mo := fun _ => m) (s2 := fun v => .int v :: [.ref (sh_r a0 1), .int (m (sh_r a0 1) (ix (v2 + x2)))]) (by decide +kernel) ⟨rfl, rfl, rfl, rfl, rfl, rfl⟩ (fun _ => rfl) (t_194 hN ) (fun v3 => ?_)
    refine i_bl (pc' := 33) [(.iload_n 2, 1), (.iadd, 1)] [some (.ref a0), some (.int x1), some (.int x2)] [.int (v3 + x2), .ref (sh_r a0 1), .int (m (sh_r a0 1) (ix (v2 + x2)))] (by decide +kernel) rfl ?_
    refine i_al (pc' := 34) (by decide +kernel) (o_11_1 hN h0) ?_
    refine i_ic (c := .eq) (off := 7) (t := 41) (pc' := 37) (p := (m (sh_r a0 1) (ix (v2 + x2))) = (m (sh_r a0 1) (ix (v3 + x2)))) (by decide +kernel) rfl ?_ ?_
    · refine i_bl (pc' := 44) [(.iinc 2 (1), 3)] [some (.ref a0), some (.int x1), some (.int (x2 + 1))] [] (by decide +kernel) rfl ?_
      refine i_wb (fun y4 => ev_dn b z 227 44 [some (.ref a0), some (.int x1), some (.int y4)] [] (nx, mem L nx m)) (fun y4 => ?_)
      refine i_go (t := 4) (off := -40) (by decide +kernel) ?_
      exact i_co () rfl
    · refine i_bl (pc' := 41) [(.iload_n 1, 1), (.iconst 1, 1), (.iadd, 1), (.istore_n 1, 1)] [some (.ref a0), some (.int (x1 + 1)), some (.int x2)] [] (by decide +kernel) rfl ?_
      refine i_wb (fun y5 => ev_dn b z 227 41 [some (.ref a0), some (.int y5), some (.int x2)] [] (nx, mem L nx m)) (fun y5 => ?_)
      refine i_bl (pc' := 44) [(.iinc 2 (1), 3)] [some (.ref a0), some (.int y5), some (.int (x2 + 1))] [] (by decide +kernel) rfl ?_
      refine i_wb (fun y6 => ev_dn b z 227 44 [some (.ref a0), some (.int y5), some (.int y6)] [] (nx, mem L nx m)) (fun y6 => ?_)
      refine i_go (t := 4) (off := -40) (by decide +kernel) ?_
      exact i_co () rfl

theorem t_227_4 {L nx : Nat} (hN : okn nx) {b z : Nat} {m : Mm} {a0 : Nat} (h0 : ok nx a0 11) {x1 : Int32} {x2 : Int32}  : Im (d_227_4 a0 m x1 x2) (kI L nx m) (ev_dn b z 227 4 [some (.ref a0), some (.int x1), some (.int x2)] [] (nx, mem L nx m)) := by
  exact i_it (f := fun s => s_227_4 a0 m s.1 s.2) (E := E_227_4 L nx b z a0 m) (K := (kI L nx m)) (fun d s => u_227_4 hN (h0 := h0)) () (x1, x2)
noncomputable def d_227 (a0 : Nat) (m : Mm) : Option Int32 := d_227_4 a0 m 0 0
theorem t_227 {L nx : Nat} (hN : okn nx) {b z : Nat} {m : Mm} {a0 : Nat} (h0 : ok nx a0 11)   : Im (d_227 a0 m) (kI L nx m) (ev_dn b z 227 0 [some (.ref a0), none, none] [] (nx, mem L nx m)) := by
  unfold d_227
  refine i_bl (pc' := 4) [(.iconst 0, 1), (.istore_n 1, 1), (.iconst 0, 1), (.istore_n 2, 1)] [some (.ref a0), some (.int 0), some (.int 0)] [] (by decide +kernel) rfl ?_
  exact t_227_4 hN (h0 := h0)

/-! 228 LanternChessModel.differ(I)I -/
noncomputable def E_228_27 (L nx b z : Nat) (a0 : Nat) (m : Mm) (d : Option Value) (s : (Int32)) : ev_Q := ev_dn b z 228 27 [some (.ref a0), d, some (.int s)] [] (nx, mem L nx m)
noncomputable def s_228_27 (a0 : Nat) (m : Mm) (x2 : Int32) : Option ((Int32) ⊕ (Int32 × Mm)) := (d_193 a0 m).bind fun v3 => if v3 ≤ x2 then (some (.inr ((-1), m))) else ((d_194 0).bind fun v4 => if ev_in (v4 + x2) (sh_n (sh_r a0 1)) = true then ((d_194 1).bind fun v5 => if ev_in (v5 + x2) (sh_n (sh_r a0 1)) = true then (if (m (sh_r a0 1) (ix (v4 + x2))) = (m (sh_r a0 1) (ix (v5 + x2))) then (wb (x2 + 1) fun y6 => some (.inl (y6))) else (some (.inr (x2, m)))) else none) else none)
noncomputable def d_228_27 (a0 : Nat) (m : Mm) (x2 : Int32) : Option (Int32 × Mm) := it (fun s => s_228_27 a0 m s) (x2)
theorem e_228_27 (a0 : Nat) (m : Mm) (x2 : Int32) : d_228_27 a0 m x2 = oi (s_228_27 a0 m x2) (fun s => d_228_27 a0 m s) := it_eq _
theorem u_228_27 {L nx : Nat} (hN : okn nx) {b z : Nat} {m : Mm} {a0 : Nat} (h0 : ok nx a0 11) {x2 : Int32} {o1 : Option Value} : Im (s_228_27 a0 m x2) (kL (wI L nx) (E_228_27 L nx b z a0 m)) (ev_dn b z 228 27 [some (.ref a0), o1, some (.int x2)] [] (nx, mem L nx m)) := by
  unfold s_228_27
  refine i_bl (pc' := 29) [(.iload_n 2, 1), (.aload_n 0, 1)] [some (.ref a0), o1, some (.int x2)] [.ref a0, .int x2] (by decide +kernel) rfl ?_
  refine i_cv (ci := 11) (t := 193) (na := 1) (ml := 1) (idx := 125) (pc' := 32) (st' := [.int x2]) (en := [some (.ref a0)]) (av := []) (vo := fun v => some (.int v)) (mo := fun _ => m) (s2 := fun v => .int v :: [.int x2]) (by decide +kernel) (by decide +kernel) h0 ⟨rfl, rfl, rfl, rfl, rfl, rfl⟩ (fun _ => rfl) (t_193 hN (h0 := h0)) (fun v3 => ?_)
  refine i_ic (c := .ge) (off := 36) (t := 68) (pc' := 35) (p := v3 ≤ x2) (by decide +kernel) rfl ?_ ?_
  · refine i_bl (pc' := 69) [(.iconst (-1), 1)] [some (.ref a0), o1, some (.int x2)] [.int (-1)] (by decide +kernel) rfl ?_
    exact i_ir (i_ri (by decide +kernel) rfl)
  · refine i_bl (pc' := 36) [(.aload_n 0, 1)] [some (.ref a0), o1, some (.int x2)] [.ref a0] (by decide +kernel) rfl ?_
    refine i_gr (idx := 7) (ci := 11) (k := 1) (t := 2) (p := 16234) (pc' := 39) (by decide +kernel) h0 ?_
    refine i_bl (pc' := 40) [(.iconst 0, 1)] [some (.ref a0), o1, some (.int x2)] [.int 0, .ref (sh_r a0 1)] (by decide +kernel) rfl ?_
    refine i_cs (t := 194) (na := 1) (ml := 1) (idx := 165) (pc' := 43) (st' := [.ref (sh_r a0 1)]) (en := [some (.int 0)]) (av := [.int 0]) (vo := fun v => some (.int v)) (mo := fun _ => m) (s2 := fun v => .int v :: [.ref (sh_r a0 1)]) (by decide +kernel) ⟨rfl, rfl, rfl, rfl, rfl, rfl⟩ (fun _ => rfl) (t_194 hN ) (fun v4 => ?_)
    refine i_bl (pc' := 45) [(.iload_n 2, 1), (.iadd, 1)] [some (.ref a0), o1, some (.int x2)] [.int (v4 + x2), .ref (sh_r a0 1)] (by decide +kernel) rfl ?_
    refine i_al (pc' := 46) (by decide +kernel) (o_11_1 hN h0) ?_
    refine i_bl (pc' := 47) [(.aload_n 0, 1)] [some (.ref a0), o1, some (.int x2)] [.ref a0, .int (m (sh_r a0 1) (ix (v4 + x2)))] (by decide +kernel) rfl ?_
    refine i_gr (idx := 7) (ci := 11) (k := 1) (t := 2) (p := 16234) (pc' := 50) (by decide +kernel) h0 ?_
    refine i_bl (pc' := 51) [(.iconst 1, 1)] [some (.ref a0), o1, some (.int x2)] [.int 1, .ref (sh_r a0 1), .int (m (sh_r a0 1) (ix (v4 + x2)))] (by decide +kernel) rfl ?_
    refine i_cs (t := 194) (na := 1) (ml := 1) (idx := 165) (pc' := 54) (st' := [.ref (sh_r a0 1), .int (m (sh_r a0 1) (ix (v4 + x2)))]) (en := [some (.int 1)]) (av := [.int 1]) (vo := fun v => some (.int v)) (mo := fun _ => m) (s2 := fun v => .int v :: [.ref (sh_r a0 1), .int (m (sh_r a0 1) (ix (v4 + x2)))]) (by decide +kernel) ⟨rfl, rfl, rfl, rfl, rfl, rfl⟩ (fun _ => rfl) (t_194 hN ) (fun v5 => ?_)
    refine i_bl (pc' := 56) [(.iload_n 2, 1), (.iadd, 1)] [some (.ref a0), o1, some (.int x2)] [.int (v5 + x2), .ref (sh_r a0 1), .int (m (sh_r a0 1) (ix (v4 + x2)))] (by decide +kernel) rfl ?_
    refine i_al (pc' := 57) (by decide +kernel) (o_11_1 hN h0) ?_
    refine i_ic (c := .eq) (off := 5) (t := 62) (pc' := 60) (p := (m (sh_r a0 1) (ix (v4 + x2))) = (m (sh_r a0 1) (ix (v5 + x2)))) (by decide +kernel) rfl ?_ ?_
    · refine i_bl (pc' := 65) [(.iinc 2 (1), 3)] [some (.ref a0), (ev_kl o1), some (.int (x2 + 1))] [] (by decide +kernel) rfl ?_
      refine i_wb (fun y6 => ev_dn b z 228 65 [some (.ref a0), (ev_kl o1), some (.int y6)] [] (nx, mem L nx m)) (fun y6 => ?_)
      refine i_go (t := 27) (off := -38) (by decide +kernel) ?_
      exact i_co ((ev_kl o1)) rfl
    · refine i_bl (pc' := 61) [(.iload_n 2, 1)] [some (.ref a0), o1, some (.int x2)] [.int x2] (by decide +kernel) rfl ?_
      exact i_ir (i_ri (by decide +kernel) rfl)

theorem t_228_27 {L nx : Nat} (hN : okn nx) {b z : Nat} {m : Mm} {a0 : Nat} (h0 : ok nx a0 11) {x2 : Int32} {o1 : Option Value} : Im (d_228_27 a0 m x2) (wI L nx) (ev_dn b z 228 27 [some (.ref a0), o1, some (.int x2)] [] (nx, mem L nx m)) := by
  exact i_it (f := fun s => s_228_27 a0 m s) (E := E_228_27 L nx b z a0 m) (K := (wI L nx)) (fun d s => u_228_27 hN (h0 := h0)) (o1) (x2)
noncomputable def d_228 (a0 : Nat) (x1 : Int32) (m : Mm) : Option (Int32 × Mm) := (d_185 x1 0 1).bind fun v1 => (d_183 a0 v1 m).bind fun r2 => if r2.1 = true then (if ¬ x1 = 0 then (d_228_27 a0 r2.2 0) else ((d_227 a0 r2.2).bind fun v7 => some (v7, r2.2))) else (some (0, r2.2))
theorem t_228 {L nx : Nat} (hN : okn nx) {b z : Nat} {m : Mm} {a0 : Nat} (h0 : ok nx a0 11) {x1 : Int32}  : Im (d_228 a0 x1 m) (wI L nx) (ev_dn b z 228 0 [some (.ref a0), some (.int x1), none] [] (nx, mem L nx m)) := by
  unfold d_228
  refine i_bl (pc' := 5) [(.aload_n 0, 1), (.iload_n 1, 1), (.i2l, 1), (.lconst 0, 1), (.lconst 1, 1)] [some (.ref a0), some (.int x1), none] [.long (1 : Int32).toInt64, .long (0 : Int32).toInt64, .long x1.toInt64, .ref a0] (by decide +kernel) rfl ?_
  refine i_cs (t := 185) (na := 3) (ml := 6) (idx := 148) (pc' := 8) (st' := [.ref a0]) (en := [some (.long x1.toInt64), none, some (.long (0 : Int32).toInt64), none, some (.long (1 : Int32).toInt64), none]) (av := [.long x1.toInt64, .long (0 : Int32).toInt64, .long (1 : Int32).toInt64]) (vo := fun v => some (.int (bi v))) (mo := fun _ => m) (s2 := fun v => .int (bi v) :: [.ref a0]) (by decide +kernel) ⟨rfl, rfl, rfl, rfl, rfl, rfl⟩ (fun _ => rfl) (t_185 hN ) (fun v1 => ?_)
  refine i_cv (ci := 11) (t := 183) (na := 2) (ml := 2) (idx := 77) (pc' := 11) (st' := []) (en := [some (.ref a0), some (.int (bi v1))]) (av := [.int (bi v1)]) (vo := fun v => some (.int (bi v.1))) (mo := fun v => v.2) (s2 := fun v => .int (bi v.1) :: []) (by decide +kernel) (by decide +kernel) h0 ⟨rfl, rfl, rfl, rfl, rfl, rfl⟩ (fun _ => rfl) (t_183 hN (h0 := h0)) (fun r2 => ?_)
  refine i_bn (off := 5) (t := 16) (pc' := 14) (by decide +kernel) ?_ ?_
  · refine i_bl (pc' := 17) [(.iload_n 1, 1)] [some (.ref a0), some (.int x1), none] [.int x1] (by decide +kernel) rfl ?_
    refine i_if (c := .ne) (off := 8) (t := 25) (pc' := 20) (p := ¬ x1 = 0) (by decide +kernel) rfl ?_ ?_
    · refine i_bl (pc' := 27) [(.iconst 0, 1), (.istore_n 2, 1)] [some (.ref a0), some (.int x1), some (.int 0)] [] (by decide +kernel) rfl ?_
      exact t_228_27 hN (h0 := h0)
    · refine i_bl (pc' := 21) [(.aload_n 0, 1)] [some (.ref a0), some (.int x1), none] [.ref a0] (by decide +kernel) rfl ?_
      refine i_cv (ci := 11) (t := 227) (na := 1) (ml := 3) (idx := 185) (pc' := 24) (st' := []) (en := [some (.ref a0), none, none]) (av := []) (vo := fun v => some (.int v)) (mo := fun _ => r2.2) (s2 := fun v => .int v :: []) (by decide +kernel) (by decide +kernel) h0 ⟨rfl, rfl, rfl, rfl, rfl, rfl⟩ (fun _ => rfl) (t_227 hN (h0 := h0)) (fun v7 => ?_)
      exact i_ri (by decide +kernel) rfl
  · refine i_bl (pc' := 15) [(.iconst 0, 1)] [some (.ref a0), some (.int x1), none] [.int 0] (by decide +kernel) rfl ?_
    exact i_ri (by decide +kernel) rfl

/-! 229 LanternChessModel.fewest(IIII)I -/
noncomputable def E_229_3 (L nx b z : Nat) (a0 : Nat) (x1 : Int32) (x2 : Int32) (x3 : Int32) (x4 : Int32) (d : Unit) (s : (Int32 × Mm)) : ev_Q := ev_dn b z 229 3 [some (.ref a0), some (.int x1), some (.int x2), some (.int x3), some (.int x4), some (.int s.1), none, none, none, none, none] [] (nx, mem L nx s.2)
noncomputable def E_229_44 (L nx b z : Nat) (a0 : Nat) (x1 : Int32) (x2 : Int32) (x4 : Int32) (d : Option Value × Option Value × Option Value × Option Value × Option Value) (s : (Int32 × Int32 × Mm)) : ev_Q := ev_dn b z 229 44 [some (.ref a0), some (.int x1), some (.int x2), d.1, some (.int x4), some (.int s.1), some (.int s.2.1), d.2.1, d.2.2.1, d.2.2.2.1, d.2.2.2.2] [] (nx, mem L nx s.2.2)
noncomputable def d_229_221 (a0 : Nat) (x4 : Int32) (m : Mm) : Option (Int32 × Mm) := if ev_in x4 (sh_n (sh_r a0 13)) = true then (some (m (sh_r a0 13) (ix x4), m)) else none
theorem t_229_221 {L nx : Nat} (hN : okn nx) {b z : Nat} {m : Mm} {a0 : Nat} (h0 : ok nx a0 11) {x4 : Int32} {o1 : Option Value} {o2 : Option Value} {o3 : Option Value} {o5 : Option Value} {o6 : Option Value} {o7 : Option Value} {o8 : Option Value} {o9 : Option Value} {o10 : Option Value} : Im (d_229_221 a0 x4 m) (wI L nx) (ev_dn b z 229 221 [some (.ref a0), o1, o2, o3, some (.int x4), o5, o6, o7, o8, o9, o10] [] (nx, mem L nx m)) := by
  unfold d_229_221
  refine i_bl (pc' := 222) [(.aload_n 0, 1)] [some (.ref a0), o1, o2, o3, some (.int x4), o5, o6, o7, o8, o9, o10] [.ref a0] (by decide +kernel) rfl ?_
  refine i_gr (idx := 40) (ci := 11) (k := 13) (t := 2) (p := 17006) (pc' := 225) (by decide +kernel) h0 ?_
  refine i_bl (pc' := 227) [(.iload 4, 2)] [some (.ref a0), o1, o2, o3, some (.int x4), o5, o6, o7, o8, o9, o10] [.int x4, .ref (sh_r a0 13)] (by decide +kernel) rfl ?_
  refine i_al (pc' := 228) (by decide +kernel) (o_11_13 hN h0) ?_
  exact i_ri (by decide +kernel) rfl

noncomputable def E_229_63 (L nx b z : Nat) (a0 : Nat) (x1 : Int32) (x2 : Int32) (x4 : Int32) (x6 : Int32) (x7 : Int32) (d : Option Value × Option Value × Option Value) (s : (Int32 × Int32 × Mm)) : ev_Q := ev_dn b z 229 63 [some (.ref a0), some (.int x1), some (.int x2), d.1, some (.int x4), some (.int s.1), some (.int x6), some (.int x7), some (.int s.2.1), d.2.1, d.2.2] [] (nx, mem L nx s.2.2)
noncomputable def d_229_186 (a0 : Nat) (x8 : Int32) (m : Mm) : Option (Int32 × Mm) := if ev_in x8 (sh_n (sh_r a0 13)) = true then (some (m (sh_r a0 13) (ix x8), m)) else none
theorem t_229_186 {L nx : Nat} (hN : okn nx) {b z : Nat} {m : Mm} {a0 : Nat} (h0 : ok nx a0 11) {x8 : Int32} {o1 : Option Value} {o2 : Option Value} {o3 : Option Value} {o4 : Option Value} {o5 : Option Value} {o6 : Option Value} {o7 : Option Value} {o9 : Option Value} {o10 : Option Value} : Im (d_229_186 a0 x8 m) (wI L nx) (ev_dn b z 229 186 [some (.ref a0), o1, o2, o3, o4, o5, o6, o7, some (.int x8), o9, o10] [] (nx, mem L nx m)) := by
  unfold d_229_186
  refine i_bl (pc' := 187) [(.aload_n 0, 1)] [some (.ref a0), o1, o2, o3, o4, o5, o6, o7, some (.int x8), o9, o10] [.ref a0] (by decide +kernel) rfl ?_
  refine i_gr (idx := 40) (ci := 11) (k := 13) (t := 2) (p := 17006) (pc' := 190) (by decide +kernel) h0 ?_
  refine i_bl (pc' := 192) [(.iload 8, 2)] [some (.ref a0), o1, o2, o3, o4, o5, o6, o7, some (.int x8), o9, o10] [.int x8, .ref (sh_r a0 13)] (by decide +kernel) rfl ?_
  refine i_al (pc' := 193) (by decide +kernel) (o_11_13 hN h0) ?_
  exact i_ri (by decide +kernel) rfl

noncomputable def d_229_154 (a0 : Nat) (x1 : Int32) (x2 : Int32) (x4 : Int32) (x5 : Int32) (x6 : Int32) (x7 : Int32) (x8 : Int32) (s0 : Nat) (s1 : Int32) (s2 : Int32) (s3 : Int32) (s4 : Int32) (s5 : Bool) (m : Mm) : Option ((Int32 × Int32 × Mm) ⊕ ((Int32 × Int32 × Mm) ⊕ (Int32 × Mm))) := (d_202 s0 s1 s2 s3 s4 s5 m).bind fun v10 => if v10 = true then (if ev_in x7 (sh_n (sh_r a0 13)) = true then (if ev_in x8 (sh_n (sh_r a0 13)) = true then (wb (wr m (sh_r a0 13) (ix x8) ((m (sh_r a0 13) (ix x7)) + 1)) fun m11 => if ¬ x8 = x4 then (if ev_in x5 (sh_n (sh_r a0 14)) = true then (wb (wr m11 (sh_r a0 14) (ix x5) x8) fun m12 => wb (x5 + 1) fun y13 => wb (x8 + 1) fun y14 => some (.inl (y13, y14, m12))) else none) else (((d_229_186 a0 x8 m11).map Sum.inr).map Sum.inr)) else none) else none) else (wb (x8 + 1) fun y15 => some (.inl (x5, y15, m)))
theorem t_229_154 {L nx : Nat} (hN : okn nx) {b z : Nat} {m : Mm} {a0 : Nat} (h0 : ok nx a0 11) {s0 : Nat} (hs0 : ok nx s0 11) {x1 : Int32} {x2 : Int32} {x4 : Int32} {x5 : Int32} {x6 : Int32} {x7 : Int32} {x8 : Int32} {s1 : Int32} {s2 : Int32} {s3 : Int32} {s4 : Int32} {s5 : Bool} {o3 : Option Value} {o9 : Option Value} {o10 : Option Value} : Im (d_229_154 a0 x1 x2 x4 x5 x6 x7 x8 s0 s1 s2 s3 s4 s5 m) (kL (kL (wI L nx) (E_229_44 L nx b z a0 x1 x2 x4)) (E_229_63 L nx b z a0 x1 x2 x4 x6 x7)) (ev_dn b z 229 154 [some (.ref a0), some (.int x1), some (.int x2), o3, some (.int x4), some (.int x5), some (.int x6), some (.int x7), some (.int x8), o9, o10] [.int (bi s5), .int s4, .int s3, .int s2, .int s1, .ref s0] (nx, mem L nx m)) := by
  unfold d_229_154
  refine i_cv (ci := 11) (t := 202) (na := 6) (ml := 12) (idx := 114) (pc' := 157) (st' := []) (en := [some (.ref s0), some (.int s1), some (.int s2), some (.int s3), some (.int s4), some (.int (bi s5)), none, none, none, none, none, none]) (av := [.int s1, .int s2, .int s3, .int s4, .int (bi s5)]) (vo := fun v => some (.int (bi v))) (mo := fun _ => m) (s2 := fun v => .int (bi v) :: []) (by decide +kernel) (by decide +kernel) hs0 ⟨rfl, rfl, rfl, rfl, rfl, rfl⟩ (fun _ => rfl) (t_202 hN (h0 := hs0)) (fun v10 => ?_)
  refine i_bn (off := 6) (t := 163) (pc' := 160) (by decide +kernel) ?_ ?_
  · refine i_bl (pc' := 164) [(.aload_n 0, 1)] [some (.ref a0), some (.int x1), some (.int x2), o3, some (.int x4), some (.int x5), some (.int x6), some (.int x7), some (.int x8), o9, o10] [.ref a0] (by decide +kernel) rfl ?_
    refine i_gr (idx := 40) (ci := 11) (k := 13) (t := 2) (p := 17006) (pc' := 167) (by decide +kernel) h0 ?_
    refine i_bl (pc' := 170) [(.iload 8, 2), (.aload_n 0, 1)] [some (.ref a0), some (.int x1), some (.int x2), o3, some (.int x4), some (.int x5), some (.int x6), some (.int x7), some (.int x8), o9, o10] [.ref a0, .int x8, .ref (sh_r a0 13)] (by decide +kernel) rfl ?_
    refine i_gr (idx := 40) (ci := 11) (k := 13) (t := 2) (p := 17006) (pc' := 173) (by decide +kernel) h0 ?_
    refine i_bl (pc' := 175) [(.iload 7, 2)] [some (.ref a0), some (.int x1), some (.int x2), o3, some (.int x4), some (.int x5), some (.int x6), some (.int x7), some (.int x8), o9, o10] [.int x7, .ref (sh_r a0 13), .int x8, .ref (sh_r a0 13)] (by decide +kernel) rfl ?_
    refine i_al (pc' := 176) (by decide +kernel) (o_11_13 hN h0) ?_
    refine i_bl (pc' := 178) [(.iconst 1, 1), (.iadd, 1)] [some (.ref a0), some (.int x1), some (.int x2), o3, some (.int x4), some (.int x5), some (.int x6), some (.int x7), some (.int x8), o9, o10] [.int ((m (sh_r a0 13) (ix x7)) + 1), .int x8, .ref (sh_r a0 13)] (by decide +kernel) rfl ?_
    refine i_as (y := ((m (sh_r a0 13) (ix x7)) + 1)) (pc' := 179) (by decide +kernel) (o_11_13 hN h0) (fun m11 => ?_)
    refine i_bl (pc' := 183) [(.iload 8, 2), (.iload 4, 2)] [some (.ref a0), some (.int x1), some (.int x2), o3, some (.int x4), some (.int x5), some (.int x6), some (.int x7), some (.int x8), o9, o10] [.int x4, .int x8] (by decide +kernel) rfl ?_
    refine i_ic (c := .ne) (off := 11) (t := 194) (pc' := 186) (p := ¬ x8 = x4) (by decide +kernel) rfl ?_ ?_
    · refine i_bl (pc' := 195) [(.aload_n 0, 1)] [some (.ref a0), some (.int x1), some (.int x2), o3, some (.int x4), some (.int x5), some (.int x6), some (.int x7), some (.int x8), o9, o10] [.ref a0] (by decide +kernel) rfl ?_
      refine i_gr (idx := 43) (ci := 11) (k := 14) (t := 2) (p := 17007) (pc' := 198) (by decide +kernel) h0 ?_
      refine i_bl (pc' := 202) [(.iload 5, 2), (.iload 8, 2)] [some (.ref a0), some (.int x1), some (.int x2), o3, some (.int x4), some (.int x5), some (.int x6), some (.int x7), some (.int x8), o9, o10] [.int x8, .int x5, .ref (sh_r a0 14)] (by decide +kernel) rfl ?_
      refine i_as (y := x8) (pc' := 203) (by decide +kernel) (o_11_14 hN h0) (fun m12 => ?_)
      refine i_bl (pc' := 209) [(.iload 5, 2), (.iconst 1, 1), (.iadd, 1), (.istore 5, 2)] [some (.ref a0), some (.int x1), some (.int x2), o3, some (.int x4), some (.int (x5 + 1)), some (.int x6), some (.int x7), some (.int x8), o9, o10] [] (by decide +kernel) rfl ?_
      refine i_wb (fun y13 => ev_dn b z 229 209 [some (.ref a0), some (.int x1), some (.int x2), o3, some (.int x4), some (.int y13), some (.int x6), some (.int x7), some (.int x8), o9, o10] [] (nx, mem L nx m12)) (fun y13 => ?_)
      refine i_bl (pc' := 212) [(.iinc 8 (1), 3)] [some (.ref a0), some (.int x1), some (.int x2), o3, some (.int x4), some (.int y13), some (.int x6), some (.int x7), some (.int (x8 + 1)), o9, o10] [] (by decide +kernel) rfl ?_
      refine i_wb (fun y14 => ev_dn b z 229 212 [some (.ref a0), some (.int x1), some (.int x2), o3, some (.int x4), some (.int y13), some (.int x6), some (.int x7), some (.int y14), o9, o10] [] (nx, mem L nx m12)) (fun y14 => ?_)
      refine i_go (t := 63) (off := -149) (by decide +kernel) ?_
      exact i_co (o3, o9, o10) rfl
    · exact i_mr (i_mr (t_229_186 hN (h0 := h0)))
  · refine i_go (t := 209) (off := 49) (by decide +kernel) ?_
    refine i_bl (pc' := 212) [(.iinc 8 (1), 3)] [some (.ref a0), some (.int x1), some (.int x2), o3, some (.int x4), some (.int x5), some (.int x6), some (.int x7), some (.int (x8 + 1)), o9, o10] [] (by decide +kernel) rfl ?_
    refine i_wb (fun y15 => ev_dn b z 229 212 [some (.ref a0), some (.int x1), some (.int x2), o3, some (.int x4), some (.int x5), some (.int x6), some (.int x7), some (.int y15), o9, o10] [] (nx, mem L nx m)) (fun y15 => ?_)
    refine i_go (t := 63) (off := -149) (by decide +kernel) ?_
    exact i_co (o3, o9, o10) rfl

noncomputable def d_229_112 (a0 : Nat) (x1 : Int32) (x2 : Int32) (x4 : Int32) (x5 : Int32) (x6 : Int32) (x7 : Int32) (x8 : Int32) (x9 : Int32) (s0 : Bool) (m : Mm) : Option ((Int32 × Int32 × Mm) ⊕ ((Int32 × Int32 × Mm) ⊕ (Int32 × Mm))) := if x8 = x7 then (wb (x8 + 1) fun y7 => some (.inl (x5, y7, m))) else (if ev_in x8 (sh_n (sh_r a0 13)) = true then (if ¬ (m (sh_r a0 13) (ix x8)) = (-1) then (wb (x8 + 1) fun y8 => some (.inl (x5, y8, m))) else (if s0 = true then (if x9 = 0 then (d_229_154 a0 x1 x2 x4 x5 x6 x7 x8 a0 x1 x2 x7 x8 false m) else (d_229_154 a0 x1 x2 x4 x5 x6 x7 x8 a0 x1 x2 x7 x8 true m)) else (wb (x8 + 1) fun y9 => some (.inl (x5, y9, m))))) else none)
theorem t_229_112 {L nx : Nat} (hN : okn nx) {b z : Nat} {m : Mm} {a0 : Nat} (h0 : ok nx a0 11) {x1 : Int32} {x2 : Int32} {x4 : Int32} {x5 : Int32} {x6 : Int32} {x7 : Int32} {x8 : Int32} {x9 : Int32} {s0 : Bool} {o3 : Option Value} {o10 : Option Value} : Im (d_229_112 a0 x1 x2 x4 x5 x6 x7 x8 x9 s0 m) (kL (kL (wI L nx) (E_229_44 L nx b z a0 x1 x2 x4)) (E_229_63 L nx b z a0 x1 x2 x4 x6 x7)) (ev_dn b z 229 112 [some (.ref a0), some (.int x1), some (.int x2), o3, some (.int x4), some (.int x5), some (.int x6), some (.int x7), some (.int x8), some (.int x9), o10] [.int (bi s0)] (nx, mem L nx m)) := by
  unfold d_229_112
  refine i_bl (pc' := 118) [(.istore 10, 2), (.iload 8, 2), (.iload 7, 2)] [some (.ref a0), some (.int x1), some (.int x2), o3, some (.int x4), some (.int x5), some (.int x6), some (.int x7), some (.int x8), some (.int x9), some (.int (bi s0))] [.int x7, .int x8] (by decide +kernel) rfl ?_
  refine i_ic (c := .eq) (off := 91) (t := 209) (pc' := 121) (p := x8 = x7) (by decide +kernel) rfl ?_ ?_
  · refine i_bl (pc' := 212) [(.iinc 8 (1), 3)] [some (.ref a0), some (.int x1), some (.int x2), o3, some (.int x4), some (.int x5), some (.int x6), some (.int x7), some (.int (x8 + 1)), some (.int x9), some (.int (bi s0))] [] (by decide +kernel) rfl ?_
    refine i_wb (fun y7 => ev_dn b z 229 212 [some (.ref a0), some (.int x1), some (.int x2), o3, some (.int x4), some (.int x5), some (.int x6), some (.int x7), some (.int y7), some (.int x9), some (.int (bi s0))] [] (nx, mem L nx m)) (fun y7 => ?_)
    refine i_go (t := 63) (off := -149) (by decide +kernel) ?_
    exact i_co (o3, some (.int x9), some (.int (bi s0))) rfl
  · refine i_bl (pc' := 122) [(.aload_n 0, 1)] [some (.ref a0), some (.int x1), some (.int x2), o3, some (.int x4), some (.int x5), some (.int x6), some (.int x7), some (.int x8), some (.int x9), some (.int (bi s0))] [.ref a0] (by decide +kernel) rfl ?_
    refine i_gr (idx := 40) (ci := 11) (k := 13) (t := 2) (p := 17006) (pc' := 125) (by decide +kernel) h0 ?_
    refine i_bl (pc' := 127) [(.iload 8, 2)] [some (.ref a0), some (.int x1), some (.int x2), o3, some (.int x4), some (.int x5), some (.int x6), some (.int x7), some (.int x8), some (.int x9), some (.int (bi s0))] [.int x8, .ref (sh_r a0 13)] (by decide +kernel) rfl ?_
    refine i_al (pc' := 128) (by decide +kernel) (o_11_13 hN h0) ?_
    refine i_bl (pc' := 129) [(.iconst (-1), 1)] [some (.ref a0), some (.int x1), some (.int x2), o3, some (.int x4), some (.int x5), some (.int x6), some (.int x7), some (.int x8), some (.int x9), some (.int (bi s0))] [.int (-1), .int (m (sh_r a0 13) (ix x8))] (by decide +kernel) rfl ?_
    refine i_ic (c := .ne) (off := 80) (t := 209) (pc' := 132) (p := ¬ (m (sh_r a0 13) (ix x8)) = (-1)) (by decide +kernel) rfl ?_ ?_
    · refine i_bl (pc' := 212) [(.iinc 8 (1), 3)] [some (.ref a0), some (.int x1), some (.int x2), o3, some (.int x4), some (.int x5), some (.int x6), some (.int x7), some (.int (x8 + 1)), some (.int x9), some (.int (bi s0))] [] (by decide +kernel) rfl ?_
      refine i_wb (fun y8 => ev_dn b z 229 212 [some (.ref a0), some (.int x1), some (.int x2), o3, some (.int x4), some (.int x5), some (.int x6), some (.int x7), some (.int y8), some (.int x9), some (.int (bi s0))] [] (nx, mem L nx m)) (fun y8 => ?_)
      refine i_go (t := 63) (off := -149) (by decide +kernel) ?_
      exact i_co (o3, some (.int x9), some (.int (bi s0))) rfl
    · refine i_bl (pc' := 134) [(.iload 10, 2)] [some (.ref a0), some (.int x1), some (.int x2), o3, some (.int x4), some (.int x5), some (.int x6), some (.int x7), some (.int x8), some (.int x9), some (.int (bi s0))] [.int (bi s0)] (by decide +kernel) rfl ?_
      refine i_bz (off := 75) (t := 209) (pc' := 137) (by decide +kernel) ?_ ?_
      · refine i_bl (pc' := 146) [(.aload_n 0, 1), (.iload_n 1, 1), (.iload_n 2, 1), (.iload 7, 2), (.iload 8, 2), (.iload 9, 2)] [some (.ref a0), some (.int x1), some (.int x2), o3, some (.int x4), some (.int x5), some (.int x6), some (.int x7), some (.int x8), some (.int x9), some (.int (bi s0))] [.int x9, .int x8, .int x7, .int x2, .int x1, .ref a0] (by decide +kernel) rfl ?_
        refine i_if (c := .eq) (off := 7) (t := 153) (pc' := 149) (p := x9 = 0) (by decide +kernel) rfl ?_ ?_
        · refine i_bl (pc' := 154) [(.iconst 0, 1)] [some (.ref a0), some (.int x1), some (.int x2), o3, some (.int x4), some (.int x5), some (.int x6), some (.int x7), some (.int x8), some (.int x9), some (.int (bi s0))] [.int 0, .int x8, .int x7, .int x2, .int x1, .ref a0] (by decide +kernel) rfl ?_
          exact t_229_154 hN (h0 := h0) (hs0 := h0)
        · refine i_bl (pc' := 150) [(.iconst 1, 1)] [some (.ref a0), some (.int x1), some (.int x2), o3, some (.int x4), some (.int x5), some (.int x6), some (.int x7), some (.int x8), some (.int x9), some (.int (bi s0))] [.int 1, .int x8, .int x7, .int x2, .int x1, .ref a0] (by decide +kernel) rfl ?_
          refine i_go (t := 154) (off := 4) (by decide +kernel) ?_
          exact t_229_154 hN (h0 := h0) (hs0 := h0)
      · refine i_bl (pc' := 212) [(.iinc 8 (1), 3)] [some (.ref a0), some (.int x1), some (.int x2), o3, some (.int x4), some (.int x5), some (.int x6), some (.int x7), some (.int (x8 + 1)), some (.int x9), some (.int (bi s0))] [] (by decide +kernel) rfl ?_
        refine i_wb (fun y9 => ev_dn b z 229 212 [some (.ref a0), some (.int x1), some (.int x2), o3, some (.int x4), some (.int x5), some (.int x6), some (.int x7), some (.int y9), some (.int x9), some (.int (bi s0))] [] (nx, mem L nx m)) (fun y9 => ?_)
        refine i_go (t := 63) (off := -149) (by decide +kernel) ?_
        exact i_co (o3, some (.int x9), some (.int (bi s0))) rfl

noncomputable def s_229_63 (a0 : Nat) (x1 : Int32) (x2 : Int32) (x4 : Int32) (x6 : Int32) (x7 : Int32) (x5 : Int32) (x8 : Int32) (m : Mm) : Option ((Int32 × Int32 × Mm) ⊕ ((Int32 × Int32 × Mm) ⊕ (Int32 × Mm))) := (d_193 a0 m).bind fun v4 => if v4 ≤ x8 then (wb (x6 + 1) fun y5 => some (.inr (.inl (x5, y5, m)))) else (if ev_in (x1 + x8) (sh_n (sh_r a0 1)) = true then (wb (m (sh_r a0 1) (ix (x1 + x8))) fun y6 => if y6 = 0 then (d_229_112 a0 x1 x2 x4 x5 x6 x7 x8 y6 true m) else (if ¬ x8 = x4 then (d_229_112 a0 x1 x2 x4 x5 x6 x7 x8 y6 false m) else ((d_196 y6).bind fun v16 => (d_196 x2).bind fun v17 => if v16 = v17 then (d_229_112 a0 x1 x2 x4 x5 x6 x7 x8 y6 false m) else (d_229_112 a0 x1 x2 x4 x5 x6 x7 x8 y6 true m)))) else none)
noncomputable def d_229_63 (a0 : Nat) (x1 : Int32) (x2 : Int32) (x4 : Int32) (x6 : Int32) (x7 : Int32) (x5 : Int32) (x8 : Int32) (m : Mm) : Option ((Int32 × Int32 × Mm) ⊕ (Int32 × Mm)) := it (fun s => s_229_63 a0 x1 x2 x4 x6 x7 s.1 s.2.1 s.2.2) (x5, x8, m)
theorem e_229_63 (a0 : Nat) (x1 : Int32) (x2 : Int32) (x4 : Int32) (x6 : Int32) (x7 : Int32) (x5 : Int32) (x8 : Int32) (m : Mm) : d_229_63 a0 x1 x2 x4 x6 x7 x5 x8 m = oi (s_229_63 a0 x1 x2 x4 x6 x7 x5 x8 m) (fun s => d_229_63 a0 x1 x2 x4 x6 x7 s.1 s.2.1 s.2.2) := it_eq _
theorem u_229_63 {L nx : Nat} (hN : okn nx) {b z : Nat} {m : Mm} {a0 : Nat} (h0 : ok nx a0 11) {x1 : Int32} {x2 : Int32} {x4 : Int32} {x5 : Int32} {x6 : Int32} {x7 : Int32} {x8 : Int32} {o3 : Option Value} {o9 : Option Value} {o10 : Option Value} : Im (s_229_63 a0 x1 x2 x4 x6 x7 x5 x8 m) (kL (kL (wI L nx) (E_229_44 L nx b z a0 x1 x2 x4)) (E_229_63 L nx b z a0 x1 x2 x4 x6 x7)) (ev_dn b z 229 63 [some (.ref a0), some (.int x1), some (.int x2), o3, some (.int x4), some (.int x5), some (.int x6), some (.int x7), some (.int x8), o9, o10] [] (nx, mem L nx m)) := by
  unfold s_229_63
  refine i_bl (pc' := 66) [(.iload 8, 2), (.aload_n 0, 1)] [some (.ref a0), some (.int x1), some (.int x2), o3, some (.int x4), some (.int x5), some (.int x6), some (.int x7), some (.int x8), o9, o10] [.ref a0, .int x8] (by decide +kernel) rfl ?_
  refine i_cv (ci := 11) (t := 193) (na := 1) (ml := 1) (idx := 125) (pc' := 69) (st' := [.int x8]) (en := [some (.ref a0)]) (av := []) (vo := fun v => some (.int v)) (mo := fun _ => m) (s2 := fun v => .int v :: [.int x8]) (by decide +kernel) (by decide +kernel) h0 ⟨rfl, rfl, rfl, rfl, rfl, rfl⟩ (fun _ => rfl) (t_193 hN (h0 := h0)) (fun v4 => ?_)
  refine i_ic (c := .ge) (off := 146) (t := 215) (pc' := 72) (p := v4 ≤ x8) (by decide +kernel) rfl ?_ ?_
  · refine i_bl (pc' := 218) [(.iinc 6 (1), 3)] [some (.ref a0), some (.int x1), some (.int x2), o3, some (.int x4), some (.int x5), some (.int (x6 + 1)), some (.int x7), some (.int x8), o9, o10] [] (by decide +kernel) rfl ?_
    refine i_wb (fun y5 => ev_dn b z 229 218 [some (.ref a0), some (.int x1), some (.int x2), o3, some (.int x4), some (.int x5), some (.int y5), some (.int x7), some (.int x8), o9, o10] [] (nx, mem L nx m)) (fun y5 => ?_)
    refine i_go (t := 44) (off := -174) (by decide +kernel) ?_
    exact i_ir (i_co (o3, some (.int x7), some (.int x8), o9, o10) rfl)
  · refine i_bl (pc' := 73) [(.aload_n 0, 1)] [some (.ref a0), some (.int x1), some (.int x2), o3, some (.int x4), some (.int x5), some (.int x6), some (.int x7), some (.int x8), o9, o10] [.ref a0] (by decide +kernel) rfl ?_
    refine i_gr (idx := 7) (ci := 11) (k := 1) (t := 2) (p := 16234) (pc' := 76) (by decide +kernel) h0 ?_
    refine i_bl (pc' := 80) [(.iload_n 1, 1), (.iload 8, 2), (.iadd, 1)] [some (.ref a0), some (.int x1), some (.int x2), o3, some (.int x4), some (.int x5), some (.int x6), some (.int x7), some (.int x8), o9, o10] [.int (x1 + x8), .ref (sh_r a0 1)] (by decide +kernel) rfl ?_
    refine i_al (pc' := 81) (by decide +kernel) (o_11_1 hN h0) ?_
    refine i_bl (pc' := 83) [(.istore 9, 2)] [some (.ref a0), some (.int x1), some (.int x2), o3, some (.int x4), some (.int x5), some (.int x6), some (.int x7), some (.int x8), some (.int (m (sh_r a0 1) (ix (x1 + x8)))), o10] [] (by decide +kernel) rfl ?_
    refine i_wb (fun y6 => ev_dn b z 229 83 [some (.ref a0), some (.int x1), some (.int x2), o3, some (.int x4), some (.int x5), some (.int x6), some (.int x7), some (.int x8), some (.int y6), o10] [] (nx, mem L nx m)) (fun y6 => ?_)
    refine i_bl (pc' := 85) [(.iload 9, 2)] [some (.ref a0), some (.int x1), some (.int x2), o3, some (.int x4), some (.int x5), some (.int x6), some (.int x7), some (.int x8), some (.int y6), o10] [.int y6] (by decide +kernel) rfl ?_
    refine i_if (c := .eq) (off := 22) (t := 107) (pc' := 88) (p := y6 = 0) (by decide +kernel) rfl ?_ ?_
    · refine i_bl (pc' := 108) [(.iconst 1, 1)] [some (.ref a0), some (.int x1), some (.int x2), o3, some (.int x4), some (.int x5), some (.int x6), some (.int x7), some (.int x8), some (.int y6), o10] [.int 1] (by decide +kernel) rfl ?_
      refine i_go (t := 112) (off := 4) (by decide +kernel) ?_
      exact t_229_112 hN (h0 := h0)
    · refine i_bl (pc' := 92) [(.iload 8, 2), (.iload 4, 2)] [some (.ref a0), some (.int x1), some (.int x2), o3, some (.int x4), some (.int x5), some (.int x6), some (.int x7), some (.int x8), some (.int y6), o10] [.int x4, .int x8] (by decide +kernel) rfl ?_
      refine i_ic (c := .ne) (off := 19) (t := 111) (pc' := 95) (p := ¬ x8 = x4) (by decide +kernel) rfl ?_ ?_
      · refine i_bl (pc' := 112) [(.iconst 0, 1)] [some (.ref a0), some (.int x1), some (.int x2), o3, some (.int x4), some (.int x5), some (.int x6), some (.int x7), some (.int x8), some (.int y6), o10] [.int 0] (by decide +kernel) rfl ?_
        exact t_229_112 hN (h0 := h0)
      · refine i_bl (pc' := 97) [(.iload 9, 2)] [some (.ref a0), some (.int x1), some (.int x2), o3, some (.int x4), some (.int x5), some (.int x6), some (.int x7), some (.int x8), some (.int y6), o10] [.int y6] (by decide +kernel) rfl ?_
        refine i_cs (t := 196) (na := 1) (ml := 1) (idx := 111) (pc' := 100) (st' := []) (en := [some (.int y6)]) (av := [.int y6]) (vo := fun v => some (.int v)) (mo := fun _ => m) (s2 := fun v => .int v :: []) (by decide +kernel) ⟨rfl, rfl, rfl, rfl, rfl, rfl⟩ (fun _ => rfl) (t_196 hN ) (fun v16 => ?_)
        refine i_bl (pc' := 101) [(.iload_n 2, 1)] [some (.ref a0), some (.int x1), some (.int x2), o3, some (.int x4), some (.int x5), some (.int x6), some (.int x7), some (.int x8), some (.int y6), o10] [.int x2, .int v16] (by decide +kernel) rfl ?_
        refine i_cs (t := 196) (na := 1) (ml := 1) (idx := 111) (pc' := 104) (st' := [.int v16]) (en := [some (.int x2)]) (av := [.int x2]) (vo := fun v => some (.int v)) (mo := fun _ => m) (s2 := fun v => .int v :: [.int v16]) (by decide +kernel) ⟨rfl, rfl, rfl, rfl, rfl, rfl⟩ (fun _ => rfl) (t_196 hN ) (fun v17 => ?_)
        refine i_ic (c := .eq) (off := 7) (t := 111) (pc' := 107) (p := v16 = v17) (by decide +kernel) rfl ?_ ?_
        · refine i_bl (pc' := 112) [(.iconst 0, 1)] [some (.ref a0), some (.int x1), some (.int x2), o3, some (.int x4), some (.int x5), some (.int x6), some (.int x7), some (.int x8), some (.int y6), o10] [.int 0] (by decide +kernel) rfl ?_
          exact t_229_112 hN (h0 := h0)
        · refine i_bl (pc' := 108) [(.iconst 1, 1)] [some (.ref a0), some (.int x1), some (.int x2), o3, some (.int x4), some (.int x5), some (.int x6), some (.int x7), some (.int x8), some (.int y6), o10] [.int 1] (by decide +kernel) rfl ?_
          refine i_go (t := 112) (off := 4) (by decide +kernel) ?_
          exact t_229_112 hN (h0 := h0)

theorem t_229_63 {L nx : Nat} (hN : okn nx) {b z : Nat} {m : Mm} {a0 : Nat} (h0 : ok nx a0 11) {x1 : Int32} {x2 : Int32} {x4 : Int32} {x5 : Int32} {x6 : Int32} {x7 : Int32} {x8 : Int32} {o3 : Option Value} {o9 : Option Value} {o10 : Option Value} : Im (d_229_63 a0 x1 x2 x4 x6 x7 x5 x8 m) (kL (wI L nx) (E_229_44 L nx b z a0 x1 x2 x4)) (ev_dn b z 229 63 [some (.ref a0), some (.int x1), some (.int x2), o3, some (.int x4), some (.int x5), some (.int x6), some (.int x7), some (.int x8), o9, o10] [] (nx, mem L nx m)) := by
  exact i_it (f := fun s => s_229_63 a0 x1 x2 x4 x6 x7 s.1 s.2.1 s.2.2) (E := E_229_63 L nx b z a0 x1 x2 x4 x6 x7) (K := (kL (wI L nx) (E_229_44 L nx b z a0 x1 x2 x4))) (fun d s => u_229_63 hN (h0 := h0)) (o3, o9, o10) (x5, x8, m)
noncomputable def s_229_44 (a0 : Nat) (x1 : Int32) (x2 : Int32) (x4 : Int32) (x5 : Int32) (x6 : Int32) (m : Mm) : Option ((Int32 × Int32 × Mm) ⊕ (Int32 × Mm)) := if x5 ≤ x6 then ((d_229_221 a0 x4 m).map Sum.inr) else (if ev_in x6 (sh_n (sh_r a0 14)) = true then (wb (m (sh_r a0 14) (ix x6)) fun y3 => d_229_63 a0 x1 x2 x4 x6 y3 x5 0 m) else none)
noncomputable def d_229_44 (a0 : Nat) (x1 : Int32) (x2 : Int32) (x4 : Int32) (x5 : Int32) (x6 : Int32) (m : Mm) : Option (Int32 × Mm) := it (fun s => s_229_44 a0 x1 x2 x4 s.1 s.2.1 s.2.2) (x5, x6, m)
theorem e_229_44 (a0 : Nat) (x1 : Int32) (x2 : Int32) (x4 : Int32) (x5 : Int32) (x6 : Int32) (m : Mm) : d_229_44 a0 x1 x2 x4 x5 x6 m = oi (s_229_44 a0 x1 x2 x4 x5 x6 m) (fun s => d_229_44 a0 x1 x2 x4 s.1 s.2.1 s.2.2) := it_eq _
theorem u_229_44 {L nx : Nat} (hN : okn nx) {b z : Nat} {m : Mm} {a0 : Nat} (h0 : ok nx a0 11) {x1 : Int32} {x2 : Int32} {x4 : Int32} {x5 : Int32} {x6 : Int32} {o3 : Option Value} {o7 : Option Value} {o8 : Option Value} {o9 : Option Value} {o10 : Option Value} : Im (s_229_44 a0 x1 x2 x4 x5 x6 m) (kL (wI L nx) (E_229_44 L nx b z a0 x1 x2 x4)) (ev_dn b z 229 44 [some (.ref a0), some (.int x1), some (.int x2), o3, some (.int x4), some (.int x5), some (.int x6), o7, o8, o9, o10] [] (nx, mem L nx m)) := by
  unfold s_229_44
  refine i_bl (pc' := 48) [(.iload 6, 2), (.iload 5, 2)] [some (.ref a0), some (.int x1), some (.int x2), o3, some (.int x4), some (.int x5), some (.int x6), o7, o8, o9, o10] [.int x5, .int x6] (by decide +kernel) rfl ?_
  refine i_ic (c := .ge) (off := 173) (t := 221) (pc' := 51) (p := x5 ≤ x6) (by decide +kernel) rfl ?_ ?_
  · exact i_mr (t_229_221 hN (h0 := h0))
  · refine i_bl (pc' := 52) [(.aload_n 0, 1)] [some (.ref a0), some (.int x1), some (.int x2), o3, some (.int x4), some (.int x5), some (.int x6), o7, o8, o9, o10] [.ref a0] (by decide +kernel) rfl ?_
    refine i_gr (idx := 43) (ci := 11) (k := 14) (t := 2) (p := 17007) (pc' := 55) (by decide +kernel) h0 ?_
    refine i_bl (pc' := 57) [(.iload 6, 2)] [some (.ref a0), some (.int x1), some (.int x2), o3, some (.int x4), some (.int x5), some (.int x6), o7, o8, o9, o10] [.int x6, .ref (sh_r a0 14)] (by decide +kernel) rfl ?_
    refine i_al (pc' := 58) (by decide +kernel) (o_11_14 hN h0) ?_
    refine i_bl (pc' := 60) [(.istore 7, 2)] [some (.ref a0), some (.int x1), some (.int x2), o3, some (.int x4), some (.int x5), some (.int x6), some (.int (m (sh_r a0 14) (ix x6))), o8, o9, o10] [] (by decide +kernel) rfl ?_
    refine i_wb (fun y3 => ev_dn b z 229 60 [some (.ref a0), some (.int x1), some (.int x2), o3, some (.int x4), some (.int x5), some (.int x6), some (.int y3), o8, o9, o10] [] (nx, mem L nx m)) (fun y3 => ?_)
    refine i_bl (pc' := 63) [(.iconst 0, 1), (.istore 8, 2)] [some (.ref a0), some (.int x1), some (.int x2), o3, some (.int x4), some (.int x5), some (.int x6), some (.int y3), some (.int 0), o9, o10] [] (by decide +kernel) rfl ?_
    exact t_229_63 hN (h0 := h0)

theorem t_229_44 {L nx : Nat} (hN : okn nx) {b z : Nat} {m : Mm} {a0 : Nat} (h0 : ok nx a0 11) {x1 : Int32} {x2 : Int32} {x4 : Int32} {x5 : Int32} {x6 : Int32} {o3 : Option Value} {o7 : Option Value} {o8 : Option Value} {o9 : Option Value} {o10 : Option Value} : Im (d_229_44 a0 x1 x2 x4 x5 x6 m) (wI L nx) (ev_dn b z 229 44 [some (.ref a0), some (.int x1), some (.int x2), o3, some (.int x4), some (.int x5), some (.int x6), o7, o8, o9, o10] [] (nx, mem L nx m)) := by
  exact i_it (f := fun s => s_229_44 a0 x1 x2 x4 s.1 s.2.1 s.2.2) (E := E_229_44 L nx b z a0 x1 x2 x4) (K := (wI L nx)) (fun d s => u_229_44 hN (h0 := h0)) (o3, o7, o8, o9, o10) (x5, x6, m)
noncomputable def d_229_24 (a0 : Nat) (x1 : Int32) (x2 : Int32) (x3 : Int32) (x4 : Int32) (m : Mm) : Option (Int32 × Mm) := if ev_in x3 (sh_n (sh_r a0 13)) = true then (wb (wr m (sh_r a0 13) (ix x3) (0 : Int32)) fun m1 => if ev_in 0 (sh_n (sh_r a0 14)) = true then (wb (wr m1 (sh_r a0 14) (ix 0) x3) fun m2 => d_229_44 a0 x1 x2 x4 1 0 m2) else none) else none
theorem t_229_24 {L nx : Nat} (hN : okn nx) {b z : Nat} {m : Mm} {a0 : Nat} (h0 : ok nx a0 11) {x1 : Int32} {x2 : Int32} {x3 : Int32} {x4 : Int32} {o5 : Option Value} : Im (d_229_24 a0 x1 x2 x3 x4 m) (wI L nx) (ev_dn b z 229 24 [some (.ref a0), some (.int x1), some (.int x2), some (.int x3), some (.int x4), o5, none, none, none, none, none] [] (nx, mem L nx m)) := by
  unfold d_229_24
  refine i_bl (pc' := 25) [(.aload_n 0, 1)] [some (.ref a0), some (.int x1), some (.int x2), some (.int x3), some (.int x4), o5, none, none, none, none, none] [.ref a0] (by decide +kernel) rfl ?_
  refine i_gr (idx := 40) (ci := 11) (k := 13) (t := 2) (p := 17006) (pc' := 28) (by decide +kernel) h0 ?_
  refine i_bl (pc' := 30) [(.iload_n 3, 1), (.iconst 0, 1)] [some (.ref a0), some (.int x1), some (.int x2), some (.int x3), some (.int x4), o5, none, none, none, none, none] [.int 0, .int x3, .ref (sh_r a0 13)] (by decide +kernel) rfl ?_
  refine i_as (y := (0 : Int32)) (pc' := 31) (by decide +kernel) (o_11_13 hN h0) (fun m1 => ?_)
  refine i_bl (pc' := 32) [(.aload_n 0, 1)] [some (.ref a0), some (.int x1), some (.int x2), some (.int x3), some (.int x4), o5, none, none, none, none, none] [.ref a0] (by decide +kernel) rfl ?_
  refine i_gr (idx := 43) (ci := 11) (k := 14) (t := 2) (p := 17007) (pc' := 35) (by decide +kernel) h0 ?_
  refine i_bl (pc' := 37) [(.iconst 0, 1), (.iload_n 3, 1)] [some (.ref a0), some (.int x1), some (.int x2), some (.int x3), some (.int x4), o5, none, none, none, none, none] [.int x3, .int 0, .ref (sh_r a0 14)] (by decide +kernel) rfl ?_
  refine i_as (y := x3) (pc' := 38) (by decide +kernel) (o_11_14 hN h0) (fun m2 => ?_)
  refine i_bl (pc' := 44) [(.iconst 1, 1), (.istore 5, 2), (.iconst 0, 1), (.istore 6, 2)] [some (.ref a0), some (.int x1), some (.int x2), some (.int x3), some (.int x4), some (.int 1), some (.int 0), none, none, none, none] [] (by decide +kernel) rfl ?_
  exact t_229_44 hN (h0 := h0)

noncomputable def s_229_3 (a0 : Nat) (x1 : Int32) (x2 : Int32) (x3 : Int32) (x4 : Int32) (x5 : Int32) (m : Mm) : Option ((Int32 × Mm) ⊕ (Int32 × Mm)) := if 64 ≤ x5 then ((d_229_24 a0 x1 x2 x3 x4 m).map Sum.inr) else (if ev_in x5 (sh_n (sh_r a0 13)) = true then (wb (wr m (sh_r a0 13) (ix x5) ((-1) : Int32)) fun m18 => wb (x5 + 1) fun y19 => some (.inl (y19, m18))) else none)
noncomputable def d_229_3 (a0 : Nat) (x1 : Int32) (x2 : Int32) (x3 : Int32) (x4 : Int32) (x5 : Int32) (m : Mm) : Option (Int32 × Mm) := it (fun s => s_229_3 a0 x1 x2 x3 x4 s.1 s.2) (x5, m)
theorem e_229_3 (a0 : Nat) (x1 : Int32) (x2 : Int32) (x3 : Int32) (x4 : Int32) (x5 : Int32) (m : Mm) : d_229_3 a0 x1 x2 x3 x4 x5 m = oi (s_229_3 a0 x1 x2 x3 x4 x5 m) (fun s => d_229_3 a0 x1 x2 x3 x4 s.1 s.2) := it_eq _
theorem u_229_3 {L nx : Nat} (hN : okn nx) {b z : Nat} {m : Mm} {a0 : Nat} (h0 : ok nx a0 11) {x1 : Int32} {x2 : Int32} {x3 : Int32} {x4 : Int32} {x5 : Int32}  : Im (s_229_3 a0 x1 x2 x3 x4 x5 m) (kL (wI L nx) (E_229_3 L nx b z a0 x1 x2 x3 x4)) (ev_dn b z 229 3 [some (.ref a0), some (.int x1), some (.int x2), some (.int x3), some (.int x4), some (.int x5), none, none, none, none, none] [] (nx, mem L nx m)) := by
  unfold s_229_3
  refine i_bl (pc' := 7) [(.iload 5, 2), (.bipush (64), 2)] [some (.ref a0), some (.int x1), some (.int x2), some (.int x3), some (.int x4), some (.int x5), none, none, none, none, none] [.int 64, .int x5] (by decide +kernel) rfl ?_
  refine i_ic (c := .ge) (off := 17) (t := 24) (pc' := 10) (p := 64 ≤ x5) (by decide +kernel) rfl ?_ ?_
  · exact i_mr (t_229_24 hN (h0 := h0))
  · refine i_bl (pc' := 11) [(.aload_n 0, 1)] [some (.ref a0), some (.int x1), some (.int x2), some (.int x3), some (.int x4), some (.int x5), none, none, none, none, none] [.ref a0] (by decide +kernel) rfl ?_
    refine i_gr (idx := 40) (ci := 11) (k := 13) (t := 2) (p := 17006) (pc' := 14) (by decide +kernel) h0 ?_
    refine i_bl (pc' := 17) [(.iload 5, 2), (.iconst (-1), 1)] [some (.ref a0), some (.int x1), some (.int x2), some (.int x3), some (.int x4), some (.int x5), none, none, none, none, none] [.int (-1), .int x5, .ref (sh_r a0 13)] (by decide +kernel) rfl ?_
    refine i_as (y := ((-1) : Int32)) (pc' := 18) (by decide +kernel) (o_11_13 hN h0) (fun m18 => ?_)
    refine i_bl (pc' := 21) [(.iinc 5 (1), 3)] [some (.ref a0), some (.int x1), some (.int x2), some (.int x3), some (.int x4), some (.int (x5 + 1)), none, none, none, none, none] [] (by decide +kernel) rfl ?_
    refine i_wb (fun y19 => ev_dn b z 229 21 [some (.ref a0), some (.int x1), some (.int x2), some (.int x3), some (.int x4), some (.int y19), none, none, none, none, none] [] (nx, mem L nx m18)) (fun y19 => ?_)
    refine i_go (t := 3) (off := -18) (by decide +kernel) ?_
    exact i_co () rfl

theorem t_229_3 {L nx : Nat} (hN : okn nx) {b z : Nat} {m : Mm} {a0 : Nat} (h0 : ok nx a0 11) {x1 : Int32} {x2 : Int32} {x3 : Int32} {x4 : Int32} {x5 : Int32}  : Im (d_229_3 a0 x1 x2 x3 x4 x5 m) (wI L nx) (ev_dn b z 229 3 [some (.ref a0), some (.int x1), some (.int x2), some (.int x3), some (.int x4), some (.int x5), none, none, none, none, none] [] (nx, mem L nx m)) := by
  exact i_it (f := fun s => s_229_3 a0 x1 x2 x3 x4 s.1 s.2) (E := E_229_3 L nx b z a0 x1 x2 x3 x4) (K := (wI L nx)) (fun d s => u_229_3 hN (h0 := h0)) () (x5, m)
noncomputable def d_229 (a0 : Nat) (x1 : Int32) (x2 : Int32) (x3 : Int32) (x4 : Int32) (m : Mm) : Option (Int32 × Mm) := d_229_3 a0 x1 x2 x3 x4 0 m
theorem t_229 {L nx : Nat} (hN : okn nx) {b z : Nat} {m : Mm} {a0 : Nat} (h0 : ok nx a0 11) {x1 : Int32} {x2 : Int32} {x3 : Int32} {x4 : Int32}  : Im (d_229 a0 x1 x2 x3 x4 m) (wI L nx) (ev_dn b z 229 0 [some (.ref a0), some (.int x1), some (.int x2), some (.int x3), some (.int x4), none, none, none, none, none, none] [] (nx, mem L nx m)) := by
  unfold d_229
  refine i_bl (pc' := 3) [(.iconst 0, 1), (.istore 5, 2)] [some (.ref a0), some (.int x1), some (.int x2), some (.int x3), some (.int x4), some (.int 0), none, none, none, none, none] [] (by decide +kernel) rfl ?_
  exact t_229_3 hN (h0 := h0)

/-! 230 LanternChessModel.fewestMoves(IIIII)I -/
noncomputable def d_230_37 (a0 : Nat) (x1 : Int32) (x2 : Int32) (x3 : Int32) (x4 : Int32) (x5 : Int32) (s0 : Nat) (s1 : Bool) (m : Mm) : Option (Int32 × Mm) := (d_184 s0 s1 2 m).bind fun r4 => if r4.1 = true then ((d_194 x1).bind fun v5 => (d_214 a0 x2 x3 r4.2).bind fun v6 => if ev_in (v5 + v6) (sh_n (sh_r a0 1)) = true then (wb (r4.2 (sh_r a0 1) (ix (v5 + v6))) fun y7 => if ¬ y7 = 0 then (if ev_in (v5 + v6) (sh_n (sh_r a0 1)) = true then (wb (wr r4.2 (sh_r a0 1) (ix (v5 + v6)) (0 : Int32)) fun m8 => (d_214 a0 x4 x5 m8).bind fun v9 => (d_229 a0 v5 y7 v6 v9 m8).bind fun r10 => if ev_in (v5 + v6) (sh_n (sh_r a0 1)) = true then (wb (wr r10.2 (sh_r a0 1) (ix (v5 + v6)) y7) fun m11 => some (r10.1, m11)) else none) else none) else (some ((-1), r4.2))) else none) else (some (0, r4.2))
theorem t_230_37 {L nx : Nat} (hN : okn nx) {b z : Nat} {m : Mm} {a0 : Nat} (h0 : ok nx a0 11) {s0 : Nat} (hs0 : ok nx s0 11) {x1 : Int32} {x2 : Int32} {x3 : Int32} {x4 : Int32} {x5 : Int32} {s1 : Bool}  : Im (d_230_37 a0 x1 x2 x3 x4 x5 s0 s1 m) (wI L nx) (ev_dn b z 230 37 [some (.ref a0), some (.int x1), some (.int x2), some (.int x3), some (.int x4), some (.int x5), none, none, none, none] [.int (bi s1), .ref s0] (nx, mem L nx m)) := by
  unfold d_230_37
  refine i_bl (pc' := 38) [(.iconst 2, 1)] [some (.ref a0), some (.int x1), some (.int x2), some (.int x3), some (.int x4), some (.int x5), none, none, none, none] [.int 2, .int (bi s1), .ref s0] (by decide +kernel) rfl ?_
  refine i_cv (ci := 11) (t := 184) (na := 3) (ml := 3) (idx := 161) (pc' := 41) (st' := []) (en := [some (.ref s0), some (.int (bi s1)), some (.int 2)]) (av := [.int (bi s1), .int 2]) (vo := fun v => some (.int (bi v.1))) (mo := fun v => v.2) (s2 := fun v => .int (bi v.1) :: []) (by decide +kernel) (by decide +kernel) hs0 ⟨rfl, rfl, rfl, rfl, rfl, rfl⟩ (fun _ => rfl) (t_184 hN (h0 := hs0)) (fun r4 => ?_)
  refine i_bn (off := 5) (t := 46) (pc' := 44) (by decide +kernel) ?_ ?_
  · refine i_bl (pc' := 47) [(.iload_n 1, 1)] [some (.ref a0), some (.int x1), some (.int x2), some (.int x3), some (.int x4), some (.int x5), none, none, none, none] [.int x1] (by decide +kernel) rfl ?_
    refine i_cs (t := 194) (na := 1) (ml := 1) (idx := 165) (pc' := 50) (st' := []) (en := [some (.int x1)]) (av := [.int x1]) (vo := fun v => some (.int v)) (mo := fun _ => r4.2) (s2 := fun v => .int v :: []) (by decide +kernel) ⟨rfl, rfl, rfl, rfl, rfl, rfl⟩ (fun _ => rfl) (t_194 hN ) (fun v5 => ?_)
    refine i_bl (pc' := 55) [(.istore 6, 2), (.aload_n 0, 1), (.iload_n 2, 1), (.iload_n 3, 1)] [some (.ref a0), some (.int x1), some (.int x2), some (.int x3), some (.int x4), some (.int x5), some (.int v5), none, none, none] [.int x3, .int x2, .ref a0] (by decide +kernel) rfl ?_
    refine i_cv (ci := 11) (t := 214) (na := 3) (ml := 3) (idx := 168) (pc' := 58) (st' := []) (en := [some (.ref a0), some (.int x2), some (.int x3)]) (av := [.int x2, .int x3]) (vo := fun v => some (.int v)) (mo := fun _ => r4.2) (s2 := fun v => .int v :: []) (by decide +kernel) (by decide +kernel) h0 ⟨rfl, rfl, rfl, rfl, rfl, rfl⟩ (fun _ => rfl) (t_214 hN (h0 := h0)) (fun v6 => ?_)
    refine i_bl (pc' := 61) [(.istore 7, 2), (.aload_n 0, 1)] [some (.ref a0), some (.int x1), some (.int x2), some (.int x3), some (.int x4), some (.int x5), some (.int v5), some (.int v6), none, none] [.ref a0] (by decide +kernel) rfl ?_
    refine i_gr (idx := 7) (ci := 11) (k := 1) (t := 2) (p := 16234) (pc' := 64) (by decide +kernel) h0 ?_
    refine i_bl (pc' := 69) [(.iload 6, 2), (.iload 7, 2), (.iadd, 1)] [some (.ref a0), some (.int x1), some (.int x2), some (.int x3), some (.int x4), some (.int x5), some (.int v5), some (.int v6), none, none] [.int (v5 + v6), .ref (sh_r a0 1)] (by decide +kernel) rfl ?_
    refine i_al (pc' := 70) (by decide +kernel) (o_11_1 hN h0) ?_
    refine i_bl (pc' := 72) [(.istore 8, 2)] [some (.ref a0), some (.int x1), some (.int x2), some (.int x3), some (.int x4), some (.int x5), some (.int v5), some (.int v6), some (.int (r4.2 (sh_r a0 1) (ix (v5 + v6)))), none] [] (by decide +kernel) rfl ?_
    refine i_wb (fun y7 => ev_dn b z 230 72 [some (.ref a0), some (.int x1), some (.int x2), some (.int x3), some (.int x4), some (.int x5), some (.int v5), some (.int v6), some (.int y7), none] [] (nx, mem L nx r4.2)) (fun y7 => ?_)
    refine i_bl (pc' := 74) [(.iload 8, 2)] [some (.ref a0), some (.int x1), some (.int x2), some (.int x3), some (.int x4), some (.int x5), some (.int v5), some (.int v6), some (.int y7), none] [.int y7] (by decide +kernel) rfl ?_
    refine i_if (c := .ne) (off := 5) (t := 79) (pc' := 77) (p := ¬ y7 = 0) (by decide +kernel) rfl ?_ ?_
    · refine i_bl (pc' := 80) [(.aload_n 0, 1)] [some (.ref a0), some (.int x1), some (.int x2), some (.int x3), some (.int x4), some (.int x5), some (.int v5), some (.int v6), some (.int y7), none] [.ref a0] (by decide +kernel) rfl ?_
      refine i_gr (idx := 7) (ci := 11) (k := 1) (t := 2) (p := 16234) (pc' := 83) (by decide +kernel) h0 ?_
      refine i_bl (pc' := 89) [(.iload 6, 2), (.iload 7, 2), (.iadd, 1), (.iconst 0, 1)] [some (.ref a0), some (.int x1), some (.int x2), some (.int x3), some (.int x4), some (.int x5), some (.int v5), some (.int v6), some (.int y7), none] [.int 0, .int (v5 + v6), .ref (sh_r a0 1)] (by decide +kernel) rfl ?_
      refine i_as (y := (0 : Int32)) (pc' := 90) (by decide +kernel) (o_11_1 hN h0) (fun m8 => ?_)
      refine i_bl (pc' := 102) [(.aload_n 0, 1), (.iload 6, 2), (.iload 8, 2), (.iload 7, 2), (.aload_n 0, 1), (.iload 4, 2), (.iload 5, 2)] [some (.ref a0), some (.int x1), some (.int x2), some (.int x3), some (.int x4), some (.int x5), some (.int v5), some (.int v6), some (.int y7), none] [.int x5, .int x4, .ref a0, .int v6, .int y7, .int v5, .ref a0] (by decide +kernel) rfl ?_
      refine i_cv (ci := 11) (t := 214) (na := 3) (ml := 3) (idx := 168) (pc' := 105) (st' := [.int v6, .int y7, .int v5, .ref a0]) (en := [some (.ref a0), some (.int x4), some (.int x5)]) (av := [.int x4, .int x5]) (vo := fun v => some (.int v)) (mo := fun _ => m8) (s2 := fun v => .int v :: [.int v6, .int y7, .int v5, .ref a0]) (by decide +kernel) (by decide +kernel) h0 ⟨rfl, rfl, rfl, rfl, rfl, rfl⟩ (fun _ => rfl) (t_214 hN (h0 := h0)) (fun v9 => ?_)
      refine i_cv (ci := 11) (t := 229) (na := 5) (ml := 11) (idx := 188) (pc' := 108) (st' := []) (en := [some (.ref a0), some (.int v5), some (.int y7), some (.int v6), some (.int v9), none, none, none, none, none, none]) (av := [.int v5, .int y7, .int v6, .int v9]) (vo := fun v => some (.int v.1)) (mo := fun v => v.2) (s2 := fun v => .int v.1 :: []) (by decide +kernel) (by decide +kernel) h0 ⟨rfl, rfl, rfl, rfl, rfl, rfl⟩ (fun _ => rfl) (t_229 hN (h0 := h0)) (fun r10 => ?_)
      refine i_bl (pc' := 111) [(.istore 9, 2), (.aload_n 0, 1)] [some (.ref a0), some (.int x1), some (.int x2), some (.int x3), some (.int x4), some (.int x5), some (.int v5), some (.int v6), some (.int y7), some (.int r10.1)] [.ref a0] (by decide +kernel) rfl ?_
      refine i_gr (idx := 7) (ci := 11) (k := 1) (t := 2) (p := 16234) (pc' := 114) (by decide +kernel) h0 ?_
      refine i_bl (pc' := 121) [(.iload 6, 2), (.iload 7, 2), (.iadd, 1), (.iload 8, 2)] [some (.ref a0), some (.int x1), some (.int x2), some (.int x3), some (.int x4), some (.int x5), some (.int v5), some (.int v6), some (.int y7), some (.int r10.1)] [.int y7, .int (v5 + v6), .ref (sh_r a0 1)] (by decide +kernel) rfl ?_
      refine i_as (y := y7) (pc' := 122) (by decide +kernel) (o_11_1 hN h0) (fun m11 => ?_)
      refine i_bl (pc' := 124) [(.iload 9, 2)] [some (.ref a0), some (.int x1), some (.int x2), some (.int x3), some (.int x4), some (.int x5), some (.int v5), some (.int v6), some (.int y7), some (.int r10.1)] [.int r10.1] (by decide +kernel) rfl ?_
      exact i_ri (by decide +kernel) rfl
    · refine i_bl (pc' := 78) [(.iconst (-1), 1)] [some (.ref a0), some (.int x1), some (.int x2), some (.int x3), some (.int x4), some (.int x5), some (.int v5), some (.int v6), some (.int y7), none] [.int (-1)] (by decide +kernel) rfl ?_
      exact i_ri (by decide +kernel) rfl
  · refine i_bl (pc' := 45) [(.iconst 0, 1)] [some (.ref a0), some (.int x1), some (.int x2), some (.int x3), some (.int x4), some (.int x5), none, none, none, none] [.int 0] (by decide +kernel) rfl ?_
    exact i_ri (by decide +kernel) rfl

noncomputable def d_230 (a0 : Nat) (x1 : Int32) (x2 : Int32) (x3 : Int32) (x4 : Int32) (x5 : Int32) (m : Mm) : Option (Int32 × Mm) := (d_212 x1).bind fun v1 => (d_183 a0 v1 m).bind fun r2 => if r2.1 = true then ((d_213 a0 x2 x3 r2.2).bind fun v3 => if v3 = true then ((d_213 a0 x4 x5 r2.2).bind fun v12 => if v12 = true then (d_230_37 a0 x1 x2 x3 x4 x5 a0 true r2.2) else (d_230_37 a0 x1 x2 x3 x4 x5 a0 false r2.2)) else (d_230_37 a0 x1 x2 x3 x4 x5 a0 false r2.2)) else (some (0, r2.2))
theorem t_230 {L nx : Nat} (hN : okn nx) {b z : Nat} {m : Mm} {a0 : Nat} (h0 : ok nx a0 11) {x1 : Int32} {x2 : Int32} {x3 : Int32} {x4 : Int32} {x5 : Int32}  : Im (d_230 a0 x1 x2 x3 x4 x5 m) (wI L nx) (ev_dn b z 230 0 [some (.ref a0), some (.int x1), some (.int x2), some (.int x3), some (.int x4), some (.int x5), none, none, none, none] [] (nx, mem L nx m)) := by
  unfold d_230
  refine i_bl (pc' := 2) [(.aload_n 0, 1), (.iload_n 1, 1)] [some (.ref a0), some (.int x1), some (.int x2), some (.int x3), some (.int x4), some (.int x5), none, none, none, none] [.int x1, .ref a0] (by decide +kernel) rfl ?_
  refine i_cs (t := 212) (na := 1) (ml := 1) (idx := 154) (pc' := 5) (st' := [.ref a0]) (en := [some (.int x1)]) (av := [.int x1]) (vo := fun v => some (.int (bi v))) (mo := fun _ => m) (s2 := fun v => .int (bi v) :: [.ref a0]) (by decide +kernel) ⟨rfl, rfl, rfl, rfl, rfl, rfl⟩ (fun _ => rfl) (t_212 hN ) (fun v1 => ?_)
  refine i_cv (ci := 11) (t := 183) (na := 2) (ml := 2) (idx := 77) (pc' := 8) (st' := []) (en := [some (.ref a0), some (.int (bi v1))]) (av := [.int (bi v1)]) (vo := fun v => some (.int (bi v.1))) (mo := fun v => v.2) (s2 := fun v => .int (bi v.1) :: []) (by decide +kernel) (by decide +kernel) h0 ⟨rfl, rfl, rfl, rfl, rfl, rfl⟩ (fun _ => rfl) (t_183 hN (h0 := h0)) (fun r2 => ?_)
  refine i_bz (off := 36) (t := 44) (pc' := 11) (by decide +kernel) ?_ ?_
  · refine i_bl (pc' := 15) [(.aload_n 0, 1), (.aload_n 0, 1), (.iload_n 2, 1), (.iload_n 3, 1)] [some (.ref a0), some (.int x1), some (.int x2), some (.int x3), some (.int x4), some (.int x5), none, none, none, none] [.int x3, .int x2, .ref a0, .ref a0] (by decide +kernel) rfl ?_
    refine i_cv (ci := 11) (t := 213) (na := 3) (ml := 3) (idx := 158) (pc' := 18) (st' := [.ref a0]) (en := [some (.ref a0), some (.int x2), some (.int x3)]) (av := [.int x2, .int x3]) (vo := fun v => some (.int (bi v))) (mo := fun _ => r2.2) (s2 := fun v => .int (bi v) :: [.ref a0]) (by decide +kernel) (by decide +kernel) h0 ⟨rfl, rfl, rfl, rfl, rfl, rfl⟩ (fun _ => rfl) (t_213 hN (h0 := h0)) (fun v3 => ?_)
    refine i_bz (off := 18) (t := 36) (pc' := 21) (by decide +kernel) ?_ ?_
    · refine i_bl (pc' := 26) [(.aload_n 0, 1), (.iload 4, 2), (.iload 5, 2)] [some (.ref a0), some (.int x1), some (.int x2), some (.int x3), some (.int x4), some (.int x5), none, none, none, none] [.int x5, .int x4, .ref a0, .ref a0] (by decide +kernel) rfl ?_
      refine i_cv (ci := 11) (t := 213) (na := 3) (ml := 3) (idx := 158) (pc' := 29) (st' := [.ref a0]) (en := [some (.ref a0), some (.int x4), some (.int x5)]) (av := [.int x4, .int x5]) (vo := fun v => some (.int (bi v))) (mo := fun _ => r2.2) (s2 := fun v => .int (bi v) :: [.ref a0]) (by decide +kernel) (by decide +kernel) h0 ⟨rfl, rfl, rfl, rfl, rfl, rfl⟩ (fun _ => rfl) (t_213 hN (h0 := h0)) (fun v12 => ?_)
      refine i_bz (off := 7) (t := 36) (pc' := 32) (by decide +kernel) ?_ ?_
      · refine i_bl (pc' := 33) [(.iconst 1, 1)] [some (.ref a0), some (.int x1), some (.int x2), some (.int x3), some (.int x4), some (.int x5), none, none, none, none] [.int 1, .ref a0] (by decide +kernel) rfl ?_
        refine i_go (t := 37) (off := 4) (by decide +kernel) ?_
        exact t_230_37 hN (h0 := h0) (hs0 := h0)
      · refine i_bl (pc' := 37) [(.iconst 0, 1)] [some (.ref a0), some (.int x1), some (.int x2), some (.int x3), some (.int x4), some (.int x5), none, none, none, none] [.int 0, .ref a0] (by decide +kernel) rfl ?_
        exact t_230_37 hN (h0 := h0) (hs0 := h0)
    · refine i_bl (pc' := 37) [(.iconst 0, 1)] [some (.ref a0), some (.int x1), some (.int x2), some (.int x3), some (.int x4), some (.int x5), none, none, none, none] [.int 0, .ref a0] (by decide +kernel) rfl ?_
      exact t_230_37 hN (h0 := h0) (hs0 := h0)
  · refine i_bl (pc' := 45) [(.iconst 0, 1)] [some (.ref a0), some (.int x1), some (.int x2), some (.int x3), some (.int x4), some (.int x5), none, none, none, none] [.int 0] (by decide +kernel) rfl ?_
    exact i_ri (by decide +kernel) rfl

