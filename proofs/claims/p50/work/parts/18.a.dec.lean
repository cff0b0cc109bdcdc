/-! Programs in numbers, and that the evaluator answers what they answer. -/
/-! 187 java/util/Arrays.fill([II)V -/
noncomputable def E_187_5 (L nx b z : Nat) (a0 : Nat) (x1 : Int32) (x3 : Int32) (d : Unit) (s : (Int32 × Mm)) : ev_Q := ev_dn b z 187 5 [some (.ref a0), some (.int x1), some (.int s.1), some (.int x3)] [] (nx, mem L nx s.2)
noncomputable def s_187_5 (a0 : Nat) (x1 : Int32) (x3 : Int32) (x2 : Int32) (m : Mm) : Option ((Int32 × Mm) ⊕ Mm) := if x3 ≤ x2 then (some (.inr m)) else (if ev_in x2 (sh_n a0) = true then (wb (wr m a0 (ix x2) x1) fun m1 => wb (x2 + 1) fun y2 => some (.inl (y2, m1))) else none)
noncomputable def d_187_5 (a0 : Nat) (x1 : Int32) (x3 : Int32) (x2 : Int32) (m : Mm) : Option Mm := it (fun s => s_187_5 a0 x1 x3 s.1 s.2) (x2, m)
theorem e_187_5 (a0 : Nat) (x1 : Int32) (x3 : Int32) (x2 : Int32) (m : Mm) : d_187_5 a0 x1 x3 x2 m = oi (s_187_5 a0 x1 x3 x2 m) (fun s => d_187_5 a0 x1 x3 s.1 s.2) := it_eq _
theorem u_187_5 {L nx : Nat} (hN : okn nx) {b z : Nat} {m : Mm} {a0 : Nat} (h0 : ok nx a0 100) {x1 : Int32} {x2 : Int32} {x3 : Int32}  : Im (s_187_5 a0 x1 x3 x2 m) (kL (wV L nx) (E_187_5 L nx b z a0 x1 x3)) (ev_dn b z 187 5 [some (.ref a0), some (.int x1), some (.int x2), some (.int x3)] [] (nx, mem L nx m)) := by
  unfold s_187_5
  refine i_bl (pc' := 7) [(.iload_n 2, 1), (.iload_n 3, 1)] [some (.ref a0), some (.int x1), some (.int x2), some (.int x3)] [.int x3, .int x2] (by decide +kernel) rfl ?_
  refine i_ic (c := .ge) (off := 13) (t := 20) (pc' := 10) (p := x3 ≤ x2) (by decide +kernel) rfl ?_ ?_
  · exact i_ir (i_rv (by decide +kernel) rfl)
  · refine i_bl (pc' := 13) [(.aload_n 0, 1), (.iload_n 2, 1), (.iload_n 1, 1)] [some (.ref a0), some (.int x1), some (.int x2), some (.int x3)] [.int x1, .int x2, .ref a0] (by decide +kernel) rfl ?_
    refine i_as (y := x1) (pc' := 14) (by decide +kernel) h0 (fun m1 => ?_)
    refine i_bl (pc' := 17) [(.iinc 2 (1), 3)] [some (.ref a0), some (.int x1), some (.int (x2 + 1)), some (.int x3)] [] (by decide +kernel) rfl ?_
    refine i_wb (fun y2 => ev_dn b z 187 17 [some (.ref a0), some (.int x1), some (.int y2), some (.int x3)] [] (nx, mem L nx m1)) (fun y2 => ?_)
    refine i_go (t := 5) (off := -12) (by decide +kernel) ?_
    exact i_co () rfl

theorem t_187_5 {L nx : Nat} (hN : okn nx) {b z : Nat} {m : Mm} {a0 : Nat} (h0 : ok nx a0 100) {x1 : Int32} {x2 : Int32} {x3 : Int32}  : Im (d_187_5 a0 x1 x3 x2 m) (wV L nx) (ev_dn b z 187 5 [some (.ref a0), some (.int x1), some (.int x2), some (.int x3)] [] (nx, mem L nx m)) := by
  exact i_it (f := fun s => s_187_5 a0 x1 x3 s.1 s.2) (E := E_187_5 L nx b z a0 x1 x3) (K := (wV L nx)) (fun d s => u_187_5 hN (h0 := h0)) () (x2, m)
noncomputable def d_187 (a0 : Nat) (x1 : Int32) (m : Mm) : Option Mm := d_187_5 a0 x1 (Int32.ofNat (sh_n a0)) 0 m
theorem t_187 {L nx : Nat} (hN : okn nx) {b z : Nat} {m : Mm} {a0 : Nat} (h0 : ok nx a0 100) {x1 : Int32}  : Im (d_187 a0 x1 m) (wV L nx) (ev_dn b z 187 0 [some (.ref a0), some (.int x1), none, none] [] (nx, mem L nx m)) := by
  unfold d_187
  refine i_bl (pc' := 3) [(.iconst 0, 1), (.istore_n 2, 1), (.aload_n 0, 1)] [some (.ref a0), some (.int x1), some (.int 0), none] [.ref a0] (by decide +kernel) rfl ?_
  refine i_ln (c := 100) (pc' := 4) (by decide +kernel) h0 ?_
  refine i_bl (pc' := 5) [(.istore_n 3, 1)] [some (.ref a0), some (.int x1), some (.int 0), some (.int (Int32.ofNat (sh_n a0)))] [] (by decide +kernel) rfl ?_
  exact t_187_5 hN (h0 := h0)

/-! 10 LanternChess$Field.begin(II)V -/
noncomputable def d_10 (a0 : Nat) (x1 : Int32) (x2 : Int32) (m : Mm) : Option Mm := wb (wr m a0 1 x1) fun m1 => wb (wr m1 a0 2 x2) fun m2 => (d_187 (sh_r a0 0) (-1) m2).bind fun m3 => some m3
theorem t_10 {L nx : Nat} (hN : okn nx) {b z : Nat} {m : Mm} {a0 : Nat} (h0 : ok nx a0 1) {x1 : Int32} {x2 : Int32}  : Im (d_10 a0 x1 x2 m) (wV L nx) (ev_dn b z 10 0 [some (.ref a0), some (.int x1), some (.int x2)] [] (nx, mem L nx m)) := by
  unfold d_10
  refine i_bl (pc' := 2) [(.aload_n 0, 1), (.iload_n 1, 1)] [some (.ref a0), some (.int x1), some (.int x2)] [.int x1, .ref a0] (by decide +kernel) rfl ?_
  refine i_pf (x := x1) (idx := 15) (ci := 1) (k := 1) (p := 11099) (pc' := 5) (by decide +kernel) h0 (fun m1 => ?_)
  refine i_bl (pc' := 7) [(.aload_n 0, 1), (.iload_n 2, 1)] [some (.ref a0), some (.int x1), some (.int x2)] [.int x2, .ref a0] (by decide +kernel) rfl ?_
  refine i_pf (x := x2) (idx := 19) (ci := 1) (k := 2) (p := 11102) (pc' := 10) (by decide +kernel) h0 (fun m2 => ?_)
  refine i_bl (pc' := 11) [(.aload_n 0, 1)] [some (.ref a0), some (.int x1), some (.int x2)] [.ref a0] (by decide +kernel) rfl ?_
  refine i_gr (idx := 9) (ci := 1) (k := 0) (t := 2) (p := 11098) (pc' := 14) (by decide +kernel) h0 ?_
  refine i_bl (pc' := 15) [(.iconst (-1), 1)] [some (.ref a0), some (.int x1), some (.int x2)] [.int (-1), .ref (sh_r a0 0)] (by decide +kernel) rfl ?_
  refine i_cs (t := 187) (na := 2) (ml := 4) (idx := 22) (pc' := 18) (st' := []) (en := [some (.ref (sh_r a0 0)), some (.int (-1)), none, none]) (av := [.ref (sh_r a0 0), .int (-1)]) (vo := fun _ => none) (mo := fun m => m) (s2 := fun _ => []) (by decide +kernel) ⟨rfl, rfl, rfl, rfl, rfl, rfl⟩ (fun _ => rfl) (t_187 hN (h0 := (o_1_0 hN h0))) (fun m3 => ?_)
  exact i_rv (by decide +kernel) rfl

/-! 1 LanternChess$Board.begin(II)V -/
noncomputable def d_1 (a0 : Nat) (x1 : Int32) (x2 : Int32) (m : Mm) : Option Mm := (d_10 (sh_r a0 0) x1 x2 m).bind fun m1 => (d_10 (sh_r a0 1) x1 x2 m1).bind fun m2 => wb (wr m2 a0 2 0) fun m3 => wb (wr m3 a0 3 (-1)) fun m4 => wb (wr m4 a0 4 (-1)) fun m5 => wb (wr m5 a0 5 (-1)) fun m6 => some m6
theorem t_1 {L nx : Nat} (hN : okn nx) {b z : Nat} {m : Mm} {a0 : Nat} (h0 : ok nx a0 0) {x1 : Int32} {x2 : Int32}  : Im (d_1 a0 x1 x2 m) (wV L nx) (ev_dn b z 1 0 [some (.ref a0), some (.int x1), some (.int x2)] [] (nx, mem L nx m)) := by
  unfold d_1
  refine i_bl (pc' := 1) [(.aload_n 0, 1)] [some (.ref a0), some (.int x1), some (.int x2)] [.ref a0] (by decide +kernel) rfl ?_
  refine i_gr (idx := 12) (ci := 0) (k := 0) (t := 2) (p := 11113) (pc' := 4) (by decide +kernel) h0 ?_
  refine i_bl (pc' := 6) [(.iload_n 1, 1), (.iload_n 2, 1)] [some (.ref a0), some (.int x1), some (.int x2)] [.int x2, .int x1, .ref (sh_r a0 0)] (by decide +kernel) rfl ?_
  refine i_cv (ci := 1) (t := 10) (na := 3) (ml := 3) (idx := 34) (pc' := 9) (st' := []) (en := [some (.ref (sh_r a0 0)), some (.int x1), some (.int x2)]) (av := [.int x1, .int x2]) (vo := fun _ => none) (mo := fun m => m) (s2 := fun _ => []) (by decide +kernel) (by decide +kernel) (o_0_0 hN h0) ⟨rfl, rfl, rfl, rfl, rfl, rfl⟩ (fun _ => rfl) (t_10 hN (h0 := (o_0_0 hN h0))) (fun m1 => ?_)
  refine i_bl (pc' := 10) [(.aload_n 0, 1)] [some (.ref a0), some (.int x1), some (.int x2)] [.ref a0] (by decide +kernel) rfl ?_
  refine i_gr (idx := 18) (ci := 0) (k := 1) (t := 2) (p := 11117) (pc' := 13) (by decide +kernel) h0 ?_
  refine i_bl (pc' := 15) [(.iload_n 1, 1), (.iload_n 2, 1)] [some (.ref a0), some (.int x1), some (.int x2)] [.int x2, .int x1, .ref (sh_r a0 1)] (by decide +kernel) rfl ?_
  refine i_cv (ci := 1) (t := 10) (na := 3) (ml := 3) (idx := 34) (pc' := 18) (st' := []) (en := [some (.ref (sh_r a0 1)), some (.int x1), some (.int x2)]) (av := [.int x1, .int x2]) (vo := fun _ => none) (mo := fun m => m) (s2 := fun _ => []) (by decide +kernel) (by decide +kernel) (o_0_1 hN h0) ⟨rfl, rfl, rfl, rfl, rfl, rfl⟩ (fun _ => rfl) (t_10 hN (h0 := (o_0_1 hN h0))) (fun m2 => ?_)
  refine i_bl (pc' := 20) [(.aload_n 0, 1), (.iconst 0, 1)] [some (.ref a0), some (.int x1), some (.int x2)] [.int 0, .ref a0] (by decide +kernel) rfl ?_
  refine i_pf (x := 0) (idx := 21) (ci := 0) (k := 2) (p := 11118) (pc' := 23) (by decide +kernel) h0 (fun m3 => ?_)
  refine i_bl (pc' := 25) [(.aload_n 0, 1), (.iconst (-1), 1)] [some (.ref a0), some (.int x1), some (.int x2)] [.int (-1), .ref a0] (by decide +kernel) rfl ?_
  refine i_pf (x := (-1)) (idx := 25) (ci := 0) (k := 3) (p := 11120) (pc' := 28) (by decide +kernel) h0 (fun m4 => ?_)
  refine i_bl (pc' := 30) [(.aload_n 0, 1), (.iconst (-1), 1)] [some (.ref a0), some (.int x1), some (.int x2)] [.int (-1), .ref a0] (by decide +kernel) rfl ?_
  refine i_pf (x := (-1)) (idx := 28) (ci := 0) (k := 4) (p := 11121) (pc' := 33) (by decide +kernel) h0 (fun m5 => ?_)
  refine i_bl (pc' := 35) [(.aload_n 0, 1), (.iconst (-1), 1)] [some (.ref a0), some (.int x1), some (.int x2)] [.int (-1), .ref a0] (by decide +kernel) rfl ?_
  refine i_pf (x := (-1)) (idx := 31) (ci := 0) (k := 5) (p := 11122) (pc' := 38) (by decide +kernel) h0 (fun m6 => ?_)
  exact i_rv (by decide +kernel) rfl

/-! 11 LanternChess$Field.copyFrom(LLanternChess$Field;)V -/
noncomputable def d_11 (a0 : Nat) (a1 : Nat) (m : Mm) : Option Mm := wb (wr m a0 1 (m a1 1)) fun m1 => wb (wr m1 a0 2 (m1 a1 2)) fun m2 => if ¬ (0 : Int32) < 0 ∧ ¬ (0 : Int32) < 0 ∧ ¬ (64 : Int32) < 0 ∧ ix (0 : Int32) + ix (64 : Int32) ≤ sh_n (sh_r a1 0) ∧ ix (0 : Int32) + ix (64 : Int32) ≤ sh_n (sh_r a0 0) then (wb (wa m2 (sh_r a0 0) (va_cpy (m2 (sh_r a1 0)) (m2 (sh_r a0 0)) (ix (0 : Int32)) (ix (0 : Int32)) (ix (64 : Int32)))) fun m3 => some m3) else none
theorem t_11 {L nx : Nat} (hN : okn nx) {b z : Nat} {m : Mm} {a0 : Nat} (h0 : ok nx a0 1) {a1 : Nat} (h1 : ok nx a1 1)   : Im (d_11 a0 a1 m) (wV L nx) (ev_dn b z 11 0 [some (.ref a0), some (.ref a1)] [] (nx, mem L nx m)) := by
  unfold d_11
  refine i_bl (pc' := 2) [(.aload_n 0, 1), (.aload_n 1, 1)] [some (.ref a0), some (.ref a1)] [.ref a1, .ref a0] (by decide +kernel) rfl ?_
  refine i_gf (idx := 15) (ci := 1) (k := 1) (t := 0) (p := 11099) (pc' := 5) (by decide +kernel) h1 ?_
  refine i_pf (x := (m a1 1)) (idx := 15) (ci := 1) (k := 1) (p := 11099) (pc' := 8) (by decide +kernel) h0 (fun m1 => ?_)
  refine i_bl (pc' := 10) [(.aload_n 0, 1), (.aload_n 1, 1)] [some (.ref a0), some (.ref a1)] [.ref a1, .ref a0] (by decide +kernel) rfl ?_
  refine i_gf (idx := 19) (ci := 1) (k := 2) (t := 0) (p := 11102) (pc' := 13) (by decide +kernel) h1 ?_
  refine i_pf (x := (m1 a1 2)) (idx := 19) (ci := 1) (k := 2) (p := 11102) (pc' := 16) (by decide +kernel) h0 (fun m2 => ?_)
  refine i_bl (pc' := 17) [(.aload_n 1, 1)] [some (.ref a0), some (.ref a1)] [.ref a1] (by decide +kernel) rfl ?_
  refine i_gr (idx := 9) (ci := 1) (k := 0) (t := 2) (p := 11098) (pc' := 20) (by decide +kernel) h1 ?_
  refine i_bl (pc' := 22) [(.iconst 0, 1), (.aload_n 0, 1)] [some (.ref a0), some (.ref a1)] [.ref a0, .int 0, .ref (sh_r a1 0)] (by decide +kernel) rfl ?_
  refine i_gr (idx := 9) (ci := 1) (k := 0) (t := 2) (p := 11098) (pc' := 25) (by decide +kernel) h0 ?_
  refine i_bl (pc' := 28) [(.iconst 0, 1), (.bipush (64), 2)] [some (.ref a0), some (.ref a1)] [.int 64, .int 0, .ref (sh_r a0 0), .int 0, .ref (sh_r a1 0)] (by decide +kernel) rfl ?_
  refine i_ac (idx := 28) (pc' := 31) (by decide +kernel) rfl (o_1_0 hN h1) (o_1_0 hN h0) (fun m3 => ?_)
  exact i_rv (by decide +kernel) rfl

/-! 2 LanternChess$Board.copyFrom(LLanternChess$Board;)V -/
noncomputable def d_2 (a0 : Nat) (a1 : Nat) (m : Mm) : Option Mm := (d_11 (sh_r a0 0) (sh_r a1 0) m).bind fun m1 => (d_11 (sh_r a0 1) (sh_r a1 1) m1).bind fun m2 => wb (wr m2 a0 2 (m2 a1 2)) fun m3 => wb (wr m3 a0 3 (m3 a1 3)) fun m4 => wb (wr m4 a0 4 (m4 a1 4)) fun m5 => wb (wr m5 a0 5 (m5 a1 5)) fun m6 => some m6
theorem t_2 {L nx : Nat} (hN : okn nx) {b z : Nat} {m : Mm} {a0 : Nat} (h0 : ok nx a0 0) {a1 : Nat} (h1 : ok nx a1 0)   : Im (d_2 a0 a1 m) (wV L nx) (ev_dn b z 2 0 [some (.ref a0), some (.ref a1)] [] (nx, mem L nx m)) := by
  unfold d_2
  refine i_bl (pc' := 1) [(.aload_n 0, 1)] [some (.ref a0), some (.ref a1)] [.ref a0] (by decide +kernel) rfl ?_
  refine i_gr (idx := 12) (ci := 0) (k := 0) (t := 2) (p := 11113) (pc' := 4) (by decide +kernel) h0 ?_
  refine i_bl (pc' := 5) [(.aload_n 1, 1)] [some (.ref a0), some (.ref a1)] [.ref a1, .ref (sh_r a0 0)] (by decide +kernel) rfl ?_
  refine i_gr (idx := 12) (ci := 0) (k := 0) (t := 2) (p := 11113) (pc' := 8) (by decide +kernel) h1 ?_
  refine i_cv (ci := 1) (t := 11) (na := 2) (ml := 2) (idx := 38) (pc' := 11) (st' := []) (en := [some (.ref (sh_r a0 0)), some (.ref (sh_r a1 0))]) (av := [.ref (sh_r a1 0)]) (vo := fun _ => none) (mo := fun m => m) (s2 := fun _ => []) (by decide +kernel) (by decide +kernel) (o_0_0 hN h0) ⟨rfl, rfl, rfl, rfl, rfl, rfl⟩ (fun _ => rfl) (t_11 hN (h0 := (o_0_0 hN h0)) (h1 := (o_0_0 hN h1))) (fun m1 => ?_)
  refine i_bl (pc' := 12) [(.aload_n 0, 1)] [some (.ref a0), some (.ref a1)] [.ref a0] (by decide +kernel) rfl ?_
  refine i_gr (idx := 18) (ci := 0) (k := 1) (t := 2) (p := 11117) (pc' := 15) (by decide +kernel) h0 ?_
  refine i_bl (pc' := 16) [(.aload_n 1, 1)] [some (.ref a0), some (.ref a1)] [.ref a1, .ref (sh_r a0 1)] (by decide +kernel) rfl ?_
  refine i_gr (idx := 18) (ci := 0) (k := 1) (t := 2) (p := 11117) (pc' := 19) (by decide +kernel) h1 ?_
  refine i_cv (ci := 1) (t := 11) (na := 2) (ml := 2) (idx := 38) (pc' := 22) (st' := []) (en := [some (.ref (sh_r a0 1)), some (.ref (sh_r a1 1))]) (av := [.ref (sh_r a1 1)]) (vo := fun _ => none) (mo := fun m => m) (s2 := fun _ => []) (by decide +kernel) (by decide +kernel) (o_0_1 hN h0) ⟨rfl, rfl, rfl, rfl, rfl, rfl⟩ (fun _ => rfl) (t_11 hN (h0 := (o_0_1 hN h0)) (h1 := (o_0_1 hN h1))) (fun m2 => ?_)
  refine i_bl (pc' := 24) [(.aload_n 0, 1), (.aload_n 1, 1)] [some (.ref a0), some (.ref a1)] [.ref a1, .ref a0] (by decide +kernel) rfl ?_
  refine i_gf (idx := 21) (ci := 0) (k := 2) (t := 0) (p := 11118) (pc' := 27) (by decide +kernel) h1 ?_
  refine i_pf (x := (m2 a1 2)) (idx := 21) (ci := 0) (k := 2) (p := 11118) (pc' := 30) (by decide +kernel) h0 (fun m3 => ?_)
  refine i_bl (pc' := 32) [(.aload_n 0, 1), (.aload_n 1, 1)] [some (.ref a0), some (.ref a1)] [.ref a1, .ref a0] (by decide +kernel) rfl ?_
  refine i_gf (idx := 25) (ci := 0) (k := 3) (t := 0) (p := 11120) (pc' := 35) (by decide +kernel) h1 ?_
  refine i_pf (x := (m3 a1 3)) (idx := 25) (ci := 0) (k := 3) (p := 11120) (pc' := 38) (by decide +kernel) h0 (fun m4 => ?_)
  refine i_bl (pc' := 40) [(.aload_n 0, 1), (.aload_n 1, 1)] [some (.ref a0), some (.ref a1)] [.ref a1, .ref a0] (by decide +kernel) rfl ?_
  refine i_gf (idx := 28) (ci := 0) (k := 4) (t := 0) (p := 11121) (pc' := 43) (by decide +kernel) h1 ?_
  refine i_pf (x := (m4 a1 4)) (idx := 28) (ci := 0) (k := 4) (p := 11121) (pc' := 46) (by decide +kernel) h0 (fun m5 => ?_)
  refine i_bl (pc' := 48) [(.aload_n 0, 1), (.aload_n 1, 1)] [some (.ref a0), some (.ref a1)] [.ref a1, .ref a0] (by decide +kernel) rfl ?_
  refine i_gf (idx := 31) (ci := 0) (k := 5) (t := 0) (p := 11122) (pc' := 51) (by decide +kernel) h1 ?_
  refine i_pf (x := (m5 a1 5)) (idx := 31) (ci := 0) (k := 5) (p := 11122) (pc' := 54) (by decide +kernel) h0 (fun m6 => ?_)
  exact i_rv (by decide +kernel) rfl

/-! 17 LanternChess$Field.at(I)I -/
noncomputable def d_17 (a0 : Nat) (x1 : Int32) (m : Mm) : Option Int32 := if x1 < 0 then (some (-1)) else (if 64 ≤ x1 then (some (-1)) else (if ev_in x1 (sh_n (sh_r a0 0)) = true then (some (m (sh_r a0 0) (ix x1))) else none))
theorem t_17 {L nx : Nat} (hN : okn nx) {b z : Nat} {m : Mm} {a0 : Nat} (h0 : ok nx a0 1) {x1 : Int32}  : Im (d_17 a0 x1 m) (kI L nx m) (ev_dn b z 17 0 [some (.ref a0), some (.int x1)] [] (nx, mem L nx m)) := by
  unfold d_17
  refine i_bl (pc' := 1) [(.iload_n 1, 1)] [some (.ref a0), some (.int x1)] [.int x1] (by decide +kernel) rfl ?_
  refine i_if (c := .lt) (off := 18) (t := 19) (pc' := 4) (p := x1 < 0) (by decide +kernel) rfl ?_ ?_
  · refine i_bl (pc' := 20) [(.iconst (-1), 1)] [some (.ref a0), some (.int x1)] [.int (-1)] (by decide +kernel) rfl ?_
    exact i_ri (by decide +kernel) rfl
  · refine i_bl (pc' := 7) [(.iload_n 1, 1), (.bipush (64), 2)] [some (.ref a0), some (.int x1)] [.int 64, .int x1] (by decide +kernel) rfl ?_
    refine i_ic (c := .ge) (off := 12) (t := 19) (pc' := 10) (p := 64 ≤ x1) (by decide +kernel) rfl ?_ ?_
    · refine i_bl (pc' := 20) [(.iconst (-1), 1)] [some (.ref a0), some (.int x1)] [.int (-1)] (by decide +kernel) rfl ?_
      exact i_ri (by decide +kernel) rfl
    · refine i_bl (pc' := 11) [(.aload_n 0, 1)] [some (.ref a0), some (.int x1)] [.ref a0] (by decide +kernel) rfl ?_
      refine i_gr (idx := 9) (ci := 1) (k := 0) (t := 2) (p := 11098) (pc' := 14) (by decide +kernel) h0 ?_
      refine i_bl (pc' := 15) [(.iload_n 1, 1)] [some (.ref a0), some (.int x1)] [.int x1, .ref (sh_r a0 0)] (by decide +kernel) rfl ?_
      refine i_al (pc' := 16) (by decide +kernel) (o_1_0 hN h0) ?_
      refine i_go (t := 20) (off := 4) (by decide +kernel) ?_
      exact i_ri (by decide +kernel) rfl

/-! 14 LanternChess$Field.rowOf(I)I -/
noncomputable def d_14 (x0 : Int32) : Option Int32 := some (x0 >>> ((3 : Int32) &&& (31 : Int32)))
theorem t_14 {L nx : Nat} (hN : okn nx) {b z : Nat} {m : Mm}  {x0 : Int32}  : Im (d_14 x0) (kI L nx m) (ev_dn b z 14 0 [some (.int x0)] [] (nx, mem L nx m)) := by
  unfold d_14
  refine i_bl (pc' := 3) [(.iload_n 0, 1), (.iconst 3, 1), (.ishr, 1)] [some (.int x0)] [.int (x0 >>> ((3 : Int32) &&& (31 : Int32)))] (by decide +kernel) rfl ?_
  exact i_ri (by decide +kernel) rfl

/-! 24 LanternChess$Field.becomesQueen(II)Z -/
noncomputable def d_24 (a0 : Nat) (x1 : Int32) (x2 : Int32) (m : Mm) : Option Bool := if ¬ x1 = 5 then (if ¬ x1 = 11 then (some false) else ((d_14 x2).bind fun v1 => if ¬ v1 = 0 then (some false) else (some true))) else ((d_14 x2).bind fun v2 => if ¬ v2 = ((m a0 2) - 1) then (some false) else (some true))
theorem t_24 {L nx : Nat} (hN : okn nx) {b z : Nat} {m : Mm} {a0 : Nat} (h0 : ok nx a0 1) {x1 : Int32} {x2 : Int32}  : Im (d_24 a0 x1 x2 m) (kZ L nx m) (ev_dn b z 24 0 [some (.ref a0), some (.int x1), some (.int x2)] [] (nx, mem L nx m)) := by
  unfold d_24
  refine i_bl (pc' := 2) [(.iload_n 1, 1), (.iconst 5, 1)] [some (.ref a0), some (.int x1), some (.int x2)] [.int 5, .int x1] (by decide +kernel) rfl ?_
  refine i_ic (c := .ne) (off := 22) (t := 24) (pc' := 5) (p := ¬ x1 = 5) (by decide +kernel) rfl ?_ ?_
  · refine i_bl (pc' := 27) [(.iload_n 1, 1), (.bipush (11), 2)] [some (.ref a0), some (.int x1), some (.int x2)] [.int 11, .int x1] (by decide +kernel) rfl ?_
    refine i_ic (c := .ne) (off := 14) (t := 41) (pc' := 30) (p := ¬ x1 = 11) (by decide +kernel) rfl ?_ ?_
    · refine i_bl (pc' := 42) [(.iconst 0, 1)] [some (.ref a0), some (.int x1), some (.int x2)] [.int 0] (by decide +kernel) rfl ?_
      exact i_rz (B := false) (by decide +kernel) rfl
    · refine i_bl (pc' := 31) [(.iload_n 2, 1)] [some (.ref a0), some (.int x1), some (.int x2)] [.int x2] (by decide +kernel) rfl ?_
      refine i_cs (t := 14) (na := 1) (ml := 1) (idx := 48) (pc' := 34) (st' := []) (en := [some (.int x2)]) (av := [.int x2]) (vo := fun v => some (.int v)) (mo := fun _ => m) (s2 := fun v => .int v :: []) (by decide +kernel) ⟨rfl, rfl, rfl, rfl, rfl, rfl⟩ (fun _ => rfl) (t_14 hN ) (fun v1 => ?_)
      refine i_if (c := .ne) (off := 7) (t := 41) (pc' := 37) (p := ¬ v1 = 0) (by decide +kernel) rfl ?_ ?_
      · refine i_bl (pc' := 42) [(.iconst 0, 1)] [some (.ref a0), some (.int x1), some (.int x2)] [.int 0] (by decide +kernel) rfl ?_
        exact i_rz (B := false) (by decide +kernel) rfl
      · refine i_bl (pc' := 38) [(.iconst 1, 1)] [some (.ref a0), some (.int x1), some (.int x2)] [.int 1] (by decide +kernel) rfl ?_
        refine i_go (t := 42) (off := 4) (by decide +kernel) ?_
        exact i_rz (B := true) (by decide +kernel) rfl
  · refine i_bl (pc' := 6) [(.iload_n 2, 1)] [some (.ref a0), some (.int x1), some (.int x2)] [.int x2] (by decide +kernel) rfl ?_
    refine i_cs (t := 14) (na := 1) (ml := 1) (idx := 48) (pc' := 9) (st' := []) (en := [some (.int x2)]) (av := [.int x2]) (vo := fun v => some (.int v)) (mo := fun _ => m) (s2 := fun v => .int v :: []) (by decide +kernel) ⟨rfl, rfl, rfl, rfl, rfl, rfl⟩ (fun _ => rfl) (t_14 hN ) (fun v2 => ?_)
    refine i_bl (pc' := 10) [(.aload_n 0, 1)] [some (.ref a0), some (.int x1), some (.int x2)] [.ref a0, .int v2] (by decide +kernel) rfl ?_
    refine i_gf (idx := 19) (ci := 1) (k := 2) (t := 0) (p := 11102) (pc' := 13) (by decide +kernel) h0 ?_
    refine i_bl (pc' := 15) [(.iconst 1, 1), (.isub, 1)] [some (.ref a0), some (.int x1), some (.int x2)] [.int ((m a0 2) - 1), .int v2] (by decide +kernel) rfl ?_
    refine i_ic (c := .ne) (off := 7) (t := 22) (pc' := 18) (p := ¬ v2 = ((m a0 2) - 1)) (by decide +kernel) rfl ?_ ?_
    · refine i_bl (pc' := 23) [(.iconst 0, 1)] [some (.ref a0), some (.int x1), some (.int x2)] [.int 0] (by decide +kernel) rfl ?_
      exact i_rz (B := false) (by decide +kernel) rfl
    · refine i_bl (pc' := 19) [(.iconst 1, 1)] [some (.ref a0), some (.int x1), some (.int x2)] [.int 1] (by decide +kernel) rfl ?_
      refine i_go (t := 23) (off := 4) (by decide +kernel) ?_
      exact i_rz (B := true) (by decide +kernel) rfl

/-! 25 LanternChess$Field.arriving(II)I -/
noncomputable def d_25 (a0 : Nat) (x1 : Int32) (x2 : Int32) (m : Mm) : Option Int32 := (d_17 a0 x1 m).bind fun v1 => (d_24 a0 v1 x2 m).bind fun v2 => if v2 = true then (some ((v1 - 5) + 1)) else (some v1)
theorem t_25 {L nx : Nat} (hN : okn nx) {b z : Nat} {m : Mm} {a0 : Nat} (h0 : ok nx a0 1) {x1 : Int32} {x2 : Int32}  : Im (d_25 a0 x1 x2 m) (kI L nx m) (ev_dn b z 25 0 [some (.ref a0), some (.int x1), some (.int x2), none] [] (nx, mem L nx m)) := by
  unfold d_25
  refine i_bl (pc' := 2) [(.aload_n 0, 1), (.iload_n 1, 1)] [some (.ref a0), some (.int x1), some (.int x2), none] [.int x1, .ref a0] (by decide +kernel) rfl ?_
  refine i_cv (ci := 1) (t := 17) (na := 2) (ml := 2) (idx := 37) (pc' := 5) (st' := []) (en := [some (.ref a0), some (.int x1)]) (av := [.int x1]) (vo := fun v => some (.int v)) (mo := fun _ => m) (s2 := fun v => .int v :: []) (by decide +kernel) (by decide +kernel) h0 ⟨rfl, rfl, rfl, rfl, rfl, rfl⟩ (fun _ => rfl) (t_17 hN (h0 := h0)) (fun v1 => ?_)
  refine i_bl (pc' := 9) [(.istore_n 3, 1), (.aload_n 0, 1), (.iload_n 3, 1), (.iload_n 2, 1)] [some (.ref a0), some (.int x1), some (.int x2), some (.int v1)] [.int x2, .int v1, .ref a0] (by decide +kernel) rfl ?_
  refine i_cv (ci := 1) (t := 24) (na := 3) (ml := 3) (idx := 76) (pc' := 12) (st' := []) (en := [some (.ref a0), some (.int v1), some (.int x2)]) (av := [.int v1, .int x2]) (vo := fun v => some (.int (bi v))) (mo := fun _ => m) (s2 := fun v => .int (bi v) :: []) (by decide +kernel) (by decide +kernel) h0 ⟨rfl, rfl, rfl, rfl, rfl, rfl⟩ (fun _ => rfl) (t_24 hN (h0 := h0)) (fun v2 => ?_)
  refine i_bz (off := 11) (t := 23) (pc' := 15) (by decide +kernel) ?_ ?_
  · refine i_bl (pc' := 20) [(.iload_n 3, 1), (.iconst 5, 1), (.isub, 1), (.iconst 1, 1), (.iadd, 1)] [some (.ref a0), some (.int x1), some (.int x2), some (.int v1)] [.int ((v1 - 5) + 1)] (by decide +kernel) rfl ?_
    refine i_go (t := 24) (off := 4) (by decide +kernel) ?_
    exact i_ri (by decide +kernel) rfl
  · refine i_bl (pc' := 24) [(.iload_n 3, 1)] [some (.ref a0), some (.int x1), some (.int x2), some (.int v1)] [.int v1] (by decide +kernel) rfl ?_
    exact i_ri (by decide +kernel) rfl

/-! 18 LanternChess$Field.put(II)V -/
noncomputable def d_18 (a0 : Nat) (x1 : Int32) (x2 : Int32) (m : Mm) : Option Mm := if x1 < 0 then (some m) else (if 64 ≤ x1 then (some m) else (if ev_in x1 (sh_n (sh_r a0 0)) = true then (wb (wr m (sh_r a0 0) (ix x1) x2) fun m1 => some m1) else none))
theorem t_18 {L nx : Nat} (hN : okn nx) {b z : Nat} {m : Mm} {a0 : Nat} (h0 : ok nx a0 1) {x1 : Int32} {x2 : Int32}  : Im (d_18 a0 x1 x2 m) (wV L nx) (ev_dn b z 18 0 [some (.ref a0), some (.int x1), some (.int x2)] [] (nx, mem L nx m)) := by
  unfold d_18
  refine i_bl (pc' := 1) [(.iload_n 1, 1)] [some (.ref a0), some (.int x1), some (.int x2)] [.int x1] (by decide +kernel) rfl ?_
  refine i_if (c := .lt) (off := 16) (t := 17) (pc' := 4) (p := x1 < 0) (by decide +kernel) rfl ?_ ?_
  · exact i_rv (by decide +kernel) rfl
  · refine i_bl (pc' := 7) [(.iload_n 1, 1), (.bipush (64), 2)] [some (.ref a0), some (.int x1), some (.int x2)] [.int 64, .int x1] (by decide +kernel) rfl ?_
    refine i_ic (c := .ge) (off := 10) (t := 17) (pc' := 10) (p := 64 ≤ x1) (by decide +kernel) rfl ?_ ?_
    · exact i_rv (by decide +kernel) rfl
    · refine i_bl (pc' := 11) [(.aload_n 0, 1)] [some (.ref a0), some (.int x1), some (.int x2)] [.ref a0] (by decide +kernel) rfl ?_
      refine i_gr (idx := 9) (ci := 1) (k := 0) (t := 2) (p := 11098) (pc' := 14) (by decide +kernel) h0 ?_
      refine i_bl (pc' := 16) [(.iload_n 1, 1), (.iload_n 2, 1)] [some (.ref a0), some (.int x1), some (.int x2)] [.int x2, .int x1, .ref (sh_r a0 0)] (by decide +kernel) rfl ?_
      refine i_as (y := x2) (pc' := 17) (by decide +kernel) (o_1_0 hN h0) (fun m1 => ?_)
      exact i_rv (by decide +kernel) rfl

/-! 26 LanternChess$Field.carryOut(II)V -/
noncomputable def d_26 (a0 : Nat) (x1 : Int32) (x2 : Int32) (m : Mm) : Option Mm := (d_25 a0 x1 x2 m).bind fun v1 => (d_18 a0 x1 (-1) m).bind fun m2 => (d_18 a0 x2 v1 m2).bind fun m3 => some m3
theorem t_26 {L nx : Nat} (hN : okn nx) {b z : Nat} {m : Mm} {a0 : Nat} (h0 : ok nx a0 1) {x1 : Int32} {x2 : Int32}  : Im (d_26 a0 x1 x2 m) (wV L nx) (ev_dn b z 26 0 [some (.ref a0), some (.int x1), some (.int x2), none] [] (nx, mem L nx m)) := by
  unfold d_26
  refine i_bl (pc' := 3) [(.aload_n 0, 1), (.iload_n 1, 1), (.iload_n 2, 1)] [some (.ref a0), some (.int x1), some (.int x2), none] [.int x2, .int x1, .ref a0] (by decide +kernel) rfl ?_
  refine i_cv (ci := 1) (t := 25) (na := 3) (ml := 4) (idx := 79) (pc' := 6) (st' := []) (en := [some (.ref a0), some (.int x1), some (.int x2), none]) (av := [.int x1, .int x2]) (vo := fun v => some (.int v)) (mo := fun _ => m) (s2 := fun v => .int v :: []) (by decide +kernel) (by decide +kernel) h0 ⟨rfl, rfl, rfl, rfl, rfl, rfl⟩ (fun _ => rfl) (t_25 hN (h0 := h0)) (fun v1 => ?_)
  refine i_bl (pc' := 10) [(.istore_n 3, 1), (.aload_n 0, 1), (.iload_n 1, 1), (.iconst (-1), 1)] [some (.ref a0), some (.int x1), some (.int x2), some (.int v1)] [.int (-1), .int x1, .ref a0] (by decide +kernel) rfl ?_
  refine i_cv (ci := 1) (t := 18) (na := 3) (ml := 3) (idx := 82) (pc' := 13) (st' := []) (en := [some (.ref a0), some (.int x1), some (.int (-1))]) (av := [.int x1, .int (-1)]) (vo := fun _ => none) (mo := fun m => m) (s2 := fun _ => []) (by decide +kernel) (by decide +kernel) h0 ⟨rfl, rfl, rfl, rfl, rfl, rfl⟩ (fun _ => rfl) (t_18 hN (h0 := h0)) (fun m2 => ?_)
  refine i_bl (pc' := 16) [(.aload_n 0, 1), (.iload_n 2, 1), (.iload_n 3, 1)] [some (.ref a0), some (.int x1), some (.int x2), some (.int v1)] [.int v1, .int x2, .ref a0] (by decide +kernel) rfl ?_
  refine i_cv (ci := 1) (t := 18) (na := 3) (ml := 3) (idx := 82) (pc' := 19) (st' := []) (en := [some (.ref a0), some (.int x2), some (.int v1)]) (av := [.int x2, .int v1]) (vo := fun _ => none) (mo := fun m => m) (s2 := fun _ => []) (by decide +kernel) (by decide +kernel) h0 ⟨rfl, rfl, rfl, rfl, rfl, rfl⟩ (fun _ => rfl) (t_18 hN (h0 := h0)) (fun m3 => ?_)
  exact i_rv (by decide +kernel) rfl

/-! 3 LanternChess$Board.carryOut(III)V -/
noncomputable def d_3 (a0 : Nat) (x1 : Int32) (x2 : Int32) (x3 : Int32) (m : Mm) : Option Mm := (d_11 (sh_r a0 1) (sh_r a0 0) m).bind fun m1 => (d_26 (sh_r a0 0) x2 x3 m1).bind fun m2 => wb (wr m2 a0 2 ((m2 a0 2) + 1)) fun m3 => wb (wr m3 a0 3 x1) fun m4 => wb (wr m4 a0 4 x2) fun m5 => wb (wr m5 a0 5 x3) fun m6 => some m6
theorem t_3 {L nx : Nat} (hN : okn nx) {b z : Nat} {m : Mm} {a0 : Nat} (h0 : ok nx a0 0) {x1 : Int32} {x2 : Int32} {x3 : Int32}  : Im (d_3 a0 x1 x2 x3 m) (wV L nx) (ev_dn b z 3 0 [some (.ref a0), some (.int x1), some (.int x2), some (.int x3)] [] (nx, mem L nx m)) := by
  unfold d_3
  refine i_bl (pc' := 1) [(.aload_n 0, 1)] [some (.ref a0), some (.int x1), some (.int x2), some (.int x3)] [.ref a0] (by decide +kernel) rfl ?_
  refine i_gr (idx := 18) (ci := 0) (k := 1) (t := 2) (p := 11117) (pc' := 4) (by decide +kernel) h0 ?_
  refine i_bl (pc' := 5) [(.aload_n 0, 1)] [some (.ref a0), some (.int x1), some (.int x2), some (.int x3)] [.ref a0, .ref (sh_r a0 1)] (by decide +kernel) rfl ?_
  refine i_gr (idx := 12) (ci := 0) (k := 0) (t := 2) (p := 11113) (pc' := 8) (by decide +kernel) h0 ?_
  refine i_cv (ci := 1) (t := 11) (na := 2) (ml := 2) (idx := 38) (pc' := 11) (st' := []) (en := [some (.ref (sh_r a0 1)), some (.ref (sh_r a0 0))]) (av := [.ref (sh_r a0 0)]) (vo := fun _ => none) (mo := fun m => m) (s2 := fun _ => []) (by decide +kernel) (by decide +kernel) (o_0_1 hN h0) ⟨rfl, rfl, rfl, rfl, rfl, rfl⟩ (fun _ => rfl) (t_11 hN (h0 := (o_0_1 hN h0)) (h1 := (o_0_0 hN h0))) (fun m1 => ?_)
  refine i_bl (pc' := 12) [(.aload_n 0, 1)] [some (.ref a0), some (.int x1), some (.int x2), some (.int x3)] [.ref a0] (by decide +kernel) rfl ?_
  refine i_gr (idx := 12) (ci := 0) (k := 0) (t := 2) (p := 11113) (pc' := 15) (by decide +kernel) h0 ?_
  refine i_bl (pc' := 17) [(.iload_n 2, 1), (.iload_n 3, 1)] [some (.ref a0), some (.int x1), some (.int x2), some (.int x3)] [.int x3, .int x2, .ref (sh_r a0 0)] (by decide +kernel) rfl ?_
  refine i_cv (ci := 1) (t := 26) (na := 3) (ml := 4) (idx := 42) (pc' := 20) (st' := []) (en := [some (.ref (sh_r a0 0)), some (.int x2), some (.int x3), none]) (av := [.int x2, .int x3]) (vo := fun _ => none) (mo := fun m => m) (s2 := fun _ => []) (by decide +kernel) (by decide +kernel) (o_0_0 hN h0) ⟨rfl, rfl, rfl, rfl, rfl, rfl⟩ (fun _ => rfl) (t_26 hN (h0 := (o_0_0 hN h0))) (fun m2 => ?_)
  refine i_bl (pc' := 22) [(.aload_n 0, 1), (.dup, 1)] [some (.ref a0), some (.int x1), some (.int x2), some (.int x3)] [.ref a0, .ref a0] (by decide +kernel) rfl ?_
  refine i_gf (idx := 21) (ci := 0) (k := 2) (t := 0) (p := 11118) (pc' := 25) (by decide +kernel) h0 ?_
  refine i_bl (pc' := 27) [(.iconst 1, 1), (.iadd, 1)] [some (.ref a0), some (.int x1), some (.int x2), some (.int x3)] [.int ((m2 a0 2) + 1), .ref a0] (by decide +kernel) rfl ?_
  refine i_pf (x := ((m2 a0 2) + 1)) (idx := 21) (ci := 0) (k := 2) (p := 11118) (pc' := 30) (by decide +kernel) h0 (fun m3 => ?_)
  refine i_bl (pc' := 32) [(.aload_n 0, 1), (.iload_n 1, 1)] [some (.ref a0), some (.int x1), some (.int x2), some (.int x3)] [.int x1, .ref a0] (by decide +kernel) rfl ?_
  refine i_pf (x := x1) (idx := 25) (ci := 0) (k := 3) (p := 11120) (pc' := 35) (by decide +kernel) h0 (fun m4 => ?_)
  refine i_bl (pc' := 37) [(.aload_n 0, 1), (.iload_n 2, 1)] [some (.ref a0), some (.int x1), some (.int x2), some (.int x3)] [.int x2, .ref a0] (by decide +kernel) rfl ?_
  refine i_pf (x := x2) (idx := 28) (ci := 0) (k := 4) (p := 11121) (pc' := 40) (by decide +kernel) h0 (fun m5 => ?_)
  refine i_bl (pc' := 42) [(.aload_n 0, 1), (.iload_n 3, 1)] [some (.ref a0), some (.int x1), some (.int x2), some (.int x3)] [.int x3, .ref a0] (by decide +kernel) rfl ?_
  refine i_pf (x := x3) (idx := 31) (ci := 0) (k := 5) (p := 11122) (pc' := 45) (by decide +kernel) h0 (fun m6 => ?_)
  exact i_rv (by decide +kernel) rfl

/-! 4 LanternChess$Board.putRight(II)V -/
noncomputable def d_4 (a0 : Nat) (x1 : Int32) (x2 : Int32) (m : Mm) : Option Mm := (d_11 (sh_r a0 0) (sh_r a0 1) m).bind fun m1 => (d_26 (sh_r a0 0) x1 x2 m1).bind fun m2 => wb (wr m2 a0 4 x1) fun m3 => wb (wr m3 a0 5 x2) fun m4 => some m4
theorem t_4 {L nx : Nat} (hN : okn nx) {b z : Nat} {m : Mm} {a0 : Nat} (h0 : ok nx a0 0) {x1 : Int32} {x2 : Int32}  : Im (d_4 a0 x1 x2 m) (wV L nx) (ev_dn b z 4 0 [some (.ref a0), some (.int x1), some (.int x2)] [] (nx, mem L nx m)) := by
  unfold d_4
  refine i_bl (pc' := 1) [(.aload_n 0, 1)] [some (.ref a0), some (.int x1), some (.int x2)] [.ref a0] (by decide +kernel) rfl ?_
  refine i_gr (idx := 12) (ci := 0) (k := 0) (t := 2) (p := 11113) (pc' := 4) (by decide +kernel) h0 ?_
  refine i_bl (pc' := 5) [(.aload_n 0, 1)] [some (.ref a0), some (.int x1), some (.int x2)] [.ref a0, .ref (sh_r a0 0)] (by decide +kernel) rfl ?_
  refine i_gr (idx := 18) (ci := 0) (k := 1) (t := 2) (p := 11117) (pc' := 8) (by decide +kernel) h0 ?_
  refine i_cv (ci := 1) (t := 11) (na := 2) (ml := 2) (idx := 38) (pc' := 11) (st' := []) (en := [some (.ref (sh_r a0 0)), some (.ref (sh_r a0 1))]) (av := [.ref (sh_r a0 1)]) (vo := fun _ => none) (mo := fun m => m) (s2 := fun _ => []) (by decide +kernel) (by decide +kernel) (o_0_0 hN h0) ⟨rfl, rfl, rfl, rfl, rfl, rfl⟩ (fun _ => rfl) (t_11 hN (h0 := (o_0_0 hN h0)) (h1 := (o_0_1 hN h0))) (fun m1 => ?_)
  refine i_bl (pc' := 12) [(.aload_n 0, 1)] [some (.ref a0), some (.int x1), some (.int x2)] [.ref a0] (by decide +kernel) rfl ?_
  refine i_gr (idx := 12) (ci := 0) (k := 0) (t := 2) (p := 11113) (pc' := 15) (by decide +kernel) h0 ?_
  refine i_bl (pc' := 17) [(.iload_n 1, 1), (.iload_n 2, 1)] [some (.ref a0), some (.int x1), some (.int x2)] [.int x2, .int x1, .ref (sh_r a0 0)] (by decide +kernel) rfl ?_
  refine i_cv (ci := 1) (t := 26) (na := 3) (ml := 4) (idx := 42) (pc' := 20) (st' := []) (en := [some (.ref (sh_r a0 0)), some (.int x1), some (.int x2), none]) (av := [.int x1, .int x2]) (vo := fun _ => none) (mo := fun m => m) (s2 := fun _ => []) (by decide +kernel) (by decide +kernel) (o_0_0 hN h0) ⟨rfl, rfl, rfl, rfl, rfl, rfl⟩ (fun _ => rfl) (t_26 hN (h0 := (o_0_0 hN h0))) (fun m2 => ?_)
  refine i_bl (pc' := 22) [(.aload_n 0, 1), (.iload_n 1, 1)] [some (.ref a0), some (.int x1), some (.int x2)] [.int x1, .ref a0] (by decide +kernel) rfl ?_
  refine i_pf (x := x1) (idx := 28) (ci := 0) (k := 4) (p := 11121) (pc' := 25) (by decide +kernel) h0 (fun m3 => ?_)
  refine i_bl (pc' := 27) [(.aload_n 0, 1), (.iload_n 2, 1)] [some (.ref a0), some (.int x1), some (.int x2)] [.int x2, .ref a0] (by decide +kernel) rfl ?_
  refine i_pf (x := x2) (idx := 31) (ci := 0) (k := 5) (p := 11122) (pc' := 30) (by decide +kernel) h0 (fun m4 => ?_)
  exact i_rv (by decide +kernel) rfl

/-! 5 LanternChess$Board.turnFlashes()I -/
noncomputable def d_5 (a0 : Nat) (m : Mm) : Option Int32 := some (1 + ((m a0 2) &&& (1 : Int32)))
theorem t_5 {L nx : Nat} (hN : okn nx) {b z : Nat} {m : Mm} {a0 : Nat} (h0 : ok nx a0 0)   : Im (d_5 a0 m) (kI L nx m) (ev_dn b z 5 0 [some (.ref a0)] [] (nx, mem L nx m)) := by
  unfold d_5
  refine i_bl (pc' := 2) [(.iconst 1, 1), (.aload_n 0, 1)] [some (.ref a0)] [.ref a0, .int 1] (by decide +kernel) rfl ?_
  refine i_gf (idx := 21) (ci := 0) (k := 2) (t := 0) (p := 11118) (pc' := 5) (by decide +kernel) h0 ?_
  refine i_bl (pc' := 8) [(.iconst 1, 1), (.iand, 1), (.iadd, 1)] [some (.ref a0)] [.int (1 + ((m a0 2) &&& (1 : Int32)))] (by decide +kernel) rfl ?_
  exact i_ri (by decide +kernel) rfl

/-! 19 LanternChess$Field.isOf(II)Z -/
noncomputable def d_19 (x0 : Int32) (x1 : Int32) : Option Bool := if ¬ x1 = 0 then (if x0 < 6 then (some false) else (some true)) else (if x0 < 0 then (some false) else (if 6 ≤ x0 then (some false) else (some true)))
theorem t_19 {L nx : Nat} (hN : okn nx) {b z : Nat} {m : Mm}  {x0 : Int32} {x1 : Int32}  : Im (d_19 x0 x1) (kZ L nx m) (ev_dn b z 19 0 [some (.int x0), some (.int x1)] [] (nx, mem L nx m)) := by
  unfold d_19
  refine i_bl (pc' := 1) [(.iload_n 1, 1)] [some (.int x0), some (.int x1)] [.int x1] (by decide +kernel) rfl ?_
  refine i_if (c := .ne) (off := 21) (t := 22) (pc' := 4) (p := ¬ x1 = 0) (by decide +kernel) rfl ?_ ?_
  · refine i_bl (pc' := 25) [(.iload_n 0, 1), (.bipush (6), 2)] [some (.int x0), some (.int x1)] [.int 6, .int x0] (by decide +kernel) rfl ?_
    refine i_ic (c := .lt) (off := 7) (t := 32) (pc' := 28) (p := x0 < 6) (by decide +kernel) rfl ?_ ?_
    · refine i_bl (pc' := 33) [(.iconst 0, 1)] [some (.int x0), some (.int x1)] [.int 0] (by decide +kernel) rfl ?_
      exact i_rz (B := false) (by decide +kernel) rfl
    · refine i_bl (pc' := 29) [(.iconst 1, 1)] [some (.int x0), some (.int x1)] [.int 1] (by decide +kernel) rfl ?_
      refine i_go (t := 33) (off := 4) (by decide +kernel) ?_
      exact i_rz (B := true) (by decide +kernel) rfl
  · refine i_bl (pc' := 5) [(.iload_n 0, 1)] [some (.int x0), some (.int x1)] [.int x0] (by decide +kernel) rfl ?_
    refine i_if (c := .lt) (off := 13) (t := 18) (pc' := 8) (p := x0 < 0) (by decide +kernel) rfl ?_ ?_
    · refine i_bl (pc' := 19) [(.iconst 0, 1)] [some (.int x0), some (.int x1)] [.int 0] (by decide +kernel) rfl ?_
      refine i_go (t := 33) (off := 14) (by decide +kernel) ?_
      exact i_rz (B := false) (by decide +kernel) rfl
    · refine i_bl (pc' := 11) [(.iload_n 0, 1), (.bipush (6), 2)] [some (.int x0), some (.int x1)] [.int 6, .int x0] (by decide +kernel) rfl ?_
      refine i_ic (c := .ge) (off := 7) (t := 18) (pc' := 14) (p := 6 ≤ x0) (by decide +kernel) rfl ?_ ?_
      · refine i_bl (pc' := 19) [(.iconst 0, 1)] [some (.int x0), some (.int x1)] [.int 0] (by decide +kernel) rfl ?_
        refine i_go (t := 33) (off := 14) (by decide +kernel) ?_
        exact i_rz (B := false) (by decide +kernel) rfl
      · refine i_bl (pc' := 15) [(.iconst 1, 1)] [some (.int x0), some (.int x1)] [.int 1] (by decide +kernel) rfl ?_
        refine i_go (t := 33) (off := 18) (by decide +kernel) ?_
        exact i_rz (B := true) (by decide +kernel) rfl

/-! 13 LanternChess$Field.columnOf(I)I -/
noncomputable def d_13 (x0 : Int32) : Option Int32 := some (x0 &&& (7 : Int32))
theorem t_13 {L nx : Nat} (hN : okn nx) {b z : Nat} {m : Mm}  {x0 : Int32}  : Im (d_13 x0) (kI L nx m) (ev_dn b z 13 0 [some (.int x0)] [] (nx, mem L nx m)) := by
  unfold d_13
  refine i_bl (pc' := 4) [(.iload_n 0, 1), (.bipush (7), 2), (.iand, 1)] [some (.int x0)] [.int (x0 &&& (7 : Int32))] (by decide +kernel) rfl ?_
  exact i_ri (by decide +kernel) rfl

/-! 15 LanternChess$Field.hasCell(II)Z -/
noncomputable def d_15 (a0 : Nat) (x1 : Int32) (x2 : Int32) (m : Mm) : Option Bool := if x1 < 0 then (some false) else (if (m a0 1) ≤ x1 then (some false) else (if x2 < 0 then (some false) else (if (m a0 2) ≤ x2 then (some false) else (some true))))
theorem t_15 {L nx : Nat} (hN : okn nx) {b z : Nat} {m : Mm} {a0 : Nat} (h0 : ok nx a0 1) {x1 : Int32} {x2 : Int32}  : Im (d_15 a0 x1 x2 m) (kZ L nx m) (ev_dn b z 15 0 [some (.ref a0), some (.int x1), some (.int x2)] [] (nx, mem L nx m)) := by
  unfold d_15
  refine i_bl (pc' := 1) [(.iload_n 1, 1)] [some (.ref a0), some (.int x1), some (.int x2)] [.int x1] (by decide +kernel) rfl ?_
  refine i_if (c := .lt) (off := 27) (t := 28) (pc' := 4) (p := x1 < 0) (by decide +kernel) rfl ?_ ?_
  · refine i_bl (pc' := 29) [(.iconst 0, 1)] [some (.ref a0), some (.int x1), some (.int x2)] [.int 0] (by decide +kernel) rfl ?_
    exact i_rz (B := false) (by decide +kernel) rfl
  · refine i_bl (pc' := 6) [(.iload_n 1, 1), (.aload_n 0, 1)] [some (.ref a0), some (.int x1), some (.int x2)] [.ref a0, .int x1] (by decide +kernel) rfl ?_
    refine i_gf (idx := 15) (ci := 1) (k := 1) (t := 0) (p := 11099) (pc' := 9) (by decide +kernel) h0 ?_
    refine i_ic (c := .ge) (off := 19) (t := 28) (pc' := 12) (p := (m a0 1) ≤ x1) (by decide +kernel) rfl ?_ ?_
    · refine i_bl (pc' := 29) [(.iconst 0, 1)] [some (.ref a0), some (.int x1), some (.int x2)] [.int 0] (by decide +kernel) rfl ?_
      exact i_rz (B := false) (by decide +kernel) rfl
    · refine i_bl (pc' := 13) [(.iload_n 2, 1)] [some (.ref a0), some (.int x1), some (.int x2)] [.int x2] (by decide +kernel) rfl ?_
      refine i_if (c := .lt) (off := 15) (t := 28) (pc' := 16) (p := x2 < 0) (by decide +kernel) rfl ?_ ?_
      · refine i_bl (pc' := 29) [(.iconst 0, 1)] [some (.ref a0), some (.int x1), some (.int x2)] [.int 0] (by decide +kernel) rfl ?_
        exact i_rz (B := false) (by decide +kernel) rfl
      · refine i_bl (pc' := 18) [(.iload_n 2, 1), (.aload_n 0, 1)] [some (.ref a0), some (.int x1), some (.int x2)] [.ref a0, .int x2] (by decide +kernel) rfl ?_
        refine i_gf (idx := 19) (ci := 1) (k := 2) (t := 0) (p := 11102) (pc' := 21) (by decide +kernel) h0 ?_
        refine i_ic (c := .ge) (off := 7) (t := 28) (pc' := 24) (p := (m a0 2) ≤ x2) (by decide +kernel) rfl ?_ ?_
        · refine i_bl (pc' := 29) [(.iconst 0, 1)] [some (.ref a0), some (.int x1), some (.int x2)] [.int 0] (by decide +kernel) rfl ?_
          exact i_rz (B := false) (by decide +kernel) rfl
        · refine i_bl (pc' := 25) [(.iconst 1, 1)] [some (.ref a0), some (.int x1), some (.int x2)] [.int 1] (by decide +kernel) rfl ?_
          refine i_go (t := 29) (off := 4) (by decide +kernel) ?_
          exact i_rz (B := true) (by decide +kernel) rfl

/-! 188 java/lang/Integer.signum(I)I -/
noncomputable def d_188 (x0 : Int32) : Option Int32 := some ((x0 >>> ((31 : Int32) &&& (31 : Int32))) ||| (((-x0).toUInt32 >>> ((31 : Int32).toUInt32 &&& Int32.toUInt32 31)).toInt32))
theorem t_188 {L nx : Nat} (hN : okn nx) {b z : Nat} {m : Mm}  {x0 : Int32}  : Im (d_188 x0) (kI L nx m) (ev_dn b z 188 0 [some (.int x0)] [] (nx, mem L nx m)) := by
  unfold d_188
  refine i_bl (pc' := 10) [(.iload_n 0, 1), (.bipush (31), 2), (.ishr, 1), (.iload_n 0, 1), (.ineg, 1), (.bipush (31), 2), (.iushr, 1), (.ior, 1)] [some (.int x0)] [.int ((x0 >>> ((31 : Int32) &&& (31 : Int32))) ||| (((-x0).toUInt32 >>> ((31 : Int32).toUInt32 &&& Int32.toUInt32 31)).toInt32))] (by decide +kernel) rfl ?_
  exact i_ri (by decide +kernel) rfl

/-! 23 LanternChess$Field.isClear(III)Z -/
noncomputable def E_23_6 (L nx b z : Nat) (a0 : Nat) (x2 : Int32) (x3 : Int32) (m : Mm) (d : Option Value) (s : (Int32 × Int32)) : ev_Q := ev_dn b z 23 6 [some (.ref a0), d, some (.int x2), some (.int x3), some (.int s.1), some (.int s.2)] [] (nx, mem L nx m)
noncomputable def s_23_6 (a0 : Nat) (x2 : Int32) (x3 : Int32) (m : Mm) (x4 : Int32) (x5 : Int32) : Option ((Int32 × Int32) ⊕ Bool) := if x3 ≤ x5 then (some (.inr true)) else (wb (x4 + x2) fun y1 => if y1 < 0 then (some (.inr false)) else (if 64 ≤ y1 then (some (.inr false)) else (if ev_in y1 (sh_n (sh_r a0 0)) = true then (if (m (sh_r a0 0) (ix y1)) = (-1) then (wb (x5 + 1) fun y2 => some (.inl (y1, y2))) else (some (.inr false))) else none)))
noncomputable def d_23_6 (a0 : Nat) (x2 : Int32) (x3 : Int32) (m : Mm) (x4 : Int32) (x5 : Int32) : Option Bool := it (fun s => s_23_6 a0 x2 x3 m s.1 s.2) (x4, x5)
theorem e_23_6 (a0 : Nat) (x2 : Int32) (x3 : Int32) (m : Mm) (x4 : Int32) (x5 : Int32) : d_23_6 a0 x2 x3 m x4 x5 = oi (s_23_6 a0 x2 x3 m x4 x5) (fun s => d_23_6 a0 x2 x3 m s.1 s.2) := it_eq _
theorem u_23_6 {L nx : Nat} (hN : okn nx) {b z : Nat} {m : Mm} {a0 : Nat} (h0 : ok nx a0 1) {x2 : Int32} {x3 : Int32} {x4 : Int32} {x5 : Int32} {o1 : Option Value} : Im (s_23_6 a0 x2 x3 m x4 x5) (kL (kZ L nx m) (E_23_6 L nx b z a0 x2 x3 m)) (ev_dn b z 23 6 [some (.ref a0), o1, some (.int x2), some (.int x3), some (.int x4), some (.int x5)] [] (nx, mem L nx m)) := by
  unfold s_23_6
  refine i_bl (pc' := 9) [(.iload 5, 2), (.iload_n 3, 1)] [some (.ref a0), o1, some (.int x2), some (.int x3), some (.int x4), some (.int x5)] [.int x3, .int x5] (by decide +kernel) rfl ?_
  refine i_ic (c := .ge) (off := 40) (t := 49) (pc' := 12) (p := x3 ≤ x5) (by decide +kernel) rfl ?_ ?_
  · refine i_bl (pc' := 50) [(.iconst 1, 1)] [some (.ref a0), o1, some (.int x2), some (.int x3), some (.int x4), some (.int x5)] [.int 1] (by decide +kernel) rfl ?_
    exact i_ir (i_rz (B := true) (by decide +kernel) rfl)
  · refine i_bl (pc' := 18) [(.iload 4, 2), (.iload_n 2, 1), (.iadd, 1), (.istore 4, 2)] [some (.ref a0), o1, some (.int x2), some (.int x3), some (.int (x4 + x2)), some (.int x5)] [] (by decide +kernel) rfl ?_
    refine i_wb (fun y1 => ev_dn b z 23 18 [some (.ref a0), o1, some (.int x2), some (.int x3), some (.int y1), some (.int x5)] [] (nx, mem L nx m)) (fun y1 => ?_)
    refine i_bl (pc' := 20) [(.iload 4, 2)] [some (.ref a0), o1, some (.int x2), some (.int x3), some (.int y1), some (.int x5)] [.int y1] (by decide +kernel) rfl ?_
    refine i_if (c := .lt) (off := 21) (t := 41) (pc' := 23) (p := y1 < 0) (by decide +kernel) rfl ?_ ?_
    · refine i_bl (pc' := 42) [(.iconst 0, 1)] [some (.ref a0), o1, some (.int x2), some (.int x3), some (.int y1), some (.int x5)] [.int 0] (by decide +kernel) rfl ?_
      exact i_ir (i_rz (B := false) (by decide +kernel) rfl)
    · refine i_bl (pc' := 27) [(.iload 4, 2), (.bipush (64), 2)] [some (.ref a0), o1, some (.int x2), some (.int x3), some (.int y1), some (.int x5)] [.int 64, .int y1] (by decide +kernel) rfl ?_
      refine i_ic (c := .ge) (off := 14) (t := 41) (pc' := 30) (p := 64 ≤ y1) (by decide +kernel) rfl ?_ ?_
      · refine i_bl (pc' := 42) [(.iconst 0, 1)] [some (.ref a0), o1, some (.int x2), some (.int x3), some (.int y1), some (.int x5)] [.int 0] (by decide +kernel) rfl ?_
        exact i_ir (i_rz (B := false) (by decide +kernel) rfl)
      · refine i_bl (pc' := 31) [(.aload_n 0, 1)] [some (.ref a0), o1, some (.int x2), some (.int x3), some (.int y1), some (.int x5)] [.ref a0] (by decide +kernel) rfl ?_
        refine i_gr (idx := 9) (ci := 1) (k := 0) (t := 2) (p := 11098) (pc' := 34) (by decide +kernel) h0 ?_
        refine i_bl (pc' := 36) [(.iload 4, 2)] [some (.ref a0), o1, some (.int x2), some (.int x3), some (.int y1), some (.int x5)] [.int y1, .ref (sh_r a0 0)] (by decide +kernel) rfl ?_
        refine i_al (pc' := 37) (by decide +kernel) (o_1_0 hN h0) ?_
        refine i_bl (pc' := 38) [(.iconst (-1), 1)] [some (.ref a0), o1, some (.int x2), some (.int x3), some (.int y1), some (.int x5)] [.int (-1), .int (m (sh_r a0 0) (ix y1))] (by decide +kernel) rfl ?_
        refine i_ic (c := .eq) (off := 5) (t := 43) (pc' := 41) (p := (m (sh_r a0 0) (ix y1)) = (-1)) (by decide +kernel) rfl ?_ ?_
        · refine i_bl (pc' := 46) [(.iinc 5 (1), 3)] [some (.ref a0), o1, some (.int x2), some (.int x3), some (.int y1), some (.int (x5 + 1))] [] (by decide +kernel) rfl ?_
          refine i_wb (fun y2 => ev_dn b z 23 46 [some (.ref a0), o1, some (.int x2), some (.int x3), some (.int y1), some (.int y2)] [] (nx, mem L nx m)) (fun y2 => ?_)
          refine i_go (t := 6) (off := -40) (by decide +kernel) ?_
          exact i_co (o1) rfl
        · refine i_bl (pc' := 42) [(.iconst 0, 1)] [some (.ref a0), o1, some (.int x2), some (.int x3), some (.int y1), some (.int x5)] [.int 0] (by decide +kernel) rfl ?_
          exact i_ir (i_rz (B := false) (by decide +kernel) rfl)

theorem t_23_6 {L nx : Nat} (hN : okn nx) {b z : Nat} {m : Mm} {a0 : Nat} (h0 : ok nx a0 1) {x2 : Int32} {x3 : Int32} {x4 : Int32} {x5 : Int32} {o1 : Option Value} : Im (d_23_6 a0 x2 x3 m x4 x5) (kZ L nx m) (ev_dn b z 23 6 [some (.ref a0), o1, some (.int x2), some (.int x3), some (.int x4), some (.int x5)] [] (nx, mem L nx m)) := by
  exact i_it (f := fun s => s_23_6 a0 x2 x3 m s.1 s.2) (E := E_23_6 L nx b z a0 x2 x3 m) (K := (kZ L nx m)) (fun d s => u_23_6 hN (h0 := h0)) (o1) (x4, x5)
noncomputable def d_23 (a0 : Nat) (x1 : Int32) (x2 : Int32) (x3 : Int32) (m : Mm) : Option Bool := d_23_6 a0 x2 x3 m x1 1
theorem t_23 {L nx : Nat} (hN : okn nx) {b z : Nat} {m : Mm} {a0 : Nat} (h0 : ok nx a0 1) {x1 : Int32} {x2 : Int32} {x3 : Int32}  : Im (d_23 a0 x1 x2 x3 m) (kZ L nx m) (ev_dn b z 23 0 [some (.ref a0), some (.int x1), some (.int x2), some (.int x3), none, none] [] (nx, mem L nx m)) := by
  unfold d_23
  refine i_bl (pc' := 6) [(.iload_n 1, 1), (.istore 4, 2), (.iconst 1, 1), (.istore 5, 2)] [some (.ref a0), some (.int x1), some (.int x2), some (.int x3), some (.int x1), some (.int 1)] [] (by decide +kernel) rfl ?_
  exact t_23_6 hN (h0 := h0)

/-! 22 LanternChess$Field.reaches(IIIZ)Z -/
noncomputable def d_22_158 (a0 : Nat) (x2 : Int32) (x9 : Int32) (x12 : Int32) (m : Mm) : Option Bool := (d_23 a0 x2 x12 x9 m).bind fun v13 => if v13 = true then (some true) else (some false)
theorem t_22_158 {L nx : Nat} (hN : okn nx) {b z : Nat} {m : Mm} {a0 : Nat} (h0 : ok nx a0 1) {x2 : Int32} {x9 : Int32} {x12 : Int32} {o1 : Option Value} {o3 : Option Value} {o4 : Option Value} {o5 : Option Value} {o6 : Option Value} {o7 : Option Value} {o8 : Option Value} {o10 : Option Value} {o11 : Option Value} : Im (d_22_158 a0 x2 x9 x12 m) (kZ L nx m) (ev_dn b z 22 158 [some (.ref a0), o1, some (.int x2), o3, o4, o5, o6, o7, o8, some (.int x9), o10, o11, some (.int x12)] [] (nx, mem L nx m)) := by
  unfold d_22_158
  refine i_bl (pc' := 164) [(.aload_n 0, 1), (.iload_n 2, 1), (.iload 12, 2), (.iload 9, 2)] [some (.ref a0), o1, some (.int x2), o3, o4, o5, o6, o7, o8, some (.int x9), o10, o11, some (.int x12)] [.int x9, .int x12, .int x2, .ref a0] (by decide +kernel) rfl ?_
  refine i_cv (ci := 1) (t := 23) (na := 4) (ml := 6) (idx := 72) (pc' := 167) (st' := []) (en := [some (.ref a0), some (.int x2), some (.int x12), some (.int x9), none, none]) (av := [.int x2, .int x12, .int x9]) (vo := fun v => some (.int (bi v))) (mo := fun _ => m) (s2 := fun v => .int (bi v) :: []) (by decide +kernel) (by decide +kernel) h0 ⟨rfl, rfl, rfl, rfl, rfl, rfl⟩ (fun _ => rfl) (t_23 hN (h0 := h0)) (fun v13 => ?_)
  refine i_bz (off := 7) (t := 174) (pc' := 170) (by decide +kernel) ?_ ?_
  · refine i_bl (pc' := 171) [(.iconst 1, 1)] [some (.ref a0), o1, some (.int x2), o3, o4, o5, o6, o7, o8, some (.int x9), o10, o11, some (.int x12)] [.int 1] (by decide +kernel) rfl ?_
    refine i_go (t := 175) (off := 4) (by decide +kernel) ?_
    exact i_rz (B := true) (by decide +kernel) rfl
  · refine i_bl (pc' := 175) [(.iconst 0, 1)] [some (.ref a0), o1, some (.int x2), o3, o4, o5, o6, o7, o8, some (.int x9), o10, o11, some (.int x12)] [.int 0] (by decide +kernel) rfl ?_
    exact i_rz (B := false) (by decide +kernel) rfl

noncomputable def d_22_265 (s0 : Int32) (s1 : Bool) (m : Mm) : Option Bool := if ¬ s0 = (bi s1) then (some false) else (some true)
theorem t_22_265 {L nx : Nat} (hN : okn nx) {b z : Nat} {m : Mm}  {s0 : Int32} {s1 : Bool} {o0 : Option Value} {o1 : Option Value} {o2 : Option Value} {o3 : Option Value} {o4 : Option Value} {o5 : Option Value} {o6 : Option Value} {o7 : Option Value} {o8 : Option Value} {o9 : Option Value} {o10 : Option Value} {o11 : Option Value} {o12 : Option Value} : Im (d_22_265 s0 s1 m) (kZ L nx m) (ev_dn b z 22 265 [o0, o1, o2, o3, o4, o5, o6, o7, o8, o9, o10, o11, o12] [.int (bi s1), .int s0] (nx, mem L nx m)) := by
  unfold d_22_265
  refine i_ic (c := .ne) (off := 7) (t := 272) (pc' := 268) (p := ¬ s0 = (bi s1)) (by decide +kernel) rfl ?_ ?_
  · refine i_bl (pc' := 273) [(.iconst 0, 1)] [o0, o1, o2, o3, o4, o5, o6, o7, o8, o9, o10, o11, o12] [.int 0] (by decide +kernel) rfl ?_
    exact i_rz (B := false) (by decide +kernel) rfl
  · refine i_bl (pc' := 269) [(.iconst 1, 1)] [o0, o1, o2, o3, o4, o5, o6, o7, o8, o9, o10, o11, o12] [.int 1] (by decide +kernel) rfl ?_
    refine i_go (t := 273) (off := 4) (by decide +kernel) ?_
    exact i_rz (B := true) (by decide +kernel) rfl

noncomputable def d_22_250 (x4 : Bool) (x7 : Int32) (s0 : Int32) (s1 : Int32) (m : Mm) : Option Bool := if ¬ s0 = s1 then (some false) else (if x4 = true then (d_22_265 x7 true m) else (d_22_265 x7 false m))
theorem t_22_250 {L nx : Nat} (hN : okn nx) {b z : Nat} {m : Mm}  {x4 : Bool} {x7 : Int32} {s0 : Int32} {s1 : Int32} {o0 : Option Value} {o1 : Option Value} {o2 : Option Value} {o3 : Option Value} {o5 : Option Value} {o6 : Option Value} {o8 : Option Value} {o9 : Option Value} {o10 : Option Value} {o11 : Option Value} {o12 : Option Value} : Im (d_22_250 x4 x7 s0 s1 m) (kZ L nx m) (ev_dn b z 22 250 [o0, o1, o2, o3, some (.int (bi x4)), o5, o6, some (.int x7), o8, o9, o10, o11, o12] [.int s1, .int s0] (nx, mem L nx m)) := by
  unfold d_22_250
  refine i_ic (c := .ne) (off := 22) (t := 272) (pc' := 253) (p := ¬ s0 = s1) (by decide +kernel) rfl ?_ ?_
  · refine i_bl (pc' := 273) [(.iconst 0, 1)] [o0, o1, o2, o3, some (.int (bi x4)), o5, o6, some (.int x7), o8, o9, o10, o11, o12] [.int 0] (by decide +kernel) rfl ?_
    exact i_rz (B := false) (by decide +kernel) rfl
  · refine i_bl (pc' := 257) [(.iload 7, 2), (.iload 4, 2)] [o0, o1, o2, o3, some (.int (bi x4)), o5, o6, some (.int x7), o8, o9, o10, o11, o12] [.int (bi x4), .int x7] (by decide +kernel) rfl ?_
    refine i_bz (off := 7) (t := 264) (pc' := 260) (by decide +kernel) ?_ ?_
    · refine i_bl (pc' := 261) [(.iconst 1, 1)] [o0, o1, o2, o3, some (.int (bi x4)), o5, o6, some (.int x7), o8, o9, o10, o11, o12] [.int 1, .int x7] (by decide +kernel) rfl ?_
      refine i_go (t := 265) (off := 4) (by decide +kernel) ?_
      exact t_22_265 hN 
    · refine i_bl (pc' := 265) [(.iconst 0, 1)] [o0, o1, o2, o3, some (.int (bi x4)), o5, o6, some (.int x7), o8, o9, o10, o11, o12] [.int 0, .int x7] (by decide +kernel) rfl ?_
      exact t_22_265 hN 

noncomputable def d_22_74 (a0 : Nat) (x1 : Int32) (x2 : Int32) (x4 : Bool) (x5 : Int32) (x6 : Int32) (x7 : Int32) (x8 : Int32) (x9 : Int32) (x10 : Bool) (s0 : Bool) (m : Mm) : Option Bool := (d_188 x5).bind fun v10 => (d_188 x6).bind fun v11 => wb (v10 + (8 * v11)) fun y12 => if ¬ x9 = 0 then ((if (x1 - x1 / 6 * 6) = 0 then (if ¬ x9 = 1 then (some false) else (some true)) else if (x1 - x1 / 6 * 6) = 1 then (if x10 = true then (d_22_158 a0 x2 x9 y12 m) else (if s0 = true then (d_22_158 a0 x2 x9 y12 m) else (some false))) else if (x1 - x1 / 6 * 6) = 2 then (if x10 = true then ((d_23 a0 x2 y12 x9 m).bind fun v14 => if v14 = true then (some true) else (some false)) else (some false)) else if (x1 - x1 / 6 * 6) = 3 then (if s0 = true then ((d_23 a0 x2 y12 x9 m).bind fun v15 => if v15 = true then (some true) else (some false)) else (some false)) else if (x1 - x1 / 6 * 6) = 4 then (if ¬ (x7 * x8) = 2 then (some false) else (some true)) else (if 6 ≤ x1 then (d_22_250 x4 x7 x6 (-1) m) else (d_22_250 x4 x7 x6 1 m)))) else (some false)
theorem t_22_74 {L nx : Nat} (hN : okn nx) {b z : Nat} {m : Mm} {a0 : Nat} (h0 : ok nx a0 1) {x1 : Int32} {x2 : Int32} {x4 : Bool} {x5 : Int32} {x6 : Int32} {x7 : Int32} {x8 : Int32} {x9 : Int32} {x10 : Bool} {s0 : Bool} {o3 : Option Value} : Im (d_22_74 a0 x1 x2 x4 x5 x6 x7 x8 x9 x10 s0 m) (kZ L nx m) (ev_dn b z 22 74 [some (.ref a0), some (.int x1), some (.int x2), o3, some (.int (bi x4)), some (.int x5), some (.int x6), some (.int x7), some (.int x8), some (.int x9), some (.int (bi x10)), none, none] [.int (bi s0)] (nx, mem L nx m)) := by
  unfold d_22_74
  refine i_bl (pc' := 78) [(.istore 11, 2), (.iload 5, 2)] [some (.ref a0), some (.int x1), some (.int x2), o3, some (.int (bi x4)), some (.int x5), some (.int x6), some (.int x7), some (.int x8), some (.int x9), some (.int (bi x10)), some (.int (bi s0)), none] [.int x5] (by decide +kernel) rfl ?_
  refine i_cs (t := 188) (na := 1) (ml := 1) (idx := 67) (pc' := 81) (st' := []) (en := [some (.int x5)]) (av := [.int x5]) (vo := fun v => some (.int v)) (mo := fun _ => m) (s2 := fun v => .int v :: []) (by decide +kernel) ⟨rfl, rfl, rfl, rfl, rfl, rfl⟩ (fun _ => rfl) (t_188 hN ) (fun v10 => ?_)
  refine i_bl (pc' := 85) [(.bipush (8), 2), (.iload 6, 2)] [some (.ref a0), some (.int x1), some (.int x2), o3, some (.int (bi x4)), some (.int x5), some (.int x6), some (.int x7), some (.int x8), some (.int x9), some (.int (bi x10)), some (.int (bi s0)), none] [.int x6, .int 8, .int v10] (by decide +kernel) rfl ?_
  refine i_cs (t := 188) (na := 1) (ml := 1) (idx := 67) (pc' := 88) (st' := [.int 8, .int v10]) (en := [some (.int x6)]) (av := [.int x6]) (vo := fun v => some (.int v)) (mo := fun _ => m) (s2 := fun v => .int v :: [.int 8, .int v10]) (by decide +kernel) ⟨rfl, rfl, rfl, rfl, rfl, rfl⟩ (fun _ => rfl) (t_188 hN ) (fun v11 => ?_)
  refine i_bl (pc' := 92) [(.imul, 1), (.iadd, 1), (.istore 12, 2)] [some (.ref a0), some (.int x1), some (.int x2), o3, some (.int (bi x4)), some (.int x5), some (.int x6), some (.int x7), some (.int x8), some (.int x9), some (.int (bi x10)), some (.int (bi s0)), some (.int (v10 + (8 * v11)))] [] (by decide +kernel) rfl ?_
  refine i_wb (fun y12 => ev_dn b z 22 92 [some (.ref a0), some (.int x1), some (.int x2), o3, some (.int (bi x4)), some (.int x5), some (.int x6), some (.int x7), some (.int x8), some (.int x9), some (.int (bi x10)), some (.int (bi s0)), some (.int y12)] [] (nx, mem L nx m)) (fun y12 => ?_)
  refine i_bl (pc' := 94) [(.iload 9, 2)] [some (.ref a0), some (.int x1), some (.int x2), o3, some (.int (bi x4)), some (.int x5), some (.int x6), some (.int x7), some (.int x8), some (.int x9), some (.int (bi x10)), some (.int (bi s0)), some (.int y12)] [.int x9] (by decide +kernel) rfl ?_
  refine i_if (c := .ne) (off := 5) (t := 99) (pc' := 97) (p := ¬ x9 = 0) (by decide +kernel) rfl ?_ ?_
  · refine i_bl (pc' := 102) [(.iload_n 1, 1), (.bipush (6), 2)] [some (.ref a0), some (.int x1), some (.int x2), o3, some (.int (bi x4)), some (.int x5), some (.int x6), some (.int x7), some (.int x8), some (.int x9), some (.int (bi x10)), some (.int (bi s0)), some (.int y12)] [.int 6, .int x1] (by decide +kernel) rfl ?_
    refine i_rem0 (pc' := 103) (by decide +kernel) (by decide) ?_
    refine i_sw (n := 33) (dd := (134)) (lo0 := (0)) (hi0 := (4)) (offs := #[(33), (45), (73), (96), (119)]) (d := 237) (ts := [136, 148, 176, 199, 222]) (cs := [(0, 136), (1, 148), (2, 176), (3, 199), (4, 222)]) (by decide +kernel) ?_
    refine i_sc (c := 0) (by decide +kernel) ?_ ?_
    · refine i_bl (pc' := 139) [(.iload 9, 2), (.iconst 1, 1)] [some (.ref a0), some (.int x1), some (.int x2), o3, some (.int (bi x4)), some (.int x5), some (.int x6), some (.int x7), some (.int x8), some (.int x9), some (.int (bi x10)), some (.int (bi s0)), some (.int y12)] [.int 1, .int x9] (by decide +kernel) rfl ?_
      refine i_ic (c := .ne) (off := 7) (t := 146) (pc' := 142) (p := ¬ x9 = 1) (by decide +kernel) rfl ?_ ?_
      · refine i_bl (pc' := 147) [(.iconst 0, 1)] [some (.ref a0), some (.int x1), some (.int x2), o3, some (.int (bi x4)), some (.int x5), some (.int x6), some (.int x7), some (.int x8), some (.int x9), some (.int (bi x10)), some (.int (bi s0)), some (.int y12)] [.int 0] (by decide +kernel) rfl ?_
        exact i_rz (B := false) (by decide +kernel) rfl
      · refine i_bl (pc' := 143) [(.iconst 1, 1)] [some (.ref a0), some (.int x1), some (.int x2), o3, some (.int (bi x4)), some (.int x5), some (.int x6), some (.int x7), some (.int x8), some (.int x9), some (.int (bi x10)), some (.int (bi s0)), some (.int y12)] [.int 1] (by decide +kernel) rfl ?_
        refine i_go (t := 147) (off := 4) (by decide +kernel) ?_
        exact i_rz (B := true) (by decide +kernel) rfl
    refine i_sc (c := 1) (by decide +kernel) ?_ ?_
    · refine i_bl (pc' := 150) [(.iload 10, 2)] [some (.ref a0), some (.int x1), some (.int x2), o3, some (.int (bi x4)), some (.int x5), some (.int x6), some (.int x7), some (.int x8), some (.int x9), some (.int (bi x10)), some (.int (bi s0)), some (.int y12)] [.int (bi x10)] (by decide +kernel) rfl ?_
      refine i_bn (off := 8) (t := 158) (pc' := 153) (by decide +kernel) ?_ ?_
      · exact t_22_158 hN (h0 := h0)
      · refine i_bl (pc' := 155) [(.iload 11, 2)] [some (.ref a0), some (.int x1), some (.int x2), o3, some (.int (bi x4)), some (.int x5), some (.int x6), some (.int x7), some (.int x8), some (.int x9), some (.int (bi x10)), some (.int (bi s0)), some (.int y12)] [.int (bi s0)] (by decide +kernel) rfl ?_
        refine i_bz (off := 19) (t := 174) (pc' := 158) (by decide +kernel) ?_ ?_
        · exact t_22_158 hN (h0 := h0)
        · refine i_bl (pc' := 175) [(.iconst 0, 1)] [some (.ref a0), some (.int x1), some (.int x2), o3, some (.int (bi x4)), some (.int x5), some (.int x6), some (.int x7), some (.int x8), some (.int x9), some (.int (bi x10)), some (.int (bi s0)), some (.int y12)] [.int 0] (by decide +kernel) rfl ?_
          exact i_rz (B := false) (by decide +kernel) rfl
    refine i_sc (c := 2) (by decide +kernel) ?_ ?_
    · refine i_bl (pc' := 178) [(.iload 10, 2)] [some (.ref a0), some (.int x1), some (.int x2), o3, some (.int (bi x4)), some (.int x5), some (.int x6), some (.int x7), some (.int x8), some (.int x9), some (.int (bi x10)), some (.int (bi s0)), some (.int y12)] [.int (bi x10)] (by decide +kernel) rfl ?_
      refine i_bz (off := 19) (t := 197) (pc' := 181) (by decide +kernel) ?_ ?_
      · refine i_bl (pc' := 187) [(.aload_n 0, 1), (.iload_n 2, 1), (.iload 12, 2), (.iload 9, 2)] [some (.ref a0), some (.int x1), some (.int x2), o3, some (.int (bi x4)), some (.int x5), some (.int x6), some (.int x7), some (.int x8), some (.int x9), some (.int (bi x10)), some (.int (bi s0)), some (.int y12)] [.int x9, .int y12, .int x2, .ref a0] (by decide +kernel) rfl ?_
        refine i_cv (ci := 1) (t := 23) (na := 4) (ml := 6) (idx := 72) (pc' := 190) (st' := []) (en := [some (.ref a0), some (.int x2), some (.int y12), some (.int x9), none, none]) (av := [.int x2, .int y12, .int x9]) (vo := fun v => some (.int (bi v))) (mo := fun _ => m) (s2 := fun v => .int (bi v) :: []) (by decide +kernel) (by decide +kernel) h0 ⟨rfl, rfl, rfl, rfl, rfl, rfl⟩ (fun _ => rfl) (t_23 hN (h0 := h0)) (fun v14 => ?_)
        refine i_bz (off := 7) (t := 197) (pc' := 193) (by decide +kernel) ?_ ?_
        · refine i_bl (pc' := 194) [(.iconst 1, 1)] [some (.ref a0), some (.int x1), some (.int x2), o3, some (.int (bi x4)), some (.int x5), some (.int x6), some (.int x7), some (.int x8), some (.int x9), some (.int (bi x10)), some (.int (bi s0)), some (.int y12)] [.int 1] (by decide +kernel) rfl ?_
          refine i_go (t := 198) (off := 4) (by decide +kernel) ?_
          exact i_rz (B := true) (by decide +kernel) rfl
        · refine i_bl (pc' := 198) [(.iconst 0, 1)] [some (.ref a0), some (.int x1), some (.int x2), o3, some (.int (bi x4)), some (.int x5), some (.int x6), some (.int x7), some (.int x8), some (.int x9), some (.int (bi x10)), some (.int (bi s0)), some (.int y12)] [.int 0] (by decide +kernel) rfl ?_
          exact i_rz (B := false) (by decide +kernel) rfl
      · refine i_bl (pc' := 198) [(.iconst 0, 1)] [some (.ref a0), some (.int x1), some (.int x2), o3, some (.int (bi x4)), some (.int x5), some (.int x6), some (.int x7), some (.int x8), some (.int x9), some (.int (bi x10)), some (.int (bi s0)), some (.int y12)] [.int 0] (by decide +kernel) rfl ?_
        exact i_rz (B := false) (by decide +kernel) rfl
    refine i_sc (c := 3) (by decide +kernel) ?_ ?_
    · refine i_bl (pc' := 201) [(.iload 11, 2)] [some (.ref a0), some (.int x1), some (.int x2), o3, some (.int (bi x4)), some (.int x5), some (.int x6), some (.int x7), some (.int x8), some (.int x9), some (.int (bi x10)), some (.int (bi s0)), some (.int y12)] [.int (bi s0)] (by decide +kernel) rfl ?_
      refine i_bz (off := 19) (t := 220) (pc' := 204) (by decide +kernel) ?_ ?_
      · refine i_bl (pc' := 210) [(.aload_n 0, 1), (.iload_n 2, 1), (.iload 12, 2), (.iload 9, 2)] [some (.ref a0), some (.int x1), some (.int x2), o3, some (.int (bi x4)), some (.int x5), some (.int x6), some (.int x7), some (.int x8), some (.int x9), some (.int (bi x10)), some (.int (bi s0)), some (.int y12)] [.int x9, .int y12, .int x2, .ref a0] (by decide +kernel) rfl ?_
        refine i_cv (ci := 1) (t := 23) (na := 4) (ml := 6) (idx := 72) (pc' := 213) (st' := []) (en := [some (.ref a0), some (.int x2), some (.int y12), some (.int x9), none, none]) (av := [.int x2, .int y12, .int x9]) (vo := fun v => some (.int (bi v))) (mo := fun _ => m) (s2 := fun v => .int (bi v) :: []) (by decide +kernel) (by decide +kernel) h0 ⟨rfl, rfl, rfl, rfl, rfl, rfl⟩ (fun _ => rfl) (t_23 hN (h0 := h0)) (fun v15 => ?_)
        refine i_bz (off := 7) (t := 220) (pc' := 216) (by decide +kernel) ?_ ?_
        · refine i_bl (pc' := 217) [(.iconst 1, 1)] [some (.ref a0), some (.int x1), some (.int x2), o3, some (.int (bi x4)), some (.int x5), some (.int x6), some (.int x7), some (.int x8), some (.int x9), some (.int (bi x10)), some (.int (bi s0)), some (.int y12)] [.int 1] (by decide +kernel) rfl ?_
          refine i_go (t := 221) (off := 4) (by decide +kernel) ?_
          exact i_rz (B := true) (by decide +kernel) rfl
        · refine i_bl (pc' := 221) [(.iconst 0, 1)] [some (.ref a0), some (.int x1), some (.int x2), o3, some (.int (bi x4)), some (.int x5), some (.int x6), some (.int x7), some (.int x8), some (.int x9), some (.int (bi x10)), some (.int (bi s0)), some (.int y12)] [.int 0] (by decide +kernel) rfl ?_
          exact i_rz (B := false) (by decide +kernel) rfl
      · refine i_bl (pc' := 221) [(.iconst 0, 1)] [some (.ref a0), some (.int x1), some (.int x2), o3, some (.int (bi x4)), some (.int x5), some (.int x6), some (.int x7), some (.int x8), some (.int x9), some (.int (bi x10)), some (.int (bi s0)), some (.int y12)] [.int 0] (by decide +kernel) rfl ?_
        exact i_rz (B := false) (by decide +kernel) rfl
    refine i_sc (c := 4) (by decide +kernel) ?_ ?_
    · refine i_bl (pc' := 228) [(.iload 7, 2), (.iload 8, 2), (.imul, 1), (.iconst 2, 1)] [some (.ref a0), some (.int x1), some (.int x2), o3, some (.int (bi x4)), some (.int x5), some (.int x6), some (.int x7), some (.int x8), some (.int x9), some (.int (bi x10)), some (.int (bi s0)), some (.int y12)] [.int 2, .int (x7 * x8)] (by decide +kernel) rfl ?_
      refine i_ic (c := .ne) (off := 7) (t := 235) (pc' := 231) (p := ¬ (x7 * x8) = 2) (by decide +kernel) rfl ?_ ?_
      · refine i_bl (pc' := 236) [(.iconst 0, 1)] [some (.ref a0), some (.int x1), some (.int x2), o3, some (.int (bi x4)), some (.int x5), some (.int x6), some (.int x7), some (.int x8), some (.int x9), some (.int (bi x10)), some (.int (bi s0)), some (.int y12)] [.int 0] (by decide +kernel) rfl ?_
        exact i_rz (B := false) (by decide +kernel) rfl
      · refine i_bl (pc' := 232) [(.iconst 1, 1)] [some (.ref a0), some (.int x1), some (.int x2), o3, some (.int (bi x4)), some (.int x5), some (.int x6), some (.int x7), some (.int x8), some (.int x9), some (.int (bi x10)), some (.int (bi s0)), some (.int y12)] [.int 1] (by decide +kernel) rfl ?_
        refine i_go (t := 236) (off := 4) (by decide +kernel) ?_
        exact i_rz (B := true) (by decide +kernel) rfl
    refine i_s0 ?_
    refine i_bl (pc' := 242) [(.iload 6, 2), (.iload_n 1, 1), (.bipush (6), 2)] [some (.ref a0), some (.int x1), some (.int x2), o3, some (.int (bi x4)), some (.int x5), some (.int x6), some (.int x7), some (.int x8), some (.int x9), some (.int (bi x10)), some (.int (bi s0)), some (.int y12)] [.int 6, .int x1, .int x6] (by decide +kernel) rfl ?_
    refine i_ic (c := .ge) (off := 7) (t := 249) (pc' := 245) (p := 6 ≤ x1) (by decide +kernel) rfl ?_ ?_
    · refine i_bl (pc' := 250) [(.iconst (-1), 1)] [some (.ref a0), some (.int x1), some (.int x2), o3, some (.int (bi x4)), some (.int x5), some (.int x6), some (.int x7), some (.int x8), some (.int x9), some (.int (bi x10)), some (.int (bi s0)), some (.int y12)] [.int (-1), .int x6] (by decide +kernel) rfl ?_
      exact t_22_250 hN 
    · refine i_bl (pc' := 246) [(.iconst 1, 1)] [some (.ref a0), some (.int x1), some (.int x2), o3, some (.int (bi x4)), some (.int x5), some (.int x6), some (.int x7), some (.int x8), some (.int x9), some (.int (bi x10)), some (.int (bi s0)), some (.int y12)] [.int 1, .int x6] (by decide +kernel) rfl ?_
      refine i_go (t := 250) (off := 4) (by decide +kernel) ?_
      exact t_22_250 hN 
  · refine i_bl (pc' := 98) [(.iconst 0, 1)] [some (.ref a0), some (.int x1), some (.int x2), o3, some (.int (bi x4)), some (.int x5), some (.int x6), some (.int x7), some (.int x8), some (.int x9), some (.int (bi x10)), some (.int (bi s0)), some (.int y12)] [.int 0] (by decide +kernel) rfl ?_
    exact i_rz (B := false) (by decide +kernel) rfl

noncomputable def d_22_60 (a0 : Nat) (x1 : Int32) (x2 : Int32) (x4 : Bool) (x5 : Int32) (x6 : Int32) (x7 : Int32) (x8 : Int32) (x9 : Int32) (s0 : Bool) (m : Mm) : Option Bool := if ¬ x7 = x8 then (d_22_74 a0 x1 x2 x4 x5 x6 x7 x8 x9 s0 false m) else (d_22_74 a0 x1 x2 x4 x5 x6 x7 x8 x9 s0 true m)
theorem t_22_60 {L nx : Nat} (hN : okn nx) {b z : Nat} {m : Mm} {a0 : Nat} (h0 : ok nx a0 1) {x1 : Int32} {x2 : Int32} {x4 : Bool} {x5 : Int32} {x6 : Int32} {x7 : Int32} {x8 : Int32} {x9 : Int32} {s0 : Bool} {o3 : Option Value} : Im (d_22_60 a0 x1 x2 x4 x5 x6 x7 x8 x9 s0 m) (kZ L nx m) (ev_dn b z 22 60 [some (.ref a0), some (.int x1), some (.int x2), o3, some (.int (bi x4)), some (.int x5), some (.int x6), some (.int x7), some (.int x8), some (.int x9), none, none, none] [.int (bi s0)] (nx, mem L nx m)) := by
  unfold d_22_60
  refine i_bl (pc' := 66) [(.istore 10, 2), (.iload 7, 2), (.iload 8, 2)] [some (.ref a0), some (.int x1), some (.int x2), o3, some (.int (bi x4)), some (.int x5), some (.int x6), some (.int x7), some (.int x8), some (.int x9), some (.int (bi s0)), none, none] [.int x8, .int x7] (by decide +kernel) rfl ?_
  refine i_ic (c := .ne) (off := 7) (t := 73) (pc' := 69) (p := ¬ x7 = x8) (by decide +kernel) rfl ?_ ?_
  · refine i_bl (pc' := 74) [(.iconst 0, 1)] [some (.ref a0), some (.int x1), some (.int x2), o3, some (.int (bi x4)), some (.int x5), some (.int x6), some (.int x7), some (.int x8), some (.int x9), some (.int (bi s0)), none, none] [.int 0] (by decide +kernel) rfl ?_
    exact t_22_74 hN (h0 := h0)
  · refine i_bl (pc' := 70) [(.iconst 1, 1)] [some (.ref a0), some (.int x1), some (.int x2), o3, some (.int (bi x4)), some (.int x5), some (.int x6), some (.int x7), some (.int x8), some (.int x9), some (.int (bi s0)), none, none] [.int 1] (by decide +kernel) rfl ?_
    refine i_go (t := 74) (off := 4) (by decide +kernel) ?_
    exact t_22_74 hN (h0 := h0)

noncomputable def d_22 (a0 : Nat) (x1 : Int32) (x2 : Int32) (x3 : Int32) (x4 : Bool) (m : Mm) : Option Bool := (d_13 x3).bind fun v1 => (d_13 x2).bind fun v2 => wb (v1 - v2) fun y3 => (d_14 x3).bind fun v4 => (d_14 x2).bind fun v5 => wb (v4 - v5) fun y6 => wb (jabs y3) fun y7 => wb (jabs y6) fun y8 => wb (jmax y7 y8) fun y9 => if y7 = 0 then (d_22_60 a0 x1 x2 x4 y3 y6 y7 y8 y9 true m) else (if ¬ y8 = 0 then (d_22_60 a0 x1 x2 x4 y3 y6 y7 y8 y9 false m) else (d_22_60 a0 x1 x2 x4 y3 y6 y7 y8 y9 true m))
theorem t_22 {L nx : Nat} (hN : okn nx) {b z : Nat} {m : Mm} {a0 : Nat} (h0 : ok nx a0 1) {x1 : Int32} {x2 : Int32} {x3 : Int32} {x4 : Bool}  : Im (d_22 a0 x1 x2 x3 x4 m) (kZ L nx m) (ev_dn b z 22 0 [some (.ref a0), some (.int x1), some (.int x2), some (.int x3), some (.int (bi x4)), none, none, none, none, none, none, none, none] [] (nx, mem L nx m)) := by
  unfold d_22
  refine i_bl (pc' := 1) [(.iload_n 3, 1)] [some (.ref a0), some (.int x1), some (.int x2), some (.int x3), some (.int (bi x4)), none, none, none, none, none, none, none, none] [.int x3] (by decide +kernel) rfl ?_
  refine i_cs (t := 13) (na := 1) (ml := 1) (idx := 45) (pc' := 4) (st' := []) (en := [some (.int x3)]) (av := [.int x3]) (vo := fun v => some (.int v)) (mo := fun _ => m) (s2 := fun v => .int v :: []) (by decide +kernel) ⟨rfl, rfl, rfl, rfl, rfl, rfl⟩ (fun _ => rfl) (t_13 hN ) (fun v1 => ?_)
  refine i_bl (pc' := 5) [(.iload_n 2, 1)] [some (.ref a0), some (.int x1), some (.int x2), some (.int x3), some (.int (bi x4)), none, none, none, none, none, none, none, none] [.int x2, .int v1] (by decide +kernel) rfl ?_
  refine i_cs (t := 13) (na := 1) (ml := 1) (idx := 45) (pc' := 8) (st' := [.int v1]) (en := [some (.int x2)]) (av := [.int x2]) (vo := fun v => some (.int v)) (mo := fun _ => m) (s2 := fun v => .int v :: [.int v1]) (by decide +kernel) ⟨rfl, rfl, rfl, rfl, rfl, rfl⟩ (fun _ => rfl) (t_13 hN ) (fun v2 => ?_)
  refine i_bl (pc' := 11) [(.isub, 1), (.istore 5, 2)] [some (.ref a0), some (.int x1), some (.int x2), some (.int x3), some (.int (bi x4)), some (.int (v1 - v2)), none, none, none, none, none, none, none] [] (by decide +kernel) rfl ?_
  refine i_wb (fun y3 => ev_dn b z 22 11 [some (.ref a0), some (.int x1), some (.int x2), some (.int x3), some (.int (bi x4)), some (.int y3), none, none, none, none, none, none, none] [] (nx, mem L nx m)) (fun y3 => ?_)
  refine i_bl (pc' := 12) [(.iload_n 3, 1)] [some (.ref a0), some (.int x1), some (.int x2), some (.int x3), some (.int (bi x4)), some (.int y3), none, none, none, none, none, none, none] [.int x3] (by decide +kernel) rfl ?_
  refine i_cs (t := 14) (na := 1) (ml := 1) (idx := 48) (pc' := 15) (st' := []) (en := [some (.int x3)]) (av := [.int x3]) (vo := fun v => some (.int v)) (mo := fun _ => m) (s2 := fun v => .int v :: []) (by decide +kernel) ⟨rfl, rfl, rfl, rfl, rfl, rfl⟩ (fun _ => rfl) (t_14 hN ) (fun v4 => ?_)
  refine i_bl (pc' := 16) [(.iload_n 2, 1)] [some (.ref a0), some (.int x1), some (.int x2), some (.int x3), some (.int (bi x4)), some (.int y3), none, none, none, none, none, none, none] [.int x2, .int v4] (by decide +kernel) rfl ?_
  refine i_cs (t := 14) (na := 1) (ml := 1) (idx := 48) (pc' := 19) (st' := [.int v4]) (en := [some (.int x2)]) (av := [.int x2]) (vo := fun v => some (.int v)) (mo := fun _ => m) (s2 := fun v => .int v :: [.int v4]) (by decide +kernel) ⟨rfl, rfl, rfl, rfl, rfl, rfl⟩ (fun _ => rfl) (t_14 hN ) (fun v5 => ?_)
  refine i_bl (pc' := 22) [(.isub, 1), (.istore 6, 2)] [some (.ref a0), some (.int x1), some (.int x2), some (.int x3), some (.int (bi x4)), some (.int y3), some (.int (v4 - v5)), none, none, none, none, none, none] [] (by decide +kernel) rfl ?_
  refine i_wb (fun y6 => ev_dn b z 22 22 [some (.ref a0), some (.int x1), some (.int x2), some (.int x3), some (.int (bi x4)), some (.int y3), some (.int y6), none, none, none, none, none, none] [] (nx, mem L nx m)) (fun y6 => ?_)
  refine i_bl (pc' := 24) [(.iload 5, 2)] [some (.ref a0), some (.int x1), some (.int x2), some (.int x3), some (.int (bi x4)), some (.int y3), some (.int y6), none, none, none, none, none, none] [.int y3] (by decide +kernel) rfl ?_
  refine i_abs (x := y3) (idx := 58) (pc' := 27) (by decide +kernel) rfl ?_
  refine i_bl (pc' := 29) [(.istore 7, 2)] [some (.ref a0), some (.int x1), some (.int x2), some (.int x3), some (.int (bi x4)), some (.int y3), some (.int y6), some (.int (jabs y3)), none, none, none, none, none] [] (by decide +kernel) rfl ?_
  refine i_wb (fun y7 => ev_dn b z 22 29 [some (.ref a0), some (.int x1), some (.int x2), some (.int x3), some (.int (bi x4)), some (.int y3), some (.int y6), some (.int y7), none, none, none, none, none] [] (nx, mem L nx m)) (fun y7 => ?_)
  refine i_bl (pc' := 31) [(.iload 6, 2)] [some (.ref a0), some (.int x1), some (.int x2), some (.int x3), some (.int (bi x4)), some (.int y3), some (.int y6), some (.int y7), none, none, none, none, none] [.int y6] (by decide +kernel) rfl ?_
  refine i_abs (x := y6) (idx := 58) (pc' := 34) (by decide +kernel) rfl ?_
  refine i_bl (pc' := 36) [(.istore 8, 2)] [some (.ref a0), some (.int x1), some (.int x2), some (.int x3), some (.int (bi x4)), some (.int y3), some (.int y6), some (.int y7), some (.int (jabs y6)), none, none, none, none] [] (by decide +kernel) rfl ?_
  refine i_wb (fun y8 => ev_dn b z 22 36 [some (.ref a0), some (.int x1), some (.int x2), some (.int x3), some (.int (bi x4)), some (.int y3), some (.int y6), some (.int y7), some (.int y8), none, none, none, none] [] (nx, mem L nx m)) (fun y8 => ?_)
  refine i_bl (pc' := 40) [(.iload 7, 2), (.iload 8, 2)] [some (.ref a0), some (.int x1), some (.int x2), some (.int x3), some (.int (bi x4)), some (.int y3), some (.int y6), some (.int y7), some (.int y8), none, none, none, none] [.int y8, .int y7] (by decide +kernel) rfl ?_
  refine i_max (x := y7) (y := y8) (idx := 63) (pc' := 43) (by decide +kernel) rfl ?_
  refine i_bl (pc' := 45) [(.istore 9, 2)] [some (.ref a0), some (.int x1), some (.int x2), some (.int x3), some (.int (bi x4)), some (.int y3), some (.int y6), some (.int y7), some (.int y8), some (.int (jmax y7 y8)), none, none, none] [] (by decide +kernel) rfl ?_
  refine i_wb (fun y9 => ev_dn b z 22 45 [some (.ref a0), some (.int x1), some (.int x2), some (.int x3), some (.int (bi x4)), some (.int y3), some (.int y6), some (.int y7), some (.int y8), some (.int y9), none, none, none] [] (nx, mem L nx m)) (fun y9 => ?_)
  refine i_bl (pc' := 47) [(.iload 7, 2)] [some (.ref a0), some (.int x1), some (.int x2), some (.int x3), some (.int (bi x4)), some (.int y3), some (.int y6), some (.int y7), some (.int y8), some (.int y9), none, none, none] [.int y7] (by decide +kernel) rfl ?_
  refine i_if (c := .eq) (off := 8) (t := 55) (pc' := 50) (p := y7 = 0) (by decide +kernel) rfl ?_ ?_
  · refine i_bl (pc' := 56) [(.iconst 1, 1)] [some (.ref a0), some (.int x1), some (.int x2), some (.int x3), some (.int (bi x4)), some (.int y3), some (.int y6), some (.int y7), some (.int y8), some (.int y9), none, none, none] [.int 1] (by decide +kernel) rfl ?_
    refine i_go (t := 60) (off := 4) (by decide +kernel) ?_
    exact t_22_60 hN (h0 := h0)
  · refine i_bl (pc' := 52) [(.iload 8, 2)] [some (.ref a0), some (.int x1), some (.int x2), some (.int x3), some (.int (bi x4)), some (.int y3), some (.int y6), some (.int y7), some (.int y8), some (.int y9), none, none, none] [.int y8] (by decide +kernel) rfl ?_
    refine i_if (c := .ne) (off := 7) (t := 59) (pc' := 55) (p := ¬ y8 = 0) (by decide +kernel) rfl ?_ ?_
    · refine i_bl (pc' := 60) [(.iconst 0, 1)] [some (.ref a0), some (.int x1), some (.int x2), some (.int x3), some (.int (bi x4)), some (.int y3), some (.int y6), some (.int y7), some (.int y8), some (.int y9), none, none, none] [.int 0] (by decide +kernel) rfl ?_
      exact t_22_60 hN (h0 := h0)
    · refine i_bl (pc' := 56) [(.iconst 1, 1)] [some (.ref a0), some (.int x1), some (.int x2), some (.int x3), some (.int (bi x4)), some (.int y3), some (.int y6), some (.int y7), some (.int y8), some (.int y9), none, none, none] [.int 1] (by decide +kernel) rfl ?_
      refine i_go (t := 60) (off := 4) (by decide +kernel) ?_
      exact t_22_60 hN (h0 := h0)

/-! 21 LanternChess$Field.allows(III)Z -/
noncomputable def d_21_65 (s0 : Nat) (s1 : Int32) (s2 : Int32) (s3 : Int32) (s4 : Bool) (m : Mm) : Option Bool := (d_22 s0 s1 s2 s3 s4 m).bind fun v8 => if v8 = true then (some true) else (some false)
theorem t_21_65 {L nx : Nat} (hN : okn nx) {b z : Nat} {m : Mm} {s0 : Nat} (hs0 : ok nx s0 1) {s1 : Int32} {s2 : Int32} {s3 : Int32} {s4 : Bool} {o0 : Option Value} {o1 : Option Value} {o2 : Option Value} {o3 : Option Value} {o4 : Option Value} {o5 : Option Value} : Im (d_21_65 s0 s1 s2 s3 s4 m) (kZ L nx m) (ev_dn b z 21 65 [o0, o1, o2, o3, o4, o5] [.int (bi s4), .int s3, .int s2, .int s1, .ref s0] (nx, mem L nx m)) := by
  unfold d_21_65
  refine i_cv (ci := 1) (t := 22) (na := 5) (ml := 13) (idx := 54) (pc' := 68) (st' := []) (en := [some (.ref s0), some (.int s1), some (.int s2), some (.int s3), some (.int (bi s4)), none, none, none, none, none, none, none, none]) (av := [.int s1, .int s2, .int s3, .int (bi s4)]) (vo := fun v => some (.int (bi v))) (mo := fun _ => m) (s2 := fun v => .int (bi v) :: []) (by decide +kernel) (by decide +kernel) hs0 ⟨rfl, rfl, rfl, rfl, rfl, rfl⟩ (fun _ => rfl) (t_22 hN (h0 := hs0)) (fun v8 => ?_)
  refine i_bz (off := 7) (t := 75) (pc' := 71) (by decide +kernel) ?_ ?_
  · refine i_bl (pc' := 72) [(.iconst 1, 1)] [o0, o1, o2, o3, o4, o5] [.int 1] (by decide +kernel) rfl ?_
    refine i_go (t := 76) (off := 4) (by decide +kernel) ?_
    exact i_rz (B := true) (by decide +kernel) rfl
  · refine i_bl (pc' := 76) [(.iconst 0, 1)] [o0, o1, o2, o3, o4, o5] [.int 0] (by decide +kernel) rfl ?_
    exact i_rz (B := false) (by decide +kernel) rfl

noncomputable def d_21 (a0 : Nat) (x1 : Int32) (x2 : Int32) (x3 : Int32) (m : Mm) : Option Bool := (d_17 a0 x2 m).bind fun v1 => (d_17 a0 x3 m).bind fun v2 => (d_19 v1 x1).bind fun v3 => if v3 = true then ((d_19 v2 x1).bind fun v4 => if v4 = true then (some false) else ((d_13 x3).bind fun v5 => (d_14 x3).bind fun v6 => (d_15 a0 v5 v6 m).bind fun v7 => if v7 = true then (if v2 = (-1) then (d_21_65 a0 v1 x2 x3 false m) else (d_21_65 a0 v1 x2 x3 true m)) else (some false))) else (some false)
theorem t_21 {L nx : Nat} (hN : okn nx) {b z : Nat} {m : Mm} {a0 : Nat} (h0 : ok nx a0 1) {x1 : Int32} {x2 : Int32} {x3 : Int32}  : Im (d_21 a0 x1 x2 x3 m) (kZ L nx m) (ev_dn b z 21 0 [some (.ref a0), some (.int x1), some (.int x2), some (.int x3), none, none] [] (nx, mem L nx m)) := by
  unfold d_21
  refine i_bl (pc' := 2) [(.aload_n 0, 1), (.iload_n 2, 1)] [some (.ref a0), some (.int x1), some (.int x2), some (.int x3), none, none] [.int x2, .ref a0] (by decide +kernel) rfl ?_
  refine i_cv (ci := 1) (t := 17) (na := 2) (ml := 2) (idx := 37) (pc' := 5) (st' := []) (en := [some (.ref a0), some (.int x2)]) (av := [.int x2]) (vo := fun v => some (.int v)) (mo := fun _ => m) (s2 := fun v => .int v :: []) (by decide +kernel) (by decide +kernel) h0 ⟨rfl, rfl, rfl, rfl, rfl, rfl⟩ (fun _ => rfl) (t_17 hN (h0 := h0)) (fun v1 => ?_)
  refine i_bl (pc' := 9) [(.istore 4, 2), (.aload_n 0, 1), (.iload_n 3, 1)] [some (.ref a0), some (.int x1), some (.int x2), some (.int x3), some (.int v1), none] [.int x3, .ref a0] (by decide +kernel) rfl ?_
  refine i_cv (ci := 1) (t := 17) (na := 2) (ml := 2) (idx := 37) (pc' := 12) (st' := []) (en := [some (.ref a0), some (.int x3)]) (av := [.int x3]) (vo := fun v => some (.int v)) (mo := fun _ => m) (s2 := fun v => .int v :: []) (by decide +kernel) (by decide +kernel) h0 ⟨rfl, rfl, rfl, rfl, rfl, rfl⟩ (fun _ => rfl) (t_17 hN (h0 := h0)) (fun v2 => ?_)
  refine i_bl (pc' := 17) [(.istore 5, 2), (.iload 4, 2), (.iload_n 1, 1)] [some (.ref a0), some (.int x1), some (.int x2), some (.int x3), some (.int v1), some (.int v2)] [.int x1, .int v1] (by decide +kernel) rfl ?_
  refine i_cs (t := 19) (na := 2) (ml := 2) (idx := 41) (pc' := 20) (st' := []) (en := [some (.int v1), some (.int x1)]) (av := [.int v1, .int x1]) (vo := fun v => some (.int (bi v))) (mo := fun _ => m) (s2 := fun v => .int (bi v) :: []) (by decide +kernel) ⟨rfl, rfl, rfl, rfl, rfl, rfl⟩ (fun _ => rfl) (t_19 hN ) (fun v3 => ?_)
  refine i_bz (off := 12) (t := 32) (pc' := 23) (by decide +kernel) ?_ ?_
  · refine i_bl (pc' := 26) [(.iload 5, 2), (.iload_n 1, 1)] [some (.ref a0), some (.int x1), some (.int x2), some (.int x3), some (.int v1), some (.int v2)] [.int x1, .int v2] (by decide +kernel) rfl ?_
    refine i_cs (t := 19) (na := 2) (ml := 2) (idx := 41) (pc' := 29) (st' := []) (en := [some (.int v2), some (.int x1)]) (av := [.int v2, .int x1]) (vo := fun v => some (.int (bi v))) (mo := fun _ => m) (s2 := fun v => .int (bi v) :: []) (by decide +kernel) ⟨rfl, rfl, rfl, rfl, rfl, rfl⟩ (fun _ => rfl) (t_19 hN ) (fun v4 => ?_)
    refine i_bz (off := 5) (t := 34) (pc' := 32) (by decide +kernel) ?_ ?_
    · refine i_bl (pc' := 33) [(.iconst 0, 1)] [some (.ref a0), some (.int x1), some (.int x2), some (.int x3), some (.int v1), some (.int v2)] [.int 0] (by decide +kernel) rfl ?_
      exact i_rz (B := false) (by decide +kernel) rfl
    · refine i_bl (pc' := 36) [(.aload_n 0, 1), (.iload_n 3, 1)] [some (.ref a0), some (.int x1), some (.int x2), some (.int x3), some (.int v1), some (.int v2)] [.int x3, .ref a0] (by decide +kernel) rfl ?_
      refine i_cs (t := 13) (na := 1) (ml := 1) (idx := 45) (pc' := 39) (st' := [.ref a0]) (en := [some (.int x3)]) (av := [.int x3]) (vo := fun v => some (.int v)) (mo := fun _ => m) (s2 := fun v => .int v :: [.ref a0]) (by decide +kernel) ⟨rfl, rfl, rfl, rfl, rfl, rfl⟩ (fun _ => rfl) (t_13 hN ) (fun v5 => ?_)
      refine i_bl (pc' := 40) [(.iload_n 3, 1)] [some (.ref a0), some (.int x1), some (.int x2), some (.int x3), some (.int v1), some (.int v2)] [.int x3, .int v5, .ref a0] (by decide +kernel) rfl ?_
      refine i_cs (t := 14) (na := 1) (ml := 1) (idx := 48) (pc' := 43) (st' := [.int v5, .ref a0]) (en := [some (.int x3)]) (av := [.int x3]) (vo := fun v => some (.int v)) (mo := fun _ => m) (s2 := fun v => .int v :: [.int v5, .ref a0]) (by decide +kernel) ⟨rfl, rfl, rfl, rfl, rfl, rfl⟩ (fun _ => rfl) (t_14 hN ) (fun v6 => ?_)
      refine i_cv (ci := 1) (t := 15) (na := 3) (ml := 3) (idx := 51) (pc' := 46) (st' := []) (en := [some (.ref a0), some (.int v5), some (.int v6)]) (av := [.int v5, .int v6]) (vo := fun v => some (.int (bi v))) (mo := fun _ => m) (s2 := fun v => .int (bi v) :: []) (by decide +kernel) (by decide +kernel) h0 ⟨rfl, rfl, rfl, rfl, rfl, rfl⟩ (fun _ => rfl) (t_15 hN (h0 := h0)) (fun v7 => ?_)
      refine i_bz (off := 29) (t := 75) (pc' := 49) (by decide +kernel) ?_ ?_
      · refine i_bl (pc' := 57) [(.aload_n 0, 1), (.iload 4, 2), (.iload_n 2, 1), (.iload_n 3, 1), (.iload 5, 2), (.iconst (-1), 1)] [some (.ref a0), some (.int x1), some (.int x2), some (.int x3), some (.int v1), some (.int v2)] [.int (-1), .int v2, .int x3, .int x2, .int v1, .ref a0] (by decide +kernel) rfl ?_
        refine i_ic (c := .eq) (off := 7) (t := 64) (pc' := 60) (p := v2 = (-1)) (by decide +kernel) rfl ?_ ?_
        · refine i_bl (pc' := 65) [(.iconst 0, 1)] [some (.ref a0), some (.int x1), some (.int x2), some (.int x3), some (.int v1), some (.int v2)] [.int 0, .int x3, .int x2, .int v1, .ref a0] (by decide +kernel) rfl ?_
          exact t_21_65 hN (hs0 := h0)
        · refine i_bl (pc' := 61) [(.iconst 1, 1)] [some (.ref a0), some (.int x1), some (.int x2), some (.int x3), some (.int v1), some (.int v2)] [.int 1, .int x3, .int x2, .int v1, .ref a0] (by decide +kernel) rfl ?_
          refine i_go (t := 65) (off := 4) (by decide +kernel) ?_
          exact t_21_65 hN (hs0 := h0)
      · refine i_bl (pc' := 76) [(.iconst 0, 1)] [some (.ref a0), some (.int x1), some (.int x2), some (.int x3), some (.int v1), some (.int v2)] [.int 0] (by decide +kernel) rfl ?_
        exact i_rz (B := false) (by decide +kernel) rfl
  · refine i_bl (pc' := 33) [(.iconst 0, 1)] [some (.ref a0), some (.int x1), some (.int x2), some (.int x3), some (.int v1), some (.int v2)] [.int 0] (by decide +kernel) rfl ?_
    exact i_rz (B := false) (by decide +kernel) rfl

/-! 6 LanternChess$Board.readingOf(IIII)I -/
noncomputable def d_6_64 (a0 : Nat) (x1 : Int32) (x3 : Int32) (x4 : Int32) (m : Mm) : Option Int32 := (d_21 (sh_r a0 1) x1 x3 x4 m).bind fun v2 => if v2 = true then (some 3) else (some 0)
theorem t_6_64 {L nx : Nat} (hN : okn nx) {b z : Nat} {m : Mm} {a0 : Nat} (h0 : ok nx a0 0) {x1 : Int32} {x3 : Int32} {x4 : Int32} {o2 : Option Value} : Im (d_6_64 a0 x1 x3 x4 m) (kI L nx m) (ev_dn b z 6 64 [some (.ref a0), some (.int x1), o2, some (.int x3), some (.int x4)] [] (nx, mem L nx m)) := by
  unfold d_6_64
  refine i_bl (pc' := 65) [(.aload_n 0, 1)] [some (.ref a0), some (.int x1), o2, some (.int x3), some (.int x4)] [.ref a0] (by decide +kernel) rfl ?_
  refine i_gr (idx := 18) (ci := 0) (k := 1) (t := 2) (p := 11117) (pc' := 68) (by decide +kernel) h0 ?_
  refine i_bl (pc' := 72) [(.iload_n 1, 1), (.iload_n 3, 1), (.iload 4, 2)] [some (.ref a0), some (.int x1), o2, some (.int x3), some (.int x4)] [.int x4, .int x3, .int x1, .ref (sh_r a0 1)] (by decide +kernel) rfl ?_
  refine i_cv (ci := 1) (t := 21) (na := 4) (ml := 6) (idx := 49) (pc' := 75) (st' := []) (en := [some (.ref (sh_r a0 1)), some (.int x1), some (.int x3), some (.int x4), none, none]) (av := [.int x1, .int x3, .int x4]) (vo := fun v => some (.int (bi v))) (mo := fun _ => m) (s2 := fun v => .int (bi v) :: []) (by decide +kernel) (by decide +kernel) (o_0_1 hN h0) ⟨rfl, rfl, rfl, rfl, rfl, rfl⟩ (fun _ => rfl) (t_21 hN (h0 := (o_0_1 hN h0))) (fun v2 => ?_)
  refine i_bz (off := 7) (t := 82) (pc' := 78) (by decide +kernel) ?_ ?_
  · refine i_bl (pc' := 79) [(.iconst 3, 1)] [some (.ref a0), some (.int x1), o2, some (.int x3), some (.int x4)] [.int 3] (by decide +kernel) rfl ?_
    refine i_go (t := 83) (off := 4) (by decide +kernel) ?_
    exact i_ri (by decide +kernel) rfl
  · refine i_bl (pc' := 83) [(.iconst 0, 1)] [some (.ref a0), some (.int x1), o2, some (.int x3), some (.int x4)] [.int 0] (by decide +kernel) rfl ?_
    exact i_ri (by decide +kernel) rfl

noncomputable def d_6 (a0 : Nat) (x1 : Int32) (x2 : Int32) (x3 : Int32) (x4 : Int32) (m : Mm) : Option Int32 := (d_5 a0 m).bind fun v1 => if ¬ x2 = v1 then (if (m a0 2) = 0 then (some 0) else (if (m a0 3) = x1 then (if ¬ x3 = (m a0 4) then (d_6_64 a0 x1 x3 x4 m) else (if ¬ x4 = (m a0 5) then (d_6_64 a0 x1 x3 x4 m) else (some 2))) else (some 0))) else ((d_21 (sh_r a0 0) x1 x3 x4 m).bind fun v3 => if v3 = true then (some 1) else (some 0))
theorem t_6 {L nx : Nat} (hN : okn nx) {b z : Nat} {m : Mm} {a0 : Nat} (h0 : ok nx a0 0) {x1 : Int32} {x2 : Int32} {x3 : Int32} {x4 : Int32}  : Im (d_6 a0 x1 x2 x3 x4 m) (kI L nx m) (ev_dn b z 6 0 [some (.ref a0), some (.int x1), some (.int x2), some (.int x3), some (.int x4)] [] (nx, mem L nx m)) := by
  unfold d_6
  refine i_bl (pc' := 2) [(.iload_n 2, 1), (.aload_n 0, 1)] [some (.ref a0), some (.int x1), some (.int x2), some (.int x3), some (.int x4)] [.ref a0, .int x2] (by decide +kernel) rfl ?_
  refine i_cv (ci := 0) (t := 5) (na := 1) (ml := 1) (idx := 45) (pc' := 5) (st' := [.int x2]) (en := [some (.ref a0)]) (av := []) (vo := fun v => some (.int v)) (mo := fun _ => m) (s2 := fun v => .int v :: [.int x2]) (by decide +kernel) (by decide +kernel) h0 ⟨rfl, rfl, rfl, rfl, rfl, rfl⟩ (fun _ => rfl) (t_5 hN (h0 := h0)) (fun v1 => ?_)
  refine i_ic (c := .ne) (off := 23) (t := 28) (pc' := 8) (p := ¬ x2 = v1) (by decide +kernel) rfl ?_ ?_
  · refine i_bl (pc' := 29) [(.aload_n 0, 1)] [some (.ref a0), some (.int x1), some (.int x2), some (.int x3), some (.int x4)] [.ref a0] (by decide +kernel) rfl ?_
    refine i_gf (idx := 21) (ci := 0) (k := 2) (t := 0) (p := 11118) (pc' := 32) (by decide +kernel) h0 ?_
    refine i_if (c := .eq) (off := 11) (t := 43) (pc' := 35) (p := (m a0 2) = 0) (by decide +kernel) rfl ?_ ?_
    · refine i_bl (pc' := 44) [(.iconst 0, 1)] [some (.ref a0), some (.int x1), some (.int x2), some (.int x3), some (.int x4)] [.int 0] (by decide +kernel) rfl ?_
      exact i_ri (by decide +kernel) rfl
    · refine i_bl (pc' := 36) [(.aload_n 0, 1)] [some (.ref a0), some (.int x1), some (.int x2), some (.int x3), some (.int x4)] [.ref a0] (by decide +kernel) rfl ?_
      refine i_gf (idx := 25) (ci := 0) (k := 3) (t := 0) (p := 11120) (pc' := 39) (by decide +kernel) h0 ?_
      refine i_bl (pc' := 40) [(.iload_n 1, 1)] [some (.ref a0), some (.int x1), some (.int x2), some (.int x3), some (.int x4)] [.int x1, .int (m a0 3)] (by decide +kernel) rfl ?_
      refine i_ic (c := .eq) (off := 5) (t := 45) (pc' := 43) (p := (m a0 3) = x1) (by decide +kernel) rfl ?_ ?_
      · refine i_bl (pc' := 47) [(.iload_n 3, 1), (.aload_n 0, 1)] [some (.ref a0), some (.int x1), some (.int x2), some (.int x3), some (.int x4)] [.ref a0, .int x3] (by decide +kernel) rfl ?_
        refine i_gf (idx := 28) (ci := 0) (k := 4) (t := 0) (p := 11121) (pc' := 50) (by decide +kernel) h0 ?_
        refine i_ic (c := .ne) (off := 14) (t := 64) (pc' := 53) (p := ¬ x3 = (m a0 4)) (by decide +kernel) rfl ?_ ?_
        · exact t_6_64 hN (h0 := h0)
        · refine i_bl (pc' := 56) [(.iload 4, 2), (.aload_n 0, 1)] [some (.ref a0), some (.int x1), some (.int x2), some (.int x3), some (.int x4)] [.ref a0, .int x4] (by decide +kernel) rfl ?_
          refine i_gf (idx := 31) (ci := 0) (k := 5) (t := 0) (p := 11122) (pc' := 59) (by decide +kernel) h0 ?_
          refine i_ic (c := .ne) (off := 5) (t := 64) (pc' := 62) (p := ¬ x4 = (m a0 5)) (by decide +kernel) rfl ?_ ?_
          · exact t_6_64 hN (h0 := h0)
          · refine i_bl (pc' := 63) [(.iconst 2, 1)] [some (.ref a0), some (.int x1), some (.int x2), some (.int x3), some (.int x4)] [.int 2] (by decide +kernel) rfl ?_
            exact i_ri (by decide +kernel) rfl
      · refine i_bl (pc' := 44) [(.iconst 0, 1)] [some (.ref a0), some (.int x1), some (.int x2), some (.int x3), some (.int x4)] [.int 0] (by decide +kernel) rfl ?_
        exact i_ri (by decide +kernel) rfl
  · refine i_bl (pc' := 9) [(.aload_n 0, 1)] [some (.ref a0), some (.int x1), some (.int x2), some (.int x3), some (.int x4)] [.ref a0] (by decide +kernel) rfl ?_
    refine i_gr (idx := 12) (ci := 0) (k := 0) (t := 2) (p := 11113) (pc' := 12) (by decide +kernel) h0 ?_
    refine i_bl (pc' := 16) [(.iload_n 1, 1), (.iload_n 3, 1), (.iload 4, 2)] [some (.ref a0), some (.int x1), some (.int x2), some (.int x3), some (.int x4)] [.int x4, .int x3, .int x1, .ref (sh_r a0 0)] (by decide +kernel) rfl ?_
    refine i_cv (ci := 1) (t := 21) (na := 4) (ml := 6) (idx := 49) (pc' := 19) (st' := []) (en := [some (.ref (sh_r a0 0)), some (.int x1), some (.int x3), some (.int x4), none, none]) (av := [.int x1, .int x3, .int x4]) (vo := fun v => some (.int (bi v))) (mo := fun _ => m) (s2 := fun v => .int (bi v) :: []) (by decide +kernel) (by decide +kernel) (o_0_0 hN h0) ⟨rfl, rfl, rfl, rfl, rfl, rfl⟩ (fun _ => rfl) (t_21 hN (h0 := (o_0_0 hN h0))) (fun v3 => ?_)
    refine i_bz (off := 7) (t := 26) (pc' := 22) (by decide +kernel) ?_ ?_
    · refine i_bl (pc' := 23) [(.iconst 1, 1)] [some (.ref a0), some (.int x1), some (.int x2), some (.int x3), some (.int x4)] [.int 1] (by decide +kernel) rfl ?_
      refine i_go (t := 27) (off := 4) (by decide +kernel) ?_
      exact i_ri (by decide +kernel) rfl
    · refine i_bl (pc' := 27) [(.iconst 0, 1)] [some (.ref a0), some (.int x1), some (.int x2), some (.int x3), some (.int x4)] [.int 0] (by decide +kernel) rfl ?_
      exact i_ri (by decide +kernel) rfl

/-! 16 LanternChess$Field.numberOf(I)I -/
noncomputable def d_16 (a0 : Nat) (x1 : Int32) (m : Mm) : Option Int32 := some ((x1 &&& (7 : Int32)) + ((m a0 1) * (x1 >>> ((3 : Int32) &&& (31 : Int32)))))
theorem t_16 {L nx : Nat} (hN : okn nx) {b z : Nat} {m : Mm} {a0 : Nat} (h0 : ok nx a0 1) {x1 : Int32}  : Im (d_16 a0 x1 m) (kI L nx m) (ev_dn b z 16 0 [some (.ref a0), some (.int x1)] [] (nx, mem L nx m)) := by
  unfold d_16
  refine i_bl (pc' := 5) [(.iload_n 1, 1), (.bipush (7), 2), (.iand, 1), (.aload_n 0, 1)] [some (.ref a0), some (.int x1)] [.ref a0, .int (x1 &&& (7 : Int32))] (by decide +kernel) rfl ?_
  refine i_gf (idx := 15) (ci := 1) (k := 1) (t := 0) (p := 11099) (pc' := 8) (by decide +kernel) h0 ?_
  refine i_bl (pc' := 13) [(.iload_n 1, 1), (.iconst 3, 1), (.ishr, 1), (.imul, 1), (.iadd, 1)] [some (.ref a0), some (.int x1)] [.int ((x1 &&& (7 : Int32)) + ((m a0 1) * (x1 >>> ((3 : Int32) &&& (31 : Int32)))))] (by decide +kernel) rfl ?_
  exact i_ri (by decide +kernel) rfl

/-! 32 LanternChess$Field.weightOf(II)I -/
noncomputable def d_32 (a0 : Nat) (x1 : Int32) (x2 : Int32) (m : Mm) : Option Int32 := if ¬ x2 = (-1) then ((d_16 a0 x1 m).bind fun v1 => some ((v1 + 1) * (x2 + 1))) else (some 0)
theorem t_32 {L nx : Nat} (hN : okn nx) {b z : Nat} {m : Mm} {a0 : Nat} (h0 : ok nx a0 1) {x1 : Int32} {x2 : Int32}  : Im (d_32 a0 x1 x2 m) (kI L nx m) (ev_dn b z 32 0 [some (.ref a0), some (.int x1), some (.int x2)] [] (nx, mem L nx m)) := by
  unfold d_32
  refine i_bl (pc' := 2) [(.iload_n 2, 1), (.iconst (-1), 1)] [some (.ref a0), some (.int x1), some (.int x2)] [.int (-1), .int x2] (by decide +kernel) rfl ?_
  refine i_ic (c := .ne) (off := 7) (t := 9) (pc' := 5) (p := ¬ x2 = (-1)) (by decide +kernel) rfl ?_ ?_
  · refine i_bl (pc' := 11) [(.aload_n 0, 1), (.iload_n 1, 1)] [some (.ref a0), some (.int x1), some (.int x2)] [.int x1, .ref a0] (by decide +kernel) rfl ?_
    refine i_cv (ci := 1) (t := 16) (na := 2) (ml := 2) (idx := 98) (pc' := 14) (st' := []) (en := [some (.ref a0), some (.int x1)]) (av := [.int x1]) (vo := fun v => some (.int v)) (mo := fun _ => m) (s2 := fun v => .int v :: []) (by decide +kernel) (by decide +kernel) h0 ⟨rfl, rfl, rfl, rfl, rfl, rfl⟩ (fun _ => rfl) (t_16 hN (h0 := h0)) (fun v1 => ?_)
    refine i_bl (pc' := 20) [(.iconst 1, 1), (.iadd, 1), (.iload_n 2, 1), (.iconst 1, 1), (.iadd, 1), (.imul, 1)] [some (.ref a0), some (.int x1), some (.int x2)] [.int ((v1 + 1) * (x2 + 1))] (by decide +kernel) rfl ?_
    exact i_ri (by decide +kernel) rfl
  · refine i_bl (pc' := 6) [(.iconst 0, 1)] [some (.ref a0), some (.int x1), some (.int x2)] [.int 0] (by decide +kernel) rfl ?_
    refine i_go (t := 20) (off := 14) (by decide +kernel) ?_
    exact i_ri (by decide +kernel) rfl

/-! 33 LanternChess$Field.total()I -/
noncomputable def E_33_4 (L nx b z : Nat) (a0 : Nat) (m : Mm) (d : Unit) (s : (Int32 × Int32)) : ev_Q := ev_dn b z 33 4 [some (.ref a0), some (.int s.1), some (.int s.2)] [] (nx, mem L nx m)
noncomputable def s_33_4 (a0 : Nat) (m : Mm) (x1 : Int32) (x2 : Int32) : Option ((Int32 × Int32) ⊕ Int32) := if 64 ≤ x2 then (some (.inr x1)) else (if ev_in x2 (sh_n (sh_r a0 0)) = true then ((d_32 a0 x2 (m (sh_r a0 0) (ix x2)) m).bind fun v1 => wb (x1 + v1) fun y2 => wb (x2 + 1) fun y3 => some (.inl (y2, y3))) else none)
noncomputable def d_33_4 (a0 : Nat) (m : Mm) (x1 : Int32) (x2 : Int32) : Option Int32 := it (fun s => s_33_4 a0 m s.1 s.2) (x1, x2)
theorem e_33_4 (a0 : Nat) (m : Mm) (x1 : Int32) (x2 : Int32) : d_33_4 a0 m x1 x2 = oi (s_33_4 a0 m x1 x2) (fun s => d_33_4 a0 m s.1 s.2) := it_eq _
theorem u_33_4 {L nx : Nat} (hN : okn nx) {b z : Nat} {m : Mm} {a0 : Nat} (h0 : ok nx a0 1) {x1 : Int32} {x2 : Int32}  : Im (s_33_4 a0 m x1 x2) (kL (kI L nx m) (E_33_4 L nx b z a0 m)) (ev_dn b z 33 4 [some (.ref a0), some (.int x1), some (.int x2)] [] (nx, mem L nx m)) := by
  unfold s_33_4
  refine i_bl (pc' := 7) [(.iload_n 2, 1), (.bipush (64), 2)] [some (.ref a0), some (.int x1), some (.int x2)] [.int 64, .int x2] (by decide +kernel) rfl ?_
  refine i_ic (c := .ge) (off := 23) (t := 30) (pc' := 10) (p := 64 ≤ x2) (by decide +kernel) rfl ?_ ?_
  · refine i_bl (pc' := 31) [(.iload_n 1, 1)] [some (.ref a0), some (.int x1), some (.int x2)] [.int x1] (by decide +kernel) rfl ?_
    exact i_ir (i_ri (by decide +kernel) rfl)
  · refine i_bl (pc' := 14) [(.iload_n 1, 1), (.aload_n 0, 1), (.iload_n 2, 1), (.aload_n 0, 1)] [some (.ref a0), some (.int x1), some (.int x2)] [.ref a0, .int x2, .ref a0, .int x1] (by decide +kernel) rfl ?_
    refine i_gr (idx := 9) (ci := 1) (k := 0) (t := 2) (p := 11098) (pc' := 17) (by decide +kernel) h0 ?_
    refine i_bl (pc' := 18) [(.iload_n 2, 1)] [some (.ref a0), some (.int x1), some (.int x2)] [.int x2, .ref (sh_r a0 0), .int x2, .ref a0, .int x1] (by decide +kernel) rfl ?_
    refine i_al (pc' := 19) (by decide +kernel) (o_1_0 hN h0) ?_
    refine i_cv (ci := 1) (t := 32) (na := 3) (ml := 3) (idx := 101) (pc' := 22) (st' := [.int x1]) (en := [some (.ref a0), some (.int x2), some (.int (m (sh_r a0 0) (ix x2)))]) (av := [.int x2, .int (m (sh_r a0 0) (ix x2))]) (vo := fun v => some (.int v)) (mo := fun _ => m) (s2 := fun v => .int v :: [.int x1]) (by decide +kernel) (by decide +kernel) h0 ⟨rfl, rfl, rfl, rfl, rfl, rfl⟩ (fun _ => rfl) (t_32 hN (h0 := h0)) (fun v1 => ?_)
    refine i_bl (pc' := 24) [(.iadd, 1), (.istore_n 1, 1)] [some (.ref a0), some (.int (x1 + v1)), some (.int x2)] [] (by decide +kernel) rfl ?_
    refine i_wb (fun y2 => ev_dn b z 33 24 [some (.ref a0), some (.int y2), some (.int x2)] [] (nx, mem L nx m)) (fun y2 => ?_)
    refine i_bl (pc' := 27) [(.iinc 2 (1), 3)] [some (.ref a0), some (.int y2), some (.int (x2 + 1))] [] (by decide +kernel) rfl ?_
    refine i_wb (fun y3 => ev_dn b z 33 27 [some (.ref a0), some (.int y2), some (.int y3)] [] (nx, mem L nx m)) (fun y3 => ?_)
    refine i_go (t := 4) (off := -23) (by decide +kernel) ?_
    exact i_co () rfl

theorem t_33_4 {L nx : Nat} (hN : okn nx) {b z : Nat} {m : Mm} {a0 : Nat} (h0 : ok nx a0 1) {x1 : Int32} {x2 : Int32}  : Im (d_33_4 a0 m x1 x2) (kI L nx m) (ev_dn b z 33 4 [some (.ref a0), some (.int x1), some (.int x2)] [] (nx, mem L nx m)) := by
  exact i_it (f := fun s => s_33_4 a0 m s.1 s.2) (E := E_33_4 L nx b z a0 m) (K := (kI L nx m)) (fun d s => u_33_4 hN (h0 := h0)) () (x1, x2)
noncomputable def d_33 (a0 : Nat) (m : Mm) : Option Int32 := d_33_4 a0 m 0 0
theorem t_33 {L nx : Nat} (hN : okn nx) {b z : Nat} {m : Mm} {a0 : Nat} (h0 : ok nx a0 1)   : Im (d_33 a0 m) (kI L nx m) (ev_dn b z 33 0 [some (.ref a0), none, none] [] (nx, mem L nx m)) := by
  unfold d_33
  refine i_bl (pc' := 4) [(.iconst 0, 1), (.istore_n 1, 1), (.iconst 0, 1), (.istore_n 2, 1)] [some (.ref a0), some (.int 0), some (.int 0)] [] (by decide +kernel) rfl ?_
  exact t_33_4 hN (h0 := h0)

/-! 34 LanternChess$Field.totalWith(II)I -/
noncomputable def d_34 (a0 : Nat) (x1 : Int32) (x2 : Int32) (m : Mm) : Option Int32 := (d_33 a0 m).bind fun v1 => (d_17 a0 x1 m).bind fun v2 => (d_32 a0 x1 v2 m).bind fun v3 => (d_17 a0 x2 m).bind fun v4 => (d_32 a0 x2 v4 m).bind fun v5 => (d_25 a0 x1 x2 m).bind fun v6 => (d_32 a0 x2 v6 m).bind fun v7 => some (((v1 - v3) - v5) + v7)
theorem t_34 {L nx : Nat} (hN : okn nx) {b z : Nat} {m : Mm} {a0 : Nat} (h0 : ok nx a0 1) {x1 : Int32} {x2 : Int32}  : Im (d_34 a0 x1 x2 m) (kI L nx m) (ev_dn b z 34 0 [some (.ref a0), some (.int x1), some (.int x2)] [] (nx, mem L nx m)) := by
  unfold d_34
  refine i_bl (pc' := 1) [(.aload_n 0, 1)] [some (.ref a0), some (.int x1), some (.int x2)] [.ref a0] (by decide +kernel) rfl ?_
  refine i_cv (ci := 1) (t := 33) (na := 1) (ml := 3) (idx := 104) (pc' := 4) (st' := []) (en := [some (.ref a0), none, none]) (av := []) (vo := fun v => some (.int v)) (mo := fun _ => m) (s2 := fun v => .int v :: []) (by decide +kernel) (by decide +kernel) h0 ⟨rfl, rfl, rfl, rfl, rfl, rfl⟩ (fun _ => rfl) (t_33 hN (h0 := h0)) (fun v1 => ?_)
  refine i_bl (pc' := 8) [(.aload_n 0, 1), (.iload_n 1, 1), (.aload_n 0, 1), (.iload_n 1, 1)] [some (.ref a0), some (.int x1), some (.int x2)] [.int x1, .ref a0, .int x1, .ref a0, .int v1] (by decide +kernel) rfl ?_
  refine i_cv (ci := 1) (t := 17) (na := 2) (ml := 2) (idx := 37) (pc' := 11) (st' := [.int x1, .ref a0, .int v1]) (en := [some (.ref a0), some (.int x1)]) (av := [.int x1]) (vo := fun v => some (.int v)) (mo := fun _ => m) (s2 := fun v => .int v :: [.int x1, .ref a0, .int v1]) (by decide +kernel) (by decide +kernel) h0 ⟨rfl, rfl, rfl, rfl, rfl, rfl⟩ (fun _ => rfl) (t_17 hN (h0 := h0)) (fun v2 => ?_)
  refine i_cv (ci := 1) (t := 32) (na := 3) (ml := 3) (idx := 101) (pc' := 14) (st' := [.int v1]) (en := [some (.ref a0), some (.int x1), some (.int v2)]) (av := [.int x1, .int v2]) (vo := fun v => some (.int v)) (mo := fun _ => m) (s2 := fun v => .int v :: [.int v1]) (by decide +kernel) (by decide +kernel) h0 ⟨rfl, rfl, rfl, rfl, rfl, rfl⟩ (fun _ => rfl) (t_32 hN (h0 := h0)) (fun v3 => ?_)
  refine i_bl (pc' := 19) [(.isub, 1), (.aload_n 0, 1), (.iload_n 2, 1), (.aload_n 0, 1), (.iload_n 2, 1)] [some (.ref a0), some (.int x1), some (.int x2)] [.int x2, .ref a0, .int x2, .ref a0, .int (v1 - v3)] (by decide +kernel) rfl ?_
  refine i_cv (ci := 1) (t := 17) (na := 2) (ml := 2) (idx := 37) (pc' := 22) (st' := [.int x2, .ref a0, .int (v1 - v3)]) (en := [some (.ref a0), some (.int x2)]) (av := [.int x2]) (vo := fun v => some (.int v)) (mo := fun _ => m) (s2 := fun v => .int v :: [.int x2, .ref a0, .int (v1 - v3)]) (by decide +kernel) (by decide +kernel) h0 ⟨rfl, rfl, rfl, rfl, rfl, rfl⟩ (fun _ => rfl) (t_17 hN (h0 := h0)) (fun v4 => ?_)
  refine i_cv (ci := 1) (t := 32) (na := 3) (ml := 3) (idx := 101) (pc' := 25) (st' := [.int (v1 - v3)]) (en := [some (.ref a0), some (.int x2), some (.int v4)]) (av := [.int x2, .int v4]) (vo := fun v => some (.int v)) (mo := fun _ => m) (s2 := fun v => .int v :: [.int (v1 - v3)]) (by decide +kernel) (by decide +kernel) h0 ⟨rfl, rfl, rfl, rfl, rfl, rfl⟩ (fun _ => rfl) (t_32 hN (h0 := h0)) (fun v5 => ?_)
  refine i_bl (pc' := 31) [(.isub, 1), (.aload_n 0, 1), (.iload_n 2, 1), (.aload_n 0, 1), (.iload_n 1, 1), (.iload_n 2, 1)] [some (.ref a0), some (.int x1), some (.int x2)] [.int x2, .int x1, .ref a0, .int x2, .ref a0, .int ((v1 - v3) - v5)] (by decide +kernel) rfl ?_
  refine i_cv (ci := 1) (t := 25) (na := 3) (ml := 4) (idx := 79) (pc' := 34) (st' := [.int x2, .ref a0, .int ((v1 - v3) - v5)]) (en := [some (.ref a0), some (.int x1), some (.int x2), none]) (av := [.int x1, .int x2]) (vo := fun v => some (.int v)) (mo := fun _ => m) (s2 := fun v => .int v :: [.int x2, .ref a0, .int ((v1 - v3) - v5)]) (by decide +kernel) (by decide +kernel) h0 ⟨rfl, rfl, rfl, rfl, rfl, rfl⟩ (fun _ => rfl) (t_25 hN (h0 := h0)) (fun v6 => ?_)
  refine i_cv (ci := 1) (t := 32) (na := 3) (ml := 3) (idx := 101) (pc' := 37) (st' := [.int ((v1 - v3) - v5)]) (en := [some (.ref a0), some (.int x2), some (.int v6)]) (av := [.int x2, .int v6]) (vo := fun v => some (.int v)) (mo := fun _ => m) (s2 := fun v => .int v :: [.int ((v1 - v3) - v5)]) (by decide +kernel) (by decide +kernel) h0 ⟨rfl, rfl, rfl, rfl, rfl, rfl⟩ (fun _ => rfl) (t_32 hN (h0 := h0)) (fun v7 => ?_)
  refine i_bl (pc' := 38) [(.iadd, 1)] [some (.ref a0), some (.int x1), some (.int x2)] [.int (((v1 - v3) - v5) + v7)] (by decide +kernel) rfl ?_
  exact i_ri (by decide +kernel) rfl

/-! 7 LanternChess$Board.totalBehind(III)I -/
noncomputable def d_7 (a0 : Nat) (x1 : Int32) (x2 : Int32) (x3 : Int32) (m : Mm) : Option Int32 := (if x1 = 1 then ((d_34 (sh_r a0 0) x2 x3 m).bind fun v1 => some v1) else if x1 = 3 then ((d_34 (sh_r a0 1) x2 x3 m).bind fun v2 => some v2) else ((d_33 (sh_r a0 0) m).bind fun v3 => some v3))
theorem t_7 {L nx : Nat} (hN : okn nx) {b z : Nat} {m : Mm} {a0 : Nat} (h0 : ok nx a0 0) {x1 : Int32} {x2 : Int32} {x3 : Int32}  : Im (d_7 a0 x1 x2 x3 m) (kI L nx m) (ev_dn b z 7 0 [some (.ref a0), some (.int x1), some (.int x2), some (.int x3)] [] (nx, mem L nx m)) := by
  unfold d_7
  refine i_bl (pc' := 1) [(.iload_n 1, 1)] [some (.ref a0), some (.int x1), some (.int x2), some (.int x3)] [.int x1] (by decide +kernel) rfl ?_
  refine i_lk (n := 27) (dd := (47)) (ps := #[((1), (27)), ((3), (37))]) (d := 48) (cs := [(1, 28), (3, 38)]) (by decide +kernel) ?_
  refine i_sc (c := 1) (by decide +kernel) ?_ ?_
  · refine i_bl (pc' := 29) [(.aload_n 0, 1)] [some (.ref a0), some (.int x1), some (.int x2), some (.int x3)] [.ref a0] (by decide +kernel) rfl ?_
    refine i_gr (idx := 12) (ci := 0) (k := 0) (t := 2) (p := 11113) (pc' := 32) (by decide +kernel) h0 ?_
    refine i_bl (pc' := 34) [(.iload_n 2, 1), (.iload_n 3, 1)] [some (.ref a0), some (.int x1), some (.int x2), some (.int x3)] [.int x3, .int x2, .ref (sh_r a0 0)] (by decide +kernel) rfl ?_
    refine i_cv (ci := 1) (t := 34) (na := 3) (ml := 3) (idx := 53) (pc' := 37) (st' := []) (en := [some (.ref (sh_r a0 0)), some (.int x2), some (.int x3)]) (av := [.int x2, .int x3]) (vo := fun v => some (.int v)) (mo := fun _ => m) (s2 := fun v => .int v :: []) (by decide +kernel) (by decide +kernel) (o_0_0 hN h0) ⟨rfl, rfl, rfl, rfl, rfl, rfl⟩ (fun _ => rfl) (t_34 hN (h0 := (o_0_0 hN h0))) (fun v1 => ?_)
    exact i_ri (by decide +kernel) rfl
  refine i_sc (c := 3) (by decide +kernel) ?_ ?_
  · refine i_bl (pc' := 39) [(.aload_n 0, 1)] [some (.ref a0), some (.int x1), some (.int x2), some (.int x3)] [.ref a0] (by decide +kernel) rfl ?_
    refine i_gr (idx := 18) (ci := 0) (k := 1) (t := 2) (p := 11117) (pc' := 42) (by decide +kernel) h0 ?_
    refine i_bl (pc' := 44) [(.iload_n 2, 1), (.iload_n 3, 1)] [some (.ref a0), some (.int x1), some (.int x2), some (.int x3)] [.int x3, .int x2, .ref (sh_r a0 1)] (by decide +kernel) rfl ?_
    refine i_cv (ci := 1) (t := 34) (na := 3) (ml := 3) (idx := 53) (pc' := 47) (st' := []) (en := [some (.ref (sh_r a0 1)), some (.int x2), some (.int x3)]) (av := [.int x2, .int x3]) (vo := fun v => some (.int v)) (mo := fun _ => m) (s2 := fun v => .int v :: []) (by decide +kernel) (by decide +kernel) (o_0_1 hN h0) ⟨rfl, rfl, rfl, rfl, rfl, rfl⟩ (fun _ => rfl) (t_34 hN (h0 := (o_0_1 hN h0))) (fun v2 => ?_)
    exact i_ri (by decide +kernel) rfl
  refine i_s0 ?_
  refine i_bl (pc' := 49) [(.aload_n 0, 1)] [some (.ref a0), some (.int x1), some (.int x2), some (.int x3)] [.ref a0] (by decide +kernel) rfl ?_
  refine i_gr (idx := 12) (ci := 0) (k := 0) (t := 2) (p := 11113) (pc' := 52) (by decide +kernel) h0 ?_
  refine i_cv (ci := 1) (t := 33) (na := 1) (ml := 3) (idx := 57) (pc' := 55) (st' := []) (en := [some (.ref (sh_r a0 0)), none, none]) (av := []) (vo := fun v => some (.int v)) (mo := fun _ => m) (s2 := fun v => .int v :: []) (by decide +kernel) (by decide +kernel) (o_0_0 hN h0) ⟨rfl, rfl, rfl, rfl, rfl, rfl⟩ (fun _ => rfl) (t_33 hN (h0 := (o_0_0 hN h0))) (fun v3 => ?_)
  exact i_ri (by decide +kernel) rfl

/-! 8 LanternChess$Board.follow(IIII)V -/
noncomputable def d_8 (a0 : Nat) (x1 : Int32) (x2 : Int32) (x3 : Int32) (x4 : Int32) (m : Mm) : Option Mm := if ¬ x1 = 1 then (if ¬ x1 = 3 then (some m) else ((d_4 a0 x3 x4 m).bind fun m1 => some m1)) else ((d_3 a0 x2 x3 x4 m).bind fun m2 => some m2)
theorem t_8 {L nx : Nat} (hN : okn nx) {b z : Nat} {m : Mm} {a0 : Nat} (h0 : ok nx a0 0) {x1 : Int32} {x2 : Int32} {x3 : Int32} {x4 : Int32}  : Im (d_8 a0 x1 x2 x3 x4 m) (wV L nx) (ev_dn b z 8 0 [some (.ref a0), some (.int x1), some (.int x2), some (.int x3), some (.int x4)] [] (nx, mem L nx m)) := by
  unfold d_8
  refine i_bl (pc' := 2) [(.iload_n 1, 1), (.iconst 1, 1)] [some (.ref a0), some (.int x1), some (.int x2), some (.int x3), some (.int x4)] [.int 1, .int x1] (by decide +kernel) rfl ?_
  refine i_ic (c := .ne) (off := 14) (t := 16) (pc' := 5) (p := ¬ x1 = 1) (by decide +kernel) rfl ?_ ?_
  · refine i_bl (pc' := 18) [(.iload_n 1, 1), (.iconst 3, 1)] [some (.ref a0), some (.int x1), some (.int x2), some (.int x3), some (.int x4)] [.int 3, .int x1] (by decide +kernel) rfl ?_
    refine i_ic (c := .ne) (off := 10) (t := 28) (pc' := 21) (p := ¬ x1 = 3) (by decide +kernel) rfl ?_ ?_
    · exact i_rv (by decide +kernel) rfl
    · refine i_bl (pc' := 25) [(.aload_n 0, 1), (.iload_n 3, 1), (.iload 4, 2)] [some (.ref a0), some (.int x1), some (.int x2), some (.int x3), some (.int x4)] [.int x4, .int x3, .ref a0] (by decide +kernel) rfl ?_
      refine i_cv (ci := 0) (t := 4) (na := 3) (ml := 3) (idx := 63) (pc' := 28) (st' := []) (en := [some (.ref a0), some (.int x3), some (.int x4)]) (av := [.int x3, .int x4]) (vo := fun _ => none) (mo := fun m => m) (s2 := fun _ => []) (by decide +kernel) (by decide +kernel) h0 ⟨rfl, rfl, rfl, rfl, rfl, rfl⟩ (fun _ => rfl) (t_4 hN (h0 := h0)) (fun m1 => ?_)
      exact i_rv (by decide +kernel) rfl
  · refine i_bl (pc' := 10) [(.aload_n 0, 1), (.iload_n 2, 1), (.iload_n 3, 1), (.iload 4, 2)] [some (.ref a0), some (.int x1), some (.int x2), some (.int x3), some (.int x4)] [.int x4, .int x3, .int x2, .ref a0] (by decide +kernel) rfl ?_
    refine i_cv (ci := 0) (t := 3) (na := 4) (ml := 4) (idx := 60) (pc' := 13) (st' := []) (en := [some (.ref a0), some (.int x2), some (.int x3), some (.int x4)]) (av := [.int x2, .int x3, .int x4]) (vo := fun _ => none) (mo := fun m => m) (s2 := fun _ => []) (by decide +kernel) (by decide +kernel) h0 ⟨rfl, rfl, rfl, rfl, rfl, rfl⟩ (fun _ => rfl) (t_3 hN (h0 := h0)) (fun m2 => ?_)
    refine i_go (t := 28) (off := 15) (by decide +kernel) ?_
    exact i_rv (by decide +kernel) rfl

/-! 12 LanternChess$Field.cellOf(II)I -/
noncomputable def d_12 (x0 : Int32) (x1 : Int32) : Option Int32 := some (x0 + (8 * x1))
theorem t_12 {L nx : Nat} (hN : okn nx) {b z : Nat} {m : Mm}  {x0 : Int32} {x1 : Int32}  : Im (d_12 x0 x1) (kI L nx m) (ev_dn b z 12 0 [some (.int x0), some (.int x1)] [] (nx, mem L nx m)) := by
  unfold d_12
  refine i_bl (pc' := 6) [(.iload_n 0, 1), (.bipush (8), 2), (.iload_n 1, 1), (.imul, 1), (.iadd, 1)] [some (.int x0), some (.int x1)] [.int (x0 + (8 * x1))] (by decide +kernel) rfl ?_
  exact i_ri (by decide +kernel) rfl

/-! 20 LanternChess$Field.valueOf(I)I -/
noncomputable def d_20 (x0 : Int32) (m : Mm) : Option Int32 := wb (x0 - x0 / 6 * 6) fun y1 => if x0 < 0 then (some 0) else (if 6 ≤ y1 then (some 0) else (if ev_in y1 6 = true then (some (m 0 (ix y1))) else none))
theorem t_20 {L nx : Nat} (hN : okn nx) {b z : Nat} {m : Mm}  {x0 : Int32}  : Im (d_20 x0 m) (kI L nx m) (ev_dn b z 20 0 [some (.int x0), none] [] (nx, mem L nx m)) := by
  unfold d_20
  refine i_bl (pc' := 3) [(.iload_n 0, 1), (.bipush (6), 2)] [some (.int x0), none] [.int 6, .int x0] (by decide +kernel) rfl ?_
  refine i_rem0 (pc' := 4) (by decide +kernel) (by decide) ?_
  refine i_bl (pc' := 5) [(.istore_n 1, 1)] [some (.int x0), some (.int (x0 - x0 / 6 * 6))] [] (by decide +kernel) rfl ?_
  refine i_wb (fun y1 => ev_dn b z 20 5 [some (.int x0), some (.int y1)] [] (nx, mem L nx m)) (fun y1 => ?_)
  refine i_bl (pc' := 6) [(.iload_n 0, 1)] [some (.int x0), some (.int y1)] [.int x0] (by decide +kernel) rfl ?_
  refine i_if (c := .lt) (off := 19) (t := 25) (pc' := 9) (p := x0 < 0) (by decide +kernel) rfl ?_ ?_
  · refine i_bl (pc' := 26) [(.iconst 0, 1)] [some (.int x0), some (.int y1)] [.int 0] (by decide +kernel) rfl ?_
    exact i_ri (by decide +kernel) rfl
  · refine i_bl (pc' := 10) [(.iload_n 1, 1)] [some (.int x0), some (.int y1)] [.int y1] (by decide +kernel) rfl ?_
    refine i_gs (w := 0) (pc' := 13) (idx := 34) (by decide +kernel) ?_
    refine i_lS (pc' := 14) 6 (by decide +kernel) rfl (o_lo hN (by decide +kernel)) ?_
    refine i_ic (c := .ge) (off := 11) (t := 25) (pc' := 17) (p := 6 ≤ y1) (by decide +kernel) rfl ?_ ?_
    · refine i_bl (pc' := 26) [(.iconst 0, 1)] [some (.int x0), some (.int y1)] [.int 0] (by decide +kernel) rfl ?_
      exact i_ri (by decide +kernel) rfl
    · refine i_gs (w := 0) (pc' := 20) (idx := 34) (by decide +kernel) ?_
      refine i_bl (pc' := 21) [(.iload_n 1, 1)] [some (.int x0), some (.int y1)] [.int y1, .ref 0] (by decide +kernel) rfl ?_
      refine i_aS (pc' := 22) 6 (by decide +kernel) rfl (o_lo hN (by decide +kernel)) ?_
      refine i_go (t := 26) (off := 4) (by decide +kernel) ?_
      exact i_ri (by decide +kernel) rfl

/-! 27 LanternChess$Field.gainOf(II)I -/
noncomputable def d_27 (a0 : Nat) (x1 : Int32) (x2 : Int32) (m : Mm) : Option Int32 := (d_17 a0 x2 m).bind fun v1 => (d_20 v1 m).bind fun v2 => (d_17 a0 x1 m).bind fun v3 => (d_24 a0 v3 x2 m).bind fun v4 => if v4 = true then (some (v2 + 8)) else (some (v2 + 0))
theorem t_27 {L nx : Nat} (hN : okn nx) {b z : Nat} {m : Mm} {a0 : Nat} (h0 : ok nx a0 1) {x1 : Int32} {x2 : Int32}  : Im (d_27 a0 x1 x2 m) (kI L nx m) (ev_dn b z 27 0 [some (.ref a0), some (.int x1), some (.int x2)] [] (nx, mem L nx m)) := by
  unfold d_27
  refine i_bl (pc' := 2) [(.aload_n 0, 1), (.iload_n 2, 1)] [some (.ref a0), some (.int x1), some (.int x2)] [.int x2, .ref a0] (by decide +kernel) rfl ?_
  refine i_cv (ci := 1) (t := 17) (na := 2) (ml := 2) (idx := 37) (pc' := 5) (st' := []) (en := [some (.ref a0), some (.int x2)]) (av := [.int x2]) (vo := fun v => some (.int v)) (mo := fun _ => m) (s2 := fun v => .int v :: []) (by decide +kernel) (by decide +kernel) h0 ⟨rfl, rfl, rfl, rfl, rfl, rfl⟩ (fun _ => rfl) (t_17 hN (h0 := h0)) (fun v1 => ?_)
  refine i_cs (t := 20) (na := 1) (ml := 2) (idx := 86) (pc' := 8) (st' := []) (en := [some (.int v1), none]) (av := [.int v1]) (vo := fun v => some (.int v)) (mo := fun _ => m) (s2 := fun v => .int v :: []) (by decide +kernel) ⟨rfl, rfl, rfl, rfl, rfl, rfl⟩ (fun _ => rfl) (t_20 hN ) (fun v2 => ?_)
  refine i_bl (pc' := 11) [(.aload_n 0, 1), (.aload_n 0, 1), (.iload_n 1, 1)] [some (.ref a0), some (.int x1), some (.int x2)] [.int x1, .ref a0, .ref a0, .int v2] (by decide +kernel) rfl ?_
  refine i_cv (ci := 1) (t := 17) (na := 2) (ml := 2) (idx := 37) (pc' := 14) (st' := [.ref a0, .int v2]) (en := [some (.ref a0), some (.int x1)]) (av := [.int x1]) (vo := fun v => some (.int v)) (mo := fun _ => m) (s2 := fun v => .int v :: [.ref a0, .int v2]) (by decide +kernel) (by decide +kernel) h0 ⟨rfl, rfl, rfl, rfl, rfl, rfl⟩ (fun _ => rfl) (t_17 hN (h0 := h0)) (fun v3 => ?_)
  refine i_bl (pc' := 15) [(.iload_n 2, 1)] [some (.ref a0), some (.int x1), some (.int x2)] [.int x2, .int v3, .ref a0, .int v2] (by decide +kernel) rfl ?_
  refine i_cv (ci := 1) (t := 24) (na := 3) (ml := 3) (idx := 76) (pc' := 18) (st' := [.int v2]) (en := [some (.ref a0), some (.int v3), some (.int x2)]) (av := [.int v3, .int x2]) (vo := fun v => some (.int (bi v))) (mo := fun _ => m) (s2 := fun v => .int (bi v) :: [.int v2]) (by decide +kernel) (by decide +kernel) h0 ⟨rfl, rfl, rfl, rfl, rfl, rfl⟩ (fun _ => rfl) (t_24 hN (h0 := h0)) (fun v4 => ?_)
  refine i_bz (off := 8) (t := 26) (pc' := 21) (by decide +kernel) ?_ ?_
  · refine i_bl (pc' := 23) [(.bipush (8), 2)] [some (.ref a0), some (.int x1), some (.int x2)] [.int 8, .int v2] (by decide +kernel) rfl ?_
    refine i_go (t := 27) (off := 4) (by decide +kernel) ?_
    refine i_bl (pc' := 28) [(.iadd, 1)] [some (.ref a0), some (.int x1), some (.int x2)] [.int (v2 + 8)] (by decide +kernel) rfl ?_
    exact i_ri (by decide +kernel) rfl
  · refine i_bl (pc' := 28) [(.iconst 0, 1), (.iadd, 1)] [some (.ref a0), some (.int x1), some (.int x2)] [.int (v2 + 0)] (by decide +kernel) rfl ?_
    exact i_ri (by decide +kernel) rfl

/-! 28 LanternChess$Field.greatestGain(I)I -/
noncomputable def E_28_4 (L nx b z : Nat) (a0 : Nat) (x1 : Int32) (m : Mm) (d : Option Value × Option Value) (s : (Int32 × Int32)) : ev_Q := ev_dn b z 28 4 [some (.ref a0), some (.int x1), some (.int s.1), some (.int s.2), d.1, d.2] [] (nx, mem L nx m)
noncomputable def E_28_29 (L nx b z : Nat) (a0 : Nat) (x1 : Int32) (x3 : Int32) (m : Mm) (d : Option Value) (s : (Int32 × Int32)) : ev_Q := ev_dn b z 28 29 [some (.ref a0), some (.int x1), some (.int s.1), some (.int x3), some (.int s.2), d] [] (nx, mem L nx m)
noncomputable def s_28_29 (a0 : Nat) (x1 : Int32) (x3 : Int32) (m : Mm) (x2 : Int32) (x4 : Int32) : Option ((Int32 × Int32) ⊕ ((Int32 × Int32) ⊕ Int32)) := if 64 ≤ x4 then (wb (x3 + 1) fun y2 => some (.inr (.inl (x2, y2)))) else ((d_27 a0 x3 x4 m).bind fun v3 => if v3 ≤ x2 then (wb (x4 + 1) fun y4 => some (.inl (x2, y4))) else ((d_21 a0 x1 x3 x4 m).bind fun v5 => if v5 = true then (wb (x4 + 1) fun y7 => some (.inl (v3, y7))) else (wb (x4 + 1) fun y6 => some (.inl (x2, y6)))))
noncomputable def d_28_29 (a0 : Nat) (x1 : Int32) (x3 : Int32) (m : Mm) (x2 : Int32) (x4 : Int32) : Option ((Int32 × Int32) ⊕ Int32) := it (fun s => s_28_29 a0 x1 x3 m s.1 s.2) (x2, x4)
theorem e_28_29 (a0 : Nat) (x1 : Int32) (x3 : Int32) (m : Mm) (x2 : Int32) (x4 : Int32) : d_28_29 a0 x1 x3 m x2 x4 = oi (s_28_29 a0 x1 x3 m x2 x4) (fun s => d_28_29 a0 x1 x3 m s.1 s.2) := it_eq _
theorem u_28_29 {L nx : Nat} (hN : okn nx) {b z : Nat} {m : Mm} {a0 : Nat} (h0 : ok nx a0 1) {x1 : Int32} {x2 : Int32} {x3 : Int32} {x4 : Int32} {o5 : Option Value} : Im (s_28_29 a0 x1 x3 m x2 x4) (kL (kL (kI L nx m) (E_28_4 L nx b z a0 x1 m)) (E_28_29 L nx b z a0 x1 x3 m)) (ev_dn b z 28 29 [some (.ref a0), some (.int x1), some (.int x2), some (.int x3), some (.int x4), o5] [] (nx, mem L nx m)) := by
  unfold s_28_29
  refine i_bl (pc' := 33) [(.iload 4, 2), (.bipush (64), 2)] [some (.ref a0), some (.int x1), some (.int x2), some (.int x3), some (.int x4), o5] [.int 64, .int x4] (by decide +kernel) rfl ?_
  refine i_ic (c := .ge) (off := 38) (t := 71) (pc' := 36) (p := 64 ≤ x4) (by decide +kernel) rfl ?_ ?_
  · refine i_bl (pc' := 74) [(.iinc 3 (1), 3)] [some (.ref a0), some (.int x1), some (.int x2), some (.int (x3 + 1)), some (.int x4), o5] [] (by decide +kernel) rfl ?_
    refine i_wb (fun y2 => ev_dn b z 28 74 [some (.ref a0), some (.int x1), some (.int x2), some (.int y2), some (.int x4), o5] [] (nx, mem L nx m)) (fun y2 => ?_)
    refine i_go (t := 4) (off := -70) (by decide +kernel) ?_
    exact i_ir (i_co (some (.int x4), o5) rfl)
  · refine i_bl (pc' := 40) [(.aload_n 0, 1), (.iload_n 3, 1), (.iload 4, 2)] [some (.ref a0), some (.int x1), some (.int x2), some (.int x3), some (.int x4), o5] [.int x4, .int x3, .ref a0] (by decide +kernel) rfl ?_
    refine i_cv (ci := 1) (t := 27) (na := 3) (ml := 3) (idx := 89) (pc' := 43) (st' := []) (en := [some (.ref a0), some (.int x3), some (.int x4)]) (av := [.int x3, .int x4]) (vo := fun v => some (.int v)) (mo := fun _ => m) (s2 := fun v => .int v :: []) (by decide +kernel) (by decide +kernel) h0 ⟨rfl, rfl, rfl, rfl, rfl, rfl⟩ (fun _ => rfl) (t_27 hN (h0 := h0)) (fun v3 => ?_)
    refine i_bl (pc' := 48) [(.istore 5, 2), (.iload 5, 2), (.iload_n 2, 1)] [some (.ref a0), some (.int x1), some (.int x2), some (.int x3), some (.int x4), some (.int v3)] [.int x2, .int v3] (by decide +kernel) rfl ?_
    refine i_ic (c := .le) (off := 17) (t := 65) (pc' := 51) (p := v3 ≤ x2) (by decide +kernel) rfl ?_ ?_
    · refine i_bl (pc' := 68) [(.iinc 4 (1), 3)] [some (.ref a0), some (.int x1), some (.int x2), some (.int x3), some (.int (x4 + 1)), some (.int v3)] [] (by decide +kernel) rfl ?_
      refine i_wb (fun y4 => ev_dn b z 28 68 [some (.ref a0), some (.int x1), some (.int x2), some (.int x3), some (.int y4), some (.int v3)] [] (nx, mem L nx m)) (fun y4 => ?_)
      refine i_go (t := 29) (off := -39) (by decide +kernel) ?_
      exact i_co (some (.int v3)) rfl
    · refine i_bl (pc' := 56) [(.aload_n 0, 1), (.iload_n 1, 1), (.iload_n 3, 1), (.iload 4, 2)] [some (.ref a0), some (.int x1), some (.int x2), some (.int x3), some (.int x4), some (.int v3)] [.int x4, .int x3, .int x1, .ref a0] (by decide +kernel) rfl ?_
      refine i_cv (ci := 1) (t := 21) (na := 4) (ml := 6) (idx := 92) (pc' := 59) (st' := []) (en := [some (.ref a0), some (.int x1), some (.int x3), some (.int x4), none, none]) (av := [.int x1, .int x3, .int x4]) (vo := fun v => some (.int (bi v))) (mo := fun _ => m) (s2 := fun v => .int (bi v) :: []) (by decide +kernel) (by decide +kernel) h0 ⟨rfl, rfl, rfl, rfl, rfl, rfl⟩ (fun _ => rfl) (t_21 hN (h0 := h0)) (fun v5 => ?_)
      refine i_bz (off := 6) (t := 65) (pc' := 62) (by decide +kernel) ?_ ?_
      · refine i_bl (pc' := 68) [(.iload 5, 2), (.istore_n 2, 1), (.iinc 4 (1), 3)] [some (.ref a0), some (.int x1), some (.int v3), some (.int x3), some (.int (x4 + 1)), some (.int v3)] [] (by decide +kernel) rfl ?_
        refine i_wb (fun y7 => ev_dn b z 28 68 [some (.ref a0), some (.int x1), some (.int v3), some (.int x3), some (.int y7), some (.int v3)] [] (nx, mem L nx m)) (fun y7 => ?_)
        refine i_go (t := 29) (off := -39) (by decide +kernel) ?_
        exact i_co (some (.int v3)) rfl
      · refine i_bl (pc' := 68) [(.iinc 4 (1), 3)] [some (.ref a0), some (.int x1), some (.int x2), some (.int x3), some (.int (x4 + 1)), some (.int v3)] [] (by decide +kernel) rfl ?_
        refine i_wb (fun y6 => ev_dn b z 28 68 [some (.ref a0), some (.int x1), some (.int x2), some (.int x3), some (.int y6), some (.int v3)] [] (nx, mem L nx m)) (fun y6 => ?_)
        refine i_go (t := 29) (off := -39) (by decide +kernel) ?_
        exact i_co (some (.int v3)) rfl

theorem t_28_29 {L nx : Nat} (hN : okn nx) {b z : Nat} {m : Mm} {a0 : Nat} (h0 : ok nx a0 1) {x1 : Int32} {x2 : Int32} {x3 : Int32} {x4 : Int32} {o5 : Option Value} : Im (d_28_29 a0 x1 x3 m x2 x4) (kL (kI L nx m) (E_28_4 L nx b z a0 x1 m)) (ev_dn b z 28 29 [some (.ref a0), some (.int x1), some (.int x2), some (.int x3), some (.int x4), o5] [] (nx, mem L nx m)) := by
  exact i_it (f := fun s => s_28_29 a0 x1 x3 m s.1 s.2) (E := E_28_29 L nx b z a0 x1 x3 m) (K := (kL (kI L nx m) (E_28_4 L nx b z a0 x1 m))) (fun d s => u_28_29 hN (h0 := h0)) (o5) (x2, x4)
noncomputable def s_28_4 (a0 : Nat) (x1 : Int32) (m : Mm) (x2 : Int32) (x3 : Int32) : Option ((Int32 × Int32) ⊕ Int32) := if 64 ≤ x3 then (some (.inr x2)) else (if ev_in x3 (sh_n (sh_r a0 0)) = true then ((d_19 (m (sh_r a0 0) (ix x3)) x1).bind fun v1 => if v1 = true then (d_28_29 a0 x1 x3 m x2 0) else (wb (x3 + 1) fun y8 => some (.inl (x2, y8)))) else none)
noncomputable def d_28_4 (a0 : Nat) (x1 : Int32) (m : Mm) (x2 : Int32) (x3 : Int32) : Option Int32 := it (fun s => s_28_4 a0 x1 m s.1 s.2) (x2, x3)
theorem e_28_4 (a0 : Nat) (x1 : Int32) (m : Mm) (x2 : Int32) (x3 : Int32) : d_28_4 a0 x1 m x2 x3 = oi (s_28_4 a0 x1 m x2 x3) (fun s => d_28_4 a0 x1 m s.1 s.2) := it_eq _
theorem u_28_4 {L nx : Nat} (hN : okn nx) {b z : Nat} {m : Mm} {a0 : Nat} (h0 : ok nx a0 1) {x1 : Int32} {x2 : Int32} {x3 : Int32} {o4 : Option Value} {o5 : Option Value} : Im (s_28_4 a0 x1 m x2 x3) (kL (kI L nx m) (E_28_4 L nx b z a0 x1 m)) (ev_dn b z 28 4 [some (.ref a0), some (.int x1), some (.int x2), some (.int x3), o4, o5] [] (nx, mem L nx m)) := by
  unfold s_28_4
  refine i_bl (pc' := 7) [(.iload_n 3, 1), (.bipush (64), 2)] [some (.ref a0), some (.int x1), some (.int x2), some (.int x3), o4, o5] [.int 64, .int x3] (by decide +kernel) rfl ?_
  refine i_ic (c := .ge) (off := 70) (t := 77) (pc' := 10) (p := 64 ≤ x3) (by decide +kernel) rfl ?_ ?_
  · refine i_bl (pc' := 78) [(.iload_n 2, 1)] [some (.ref a0), some (.int x1), some (.int x2), some (.int x3), o4, o5] [.int x2] (by decide +kernel) rfl ?_
    exact i_ir (i_ri (by decide +kernel) rfl)
  · refine i_bl (pc' := 11) [(.aload_n 0, 1)] [some (.ref a0), some (.int x1), some (.int x2), some (.int x3), o4, o5] [.ref a0] (by decide +kernel) rfl ?_
    refine i_gr (idx := 9) (ci := 1) (k := 0) (t := 2) (p := 11098) (pc' := 14) (by decide +kernel) h0 ?_
    refine i_bl (pc' := 15) [(.iload_n 3, 1)] [some (.ref a0), some (.int x1), some (.int x2), some (.int x3), o4, o5] [.int x3, .ref (sh_r a0 0)] (by decide +kernel) rfl ?_
    refine i_al (pc' := 16) (by decide +kernel) (o_1_0 hN h0) ?_
    refine i_bl (pc' := 17) [(.iload_n 1, 1)] [some (.ref a0), some (.int x1), some (.int x2), some (.int x3), o4, o5] [.int x1, .int (m (sh_r a0 0) (ix x3))] (by decide +kernel) rfl ?_
    refine i_cs (t := 19) (na := 2) (ml := 2) (idx := 41) (pc' := 20) (st' := []) (en := [some (.int (m (sh_r a0 0) (ix x3))), some (.int x1)]) (av := [.int (m (sh_r a0 0) (ix x3)), .int x1]) (vo := fun v => some (.int (bi v))) (mo := fun _ => m) (s2 := fun v => .int (bi v) :: []) (by decide +kernel) ⟨rfl, rfl, rfl, rfl, rfl, rfl⟩ (fun _ => rfl) (t_19 hN ) (fun v1 => ?_)
    refine i_bn (off := 6) (t := 26) (pc' := 23) (by decide +kernel) ?_ ?_
    · refine i_bl (pc' := 29) [(.iconst 0, 1), (.istore 4, 2)] [some (.ref a0), some (.int x1), some (.int x2), some (.int x3), some (.int 0), o5] [] (by decide +kernel) rfl ?_
      exact t_28_29 hN (h0 := h0)
    · refine i_go (t := 71) (off := 48) (by decide +kernel) ?_
      refine i_bl (pc' := 74) [(.iinc 3 (1), 3)] [some (.ref a0), some (.int x1), some (.int x2), some (.int (x3 + 1)), o4, o5] [] (by decide +kernel) rfl ?_
      refine i_wb (fun y8 => ev_dn b z 28 74 [some (.ref a0), some (.int x1), some (.int x2), some (.int y8), o4, o5] [] (nx, mem L nx m)) (fun y8 => ?_)
      refine i_go (t := 4) (off := -70) (by decide +kernel) ?_
      exact i_co (o4, o5) rfl

theorem t_28_4 {L nx : Nat} (hN : okn nx) {b z : Nat} {m : Mm} {a0 : Nat} (h0 : ok nx a0 1) {x1 : Int32} {x2 : Int32} {x3 : Int32} {o4 : Option Value} {o5 : Option Value} : Im (d_28_4 a0 x1 m x2 x3) (kI L nx m) (ev_dn b z 28 4 [some (.ref a0), some (.int x1), some (.int x2), some (.int x3), o4, o5] [] (nx, mem L nx m)) := by
  exact i_it (f := fun s => s_28_4 a0 x1 m s.1 s.2) (E := E_28_4 L nx b z a0 x1 m) (K := (kI L nx m)) (fun d s => u_28_4 hN (h0 := h0)) (o4, o5) (x2, x3)
noncomputable def d_28 (a0 : Nat) (x1 : Int32) (m : Mm) : Option Int32 := d_28_4 a0 x1 m 0 0
theorem t_28 {L nx : Nat} (hN : okn nx) {b z : Nat} {m : Mm} {a0 : Nat} (h0 : ok nx a0 1) {x1 : Int32}  : Im (d_28 a0 x1 m) (kI L nx m) (ev_dn b z 28 0 [some (.ref a0), some (.int x1), none, none, none, none] [] (nx, mem L nx m)) := by
  unfold d_28
  refine i_bl (pc' := 4) [(.iconst 0, 1), (.istore_n 2, 1), (.iconst 0, 1), (.istore_n 3, 1)] [some (.ref a0), some (.int x1), some (.int 0), some (.int 0), none, none] [] (by decide +kernel) rfl ?_
  exact t_28_4 hN (h0 := h0)

/-! 29 LanternChess$Field.attacksOn(II)I -/
noncomputable def E_29_5 (L nx b z : Nat) (a0 : Nat) (x1 : Int32) (x2 : Int32) (m : Mm) (d : Unit) (s : (Int32 × Int32)) : ev_Q := ev_dn b z 29 5 [some (.ref a0), some (.int x1), some (.int x2), some (.int s.1), some (.int s.2)] [] (nx, mem L nx m)
noncomputable def s_29_5 (a0 : Nat) (x1 : Int32) (x2 : Int32) (m : Mm) (x3 : Int32) (x4 : Int32) : Option ((Int32 × Int32) ⊕ Int32) := if 64 ≤ x4 then (some (.inr x3)) else (if ev_in x4 (sh_n (sh_r a0 0)) = true then ((d_19 (m (sh_r a0 0) (ix x4)) x1).bind fun v1 => if v1 = true then (if ev_in x4 (sh_n (sh_r a0 0)) = true then ((d_22 a0 (m (sh_r a0 0) (ix x4)) x4 x2 true m).bind fun v3 => if v3 = true then (wb (x3 + 1) fun y5 => wb (x4 + 1) fun y6 => some (.inl (y5, y6))) else (wb (x4 + 1) fun y4 => some (.inl (x3, y4)))) else none) else (wb (x4 + 1) fun y2 => some (.inl (x3, y2)))) else none)
noncomputable def d_29_5 (a0 : Nat) (x1 : Int32) (x2 : Int32) (m : Mm) (x3 : Int32) (x4 : Int32) : Option Int32 := it (fun s => s_29_5 a0 x1 x2 m s.1 s.2) (x3, x4)
theorem e_29_5 (a0 : Nat) (x1 : Int32) (x2 : Int32) (m : Mm) (x3 : Int32) (x4 : Int32) : d_29_5 a0 x1 x2 m x3 x4 = oi (s_29_5 a0 x1 x2 m x3 x4) (fun s => d_29_5 a0 x1 x2 m s.1 s.2) := it_eq _
theorem u_29_5 {L nx : Nat} (hN : okn nx) {b z : Nat} {m : Mm} {a0 : Nat} (h0 : ok nx a0 1) {x1 : Int32} {x2 : Int32} {x3 : Int32} {x4 : Int32}  : Im (s_29_5 a0 x1 x2 m x3 x4) (kL (kI L nx m) (E_29_5 L nx b z a0 x1 x2 m)) (ev_dn b z 29 5 [some (.ref a0), some (.int x1), some (.int x2), some (.int x3), some (.int x4)] [] (nx, mem L nx m)) := by
  unfold s_29_5
  refine i_bl (pc' := 9) [(.iload 4, 2), (.bipush (64), 2)] [some (.ref a0), some (.int x1), some (.int x2), some (.int x3), some (.int x4)] [.int 64, .int x4] (by decide +kernel) rfl ?_
  refine i_ic (c := .ge) (off := 44) (t := 53) (pc' := 12) (p := 64 ≤ x4) (by decide +kernel) rfl ?_ ?_
  · refine i_bl (pc' := 54) [(.iload_n 3, 1)] [some (.ref a0), some (.int x1), some (.int x2), some (.int x3), some (.int x4)] [.int x3] (by decide +kernel) rfl ?_
    exact i_ir (i_ri (by decide +kernel) rfl)
  · refine i_bl (pc' := 13) [(.aload_n 0, 1)] [some (.ref a0), some (.int x1), some (.int x2), some (.int x3), some (.int x4)] [.ref a0] (by decide +kernel) rfl ?_
    refine i_gr (idx := 9) (ci := 1) (k := 0) (t := 2) (p := 11098) (pc' := 16) (by decide +kernel) h0 ?_
    refine i_bl (pc' := 18) [(.iload 4, 2)] [some (.ref a0), some (.int x1), some (.int x2), some (.int x3), some (.int x4)] [.int x4, .ref (sh_r a0 0)] (by decide +kernel) rfl ?_
    refine i_al (pc' := 19) (by decide +kernel) (o_1_0 hN h0) ?_
    refine i_bl (pc' := 20) [(.iload_n 1, 1)] [some (.ref a0), some (.int x1), some (.int x2), some (.int x3), some (.int x4)] [.int x1, .int (m (sh_r a0 0) (ix x4))] (by decide +kernel) rfl ?_
    refine i_cs (t := 19) (na := 2) (ml := 2) (idx := 41) (pc' := 23) (st' := []) (en := [some (.int (m (sh_r a0 0) (ix x4))), some (.int x1)]) (av := [.int (m (sh_r a0 0) (ix x4)), .int x1]) (vo := fun v => some (.int (bi v))) (mo := fun _ => m) (s2 := fun v => .int (bi v) :: []) (by decide +kernel) ⟨rfl, rfl, rfl, rfl, rfl, rfl⟩ (fun _ => rfl) (t_19 hN ) (fun v1 => ?_)
    refine i_bz (off := 24) (t := 47) (pc' := 26) (by decide +kernel) ?_ ?_
    · refine i_bl (pc' := 28) [(.aload_n 0, 1), (.aload_n 0, 1)] [some (.ref a0), some (.int x1), some (.int x2), some (.int x3), some (.int x4)] [.ref a0, .ref a0] (by decide +kernel) rfl ?_
      refine i_gr (idx := 9) (ci := 1) (k := 0) (t := 2) (p := 11098) (pc' := 31) (by decide +kernel) h0 ?_
      refine i_bl (pc' := 33) [(.iload 4, 2)] [some (.ref a0), some (.int x1), some (.int x2), some (.int x3), some (.int x4)] [.int x4, .ref (sh_r a0 0), .ref a0] (by decide +kernel) rfl ?_
      refine i_al (pc' := 34) (by decide +kernel) (o_1_0 hN h0) ?_
      refine i_bl (pc' := 38) [(.iload 4, 2), (.iload_n 2, 1), (.iconst 1, 1)] [some (.ref a0), some (.int x1), some (.int x2), some (.int x3), some (.int x4)] [.int 1, .int x2, .int x4, .int (m (sh_r a0 0) (ix x4)), .ref a0] (by decide +kernel) rfl ?_
      refine i_cv (ci := 1) (t := 22) (na := 5) (ml := 13) (idx := 54) (pc' := 41) (st' := []) (en := [some (.ref a0), some (.int (m (sh_r a0 0) (ix x4))), some (.int x4), some (.int x2), some (.int (bi true)), none, none, none, none, none, none, none, none]) (av := [.int (m (sh_r a0 0) (ix x4)), .int x4, .int x2, .int (bi true)]) (vo := fun v => some (.int (bi v))) (mo := fun _ => m) (s2 := fun v => .int (bi v) :: []) (by decide +kernel) (by decide +kernel) h0 ⟨rfl, rfl, rfl, rfl, rfl, rfl⟩ (fun _ => rfl) (t_22 hN (h0 := h0)) (fun v3 => ?_)
      refine i_bz (off := 6) (t := 47) (pc' := 44) (by decide +kernel) ?_ ?_
      · refine i_bl (pc' := 47) [(.iinc 3 (1), 3)] [some (.ref a0), some (.int x1), some (.int x2), some (.int (x3 + 1)), some (.int x4)] [] (by decide +kernel) rfl ?_
        refine i_wb (fun y5 => ev_dn b z 29 47 [some (.ref a0), some (.int x1), some (.int x2), some (.int y5), some (.int x4)] [] (nx, mem L nx m)) (fun y5 => ?_)
        refine i_bl (pc' := 50) [(.iinc 4 (1), 3)] [some (.ref a0), some (.int x1), some (.int x2), some (.int y5), some (.int (x4 + 1))] [] (by decide +kernel) rfl ?_
        refine i_wb (fun y6 => ev_dn b z 29 50 [some (.ref a0), some (.int x1), some (.int x2), some (.int y5), some (.int y6)] [] (nx, mem L nx m)) (fun y6 => ?_)
        refine i_go (t := 5) (off := -45) (by decide +kernel) ?_
        exact i_co () rfl
      · refine i_bl (pc' := 50) [(.iinc 4 (1), 3)] [some (.ref a0), some (.int x1), some (.int x2), some (.int x3), some (.int (x4 + 1))] [] (by decide +kernel) rfl ?_
        refine i_wb (fun y4 => ev_dn b z 29 50 [some (.ref a0), some (.int x1), some (.int x2), some (.int x3), some (.int y4)] [] (nx, mem L nx m)) (fun y4 => ?_)
        refine i_go (t := 5) (off := -45) (by decide +kernel) ?_
        exact i_co () rfl
    · refine i_bl (pc' := 50) [(.iinc 4 (1), 3)] [some (.ref a0), some (.int x1), some (.int x2), some (.int x3), some (.int (x4 + 1))] [] (by decide +kernel) rfl ?_
      refine i_wb (fun y2 => ev_dn b z 29 50 [some (.ref a0), some (.int x1), some (.int x2), some (.int x3), some (.int y2)] [] (nx, mem L nx m)) (fun y2 => ?_)
      refine i_go (t := 5) (off := -45) (by decide +kernel) ?_
      exact i_co () rfl

theorem t_29_5 {L nx : Nat} (hN : okn nx) {b z : Nat} {m : Mm} {a0 : Nat} (h0 : ok nx a0 1) {x1 : Int32} {x2 : Int32} {x3 : Int32} {x4 : Int32}  : Im (d_29_5 a0 x1 x2 m x3 x4) (kI L nx m) (ev_dn b z 29 5 [some (.ref a0), some (.int x1), some (.int x2), some (.int x3), some (.int x4)] [] (nx, mem L nx m)) := by
  exact i_it (f := fun s => s_29_5 a0 x1 x2 m s.1 s.2) (E := E_29_5 L nx b z a0 x1 x2 m) (K := (kI L nx m)) (fun d s => u_29_5 hN (h0 := h0)) () (x3, x4)
noncomputable def d_29 (a0 : Nat) (x1 : Int32) (x2 : Int32) (m : Mm) : Option Int32 := d_29_5 a0 x1 x2 m 0 0
theorem t_29 {L nx : Nat} (hN : okn nx) {b z : Nat} {m : Mm} {a0 : Nat} (h0 : ok nx a0 1) {x1 : Int32} {x2 : Int32}  : Im (d_29 a0 x1 x2 m) (kI L nx m) (ev_dn b z 29 0 [some (.ref a0), some (.int x1), some (.int x2), none, none] [] (nx, mem L nx m)) := by
  unfold d_29
  refine i_bl (pc' := 5) [(.iconst 0, 1), (.istore_n 3, 1), (.iconst 0, 1), (.istore 4, 2)] [some (.ref a0), some (.int x1), some (.int x2), some (.int 0), some (.int 0)] [] (by decide +kernel) rfl ?_
  exact t_29_5 hN (h0 := h0)

/-! 30 LanternChess$Field.isKingExposed(I)Z -/
noncomputable def E_30_2 (L nx b z : Nat) (a0 : Nat) (x1 : Int32) (m : Mm) (d : Unit) (s : (Int32)) : ev_Q := ev_dn b z 30 2 [some (.ref a0), some (.int x1), some (.int s)] [] (nx, mem L nx m)
noncomputable def d_30_23 (a0 : Nat) (x1 : Int32) (x2 : Int32) (m : Mm) : Option Bool := (d_29 a0 (1 - x1) x2 m).bind fun v2 => if v2 ≤ 0 then (some false) else (some true)
theorem t_30_23 {L nx : Nat} (hN : okn nx) {b z : Nat} {m : Mm} {a0 : Nat} (h0 : ok nx a0 1) {x1 : Int32} {x2 : Int32}  : Im (d_30_23 a0 x1 x2 m) (kZ L nx m) (ev_dn b z 30 23 [some (.ref a0), some (.int x1), some (.int x2)] [] (nx, mem L nx m)) := by
  unfold d_30_23
  refine i_bl (pc' := 28) [(.aload_n 0, 1), (.iconst 1, 1), (.iload_n 1, 1), (.isub, 1), (.iload_n 2, 1)] [some (.ref a0), some (.int x1), some (.int x2)] [.int x2, .int (1 - x1), .ref a0] (by decide +kernel) rfl ?_
  refine i_cv (ci := 1) (t := 29) (na := 3) (ml := 5) (idx := 95) (pc' := 31) (st' := []) (en := [some (.ref a0), some (.int (1 - x1)), some (.int x2), none, none]) (av := [.int (1 - x1), .int x2]) (vo := fun v => some (.int v)) (mo := fun _ => m) (s2 := fun v => .int v :: []) (by decide +kernel) (by decide +kernel) h0 ⟨rfl, rfl, rfl, rfl, rfl, rfl⟩ (fun _ => rfl) (t_29 hN (h0 := h0)) (fun v2 => ?_)
  refine i_if (c := .le) (off := 7) (t := 38) (pc' := 34) (p := v2 ≤ 0) (by decide +kernel) rfl ?_ ?_
  · refine i_bl (pc' := 39) [(.iconst 0, 1)] [some (.ref a0), some (.int x1), some (.int x2)] [.int 0] (by decide +kernel) rfl ?_
    exact i_rz (B := false) (by decide +kernel) rfl
  · refine i_bl (pc' := 35) [(.iconst 1, 1)] [some (.ref a0), some (.int x1), some (.int x2)] [.int 1] (by decide +kernel) rfl ?_
    refine i_go (t := 39) (off := 4) (by decide +kernel) ?_
    exact i_rz (B := true) (by decide +kernel) rfl

noncomputable def s_30_2 (a0 : Nat) (x1 : Int32) (m : Mm) (x2 : Int32) : Option ((Int32) ⊕ Bool) := if 64 ≤ x2 then (some (.inr false)) else (if ev_in x2 (sh_n (sh_r a0 0)) = true then (if ¬ (m (sh_r a0 0) (ix x2)) = (0 + (6 * x1)) then (wb (x2 + 1) fun y1 => some (.inl (y1))) else ((d_30_23 a0 x1 x2 m).map Sum.inr)) else none)
noncomputable def d_30_2 (a0 : Nat) (x1 : Int32) (m : Mm) (x2 : Int32) : Option Bool := it (fun s => s_30_2 a0 x1 m s) (x2)
theorem e_30_2 (a0 : Nat) (x1 : Int32) (m : Mm) (x2 : Int32) : d_30_2 a0 x1 m x2 = oi (s_30_2 a0 x1 m x2) (fun s => d_30_2 a0 x1 m s) := it_eq _
theorem u_30_2 {L nx : Nat} (hN : okn nx) {b z : Nat} {m : Mm} {a0 : Nat} (h0 : ok nx a0 1) {x1 : Int32} {x2 : Int32}  : Im (s_30_2 a0 x1 m x2) (kL (kZ L nx m) (E_30_2 L nx b z a0 x1 m)) (ev_dn b z 30 2 [some (.ref a0), some (.int x1), some (.int x2)] [] (nx, mem L nx m)) := by
  unfold s_30_2
  refine i_bl (pc' := 5) [(.iload_n 2, 1), (.bipush (64), 2)] [some (.ref a0), some (.int x1), some (.int x2)] [.int 64, .int x2] (by decide +kernel) rfl ?_
  refine i_ic (c := .ge) (off := 41) (t := 46) (pc' := 8) (p := 64 ≤ x2) (by decide +kernel) rfl ?_ ?_
  · refine i_bl (pc' := 47) [(.iconst 0, 1)] [some (.ref a0), some (.int x1), some (.int x2)] [.int 0] (by decide +kernel) rfl ?_
    exact i_ir (i_rz (B := false) (by decide +kernel) rfl)
  · refine i_bl (pc' := 9) [(.aload_n 0, 1)] [some (.ref a0), some (.int x1), some (.int x2)] [.ref a0] (by decide +kernel) rfl ?_
    refine i_gr (idx := 9) (ci := 1) (k := 0) (t := 2) (p := 11098) (pc' := 12) (by decide +kernel) h0 ?_
    refine i_bl (pc' := 13) [(.iload_n 2, 1)] [some (.ref a0), some (.int x1), some (.int x2)] [.int x2, .ref (sh_r a0 0)] (by decide +kernel) rfl ?_
    refine i_al (pc' := 14) (by decide +kernel) (o_1_0 hN h0) ?_
    refine i_bl (pc' := 20) [(.iconst 0, 1), (.bipush (6), 2), (.iload_n 1, 1), (.imul, 1), (.iadd, 1)] [some (.ref a0), some (.int x1), some (.int x2)] [.int (0 + (6 * x1)), .int (m (sh_r a0 0) (ix x2))] (by decide +kernel) rfl ?_
    refine i_ic (c := .ne) (off := 20) (t := 40) (pc' := 23) (p := ¬ (m (sh_r a0 0) (ix x2)) = (0 + (6 * x1))) (by decide +kernel) rfl ?_ ?_
    · refine i_bl (pc' := 43) [(.iinc 2 (1), 3)] [some (.ref a0), some (.int x1), some (.int (x2 + 1))] [] (by decide +kernel) rfl ?_
      refine i_wb (fun y1 => ev_dn b z 30 43 [some (.ref a0), some (.int x1), some (.int y1)] [] (nx, mem L nx m)) (fun y1 => ?_)
      refine i_go (t := 2) (off := -41) (by decide +kernel) ?_
      exact i_co () rfl
    · exact i_mr (t_30_23 hN (h0 := h0))

theorem t_30_2 {L nx : Nat} (hN : okn nx) {b z : Nat} {m : Mm} {a0 : Nat} (h0 : ok nx a0 1) {x1 : Int32} {x2 : Int32}  : Im (d_30_2 a0 x1 m x2) (kZ L nx m) (ev_dn b z 30 2 [some (.ref a0), some (.int x1), some (.int x2)] [] (nx, mem L nx m)) := by
  exact i_it (f := fun s => s_30_2 a0 x1 m s) (E := E_30_2 L nx b z a0 x1 m) (K := (kZ L nx m)) (fun d s => u_30_2 hN (h0 := h0)) () (x2)
noncomputable def d_30 (a0 : Nat) (x1 : Int32) (m : Mm) : Option Bool := d_30_2 a0 x1 m 0
theorem t_30 {L nx : Nat} (hN : okn nx) {b z : Nat} {m : Mm} {a0 : Nat} (h0 : ok nx a0 1) {x1 : Int32}  : Im (d_30 a0 x1 m) (kZ L nx m) (ev_dn b z 30 0 [some (.ref a0), some (.int x1), none] [] (nx, mem L nx m)) := by
  unfold d_30
  refine i_bl (pc' := 2) [(.iconst 0, 1), (.istore_n 2, 1)] [some (.ref a0), some (.int x1), some (.int 0)] [] (by decide +kernel) rfl ?_
  exact t_30_2 hN (h0 := h0)

/-! 35 LanternChess$Field.differences(LLanternChess$Field;)I -/
noncomputable def E_35_4 (L nx b z : Nat) (a0 : Nat) (a1 : Nat) (m : Mm) (d : Unit) (s : (Int32 × Int32)) : ev_Q := ev_dn b z 35 4 [some (.ref a0), some (.ref a1), some (.int s.1), some (.int s.2)] [] (nx, mem L nx m)
noncomputable def s_35_4 (a0 : Nat) (a1 : Nat) (m : Mm) (x2 : Int32) (x3 : Int32) : Option ((Int32 × Int32) ⊕ Int32) := if 64 ≤ x3 then (some (.inr x2)) else (if ev_in x3 (sh_n (sh_r a0 0)) = true then (if ev_in x3 (sh_n (sh_r a1 0)) = true then (if (m (sh_r a0 0) (ix x3)) = (m (sh_r a1 0) (ix x3)) then (wb (x3 + 1) fun y1 => some (.inl (x2, y1))) else (wb (x2 + 1) fun y2 => wb (x3 + 1) fun y3 => some (.inl (y2, y3)))) else none) else none)
noncomputable def d_35_4 (a0 : Nat) (a1 : Nat) (m : Mm) (x2 : Int32) (x3 : Int32) : Option Int32 := it (fun s => s_35_4 a0 a1 m s.1 s.2) (x2, x3)
theorem e_35_4 (a0 : Nat) (a1 : Nat) (m : Mm) (x2 : Int32) (x3 : Int32) : d_35_4 a0 a1 m x2 x3 = oi (s_35_4 a0 a1 m x2 x3) (fun s => d_35_4 a0 a1 m s.1 s.2) := it_eq _
theorem u_35_4 {L nx : Nat} (hN : okn nx) {b z : Nat} {m : Mm} {a0 : Nat} (h0 : ok nx a0 1) {a1 : Nat} (h1 : ok nx a1 1) {x2 : Int32} {x3 : Int32}  : Im (s_35_4 a0 a1 m x2 x3) (kL (kI L nx m) (E_35_4 L nx b z a0 a1 m)) (ev_dn b z 35 4 [some (.ref a0), some (.ref a1), some (.int x2), some (.int x3)] [] (nx, mem L nx m)) := by
  unfold s_35_4
  refine i_bl (pc' := 7) [(.iload_n 3, 1), (.bipush (64), 2)] [some (.ref a0), some (.ref a1), some (.int x2), some (.int x3)] [.int 64, .int x3] (by decide +kernel) rfl ?_
  refine i_ic (c := .ge) (off := 27) (t := 34) (pc' := 10) (p := 64 ≤ x3) (by decide +kernel) rfl ?_ ?_
  · refine i_bl (pc' := 35) [(.iload_n 2, 1)] [some (.ref a0), some (.ref a1), some (.int x2), some (.int x3)] [.int x2] (by decide +kernel) rfl ?_
    exact i_ir (i_ri (by decide +kernel) rfl)
  · refine i_bl (pc' := 11) [(.aload_n 0, 1)] [some (.ref a0), some (.ref a1), some (.int x2), some (.int x3)] [.ref a0] (by decide +kernel) rfl ?_
    refine i_gr (idx := 9) (ci := 1) (k := 0) (t := 2) (p := 11098) (pc' := 14) (by decide +kernel) h0 ?_
    refine i_bl (pc' := 15) [(.iload_n 3, 1)] [some (.ref a0), some (.ref a1), some (.int x2), some (.int x3)] [.int x3, .ref (sh_r a0 0)] (by decide +kernel) rfl ?_
    refine i_al (pc' := 16) (by decide +kernel) (o_1_0 hN h0) ?_
    refine i_bl (pc' := 17) [(.aload_n 1, 1)] [some (.ref a0), some (.ref a1), some (.int x2), some (.int x3)] [.ref a1, .int (m (sh_r a0 0) (ix x3))] (by decide +kernel) rfl ?_
    refine i_gr (idx := 9) (ci := 1) (k := 0) (t := 2) (p := 11098) (pc' := 20) (by decide +kernel) h1 ?_
    refine i_bl (pc' := 21) [(.iload_n 3, 1)] [some (.ref a0), some (.ref a1), some (.int x2), some (.int x3)] [.int x3, .ref (sh_r a1 0), .int (m (sh_r a0 0) (ix x3))] (by decide +kernel) rfl ?_
    refine i_al (pc' := 22) (by decide +kernel) (o_1_0 hN h1) ?_
    refine i_ic (c := .eq) (off := 6) (t := 28) (pc' := 25) (p := (m (sh_r a0 0) (ix x3)) = (m (sh_r a1 0) (ix x3))) (by decide +kernel) rfl ?_ ?_
    · refine i_bl (pc' := 31) [(.iinc 3 (1), 3)] [some (.ref a0), some (.ref a1), some (.int x2), some (.int (x3 + 1))] [] (by decide +kernel) rfl ?_
      refine i_wb (fun y1 => ev_dn b z 35 31 [some (.ref a0), some (.ref a1), some (.int x2), some (.int y1)] [] (nx, mem L nx m)) (fun y1 => ?_)
      refine i_go (t := 4) (off := -27) (by decide +kernel) ?_
      exact i_co () rfl
    · refine i_bl (pc' := 28) [(.iinc 2 (1), 3)] [some (.ref a0), some (.ref a1), some (.int (x2 + 1)), some (.int x3)] [] (by decide +kernel) rfl ?_
      refine i_wb (fun y2 => ev_dn b z 35 28 [some (.ref a0), some (.ref a1), some (.int y2), some (.int x3)] [] (nx, mem L nx m)) (fun y2 => ?_)
      refine i_bl (pc' := 31) [(.iinc 3 (1), 3)] [some (.ref a0), some (.ref a1), some (.int y2), some (.int (x3 + 1))] [] (by decide +kernel) rfl ?_
      refine i_wb (fun y3 => ev_dn b z 35 31 [some (.ref a0), some (.ref a1), some (.int y2), some (.int y3)] [] (nx, mem L nx m)) (fun y3 => ?_)
      refine i_go (t := 4) (off := -27) (by decide +kernel) ?_
      exact i_co () rfl

theorem t_35_4 {L nx : Nat} (hN : okn nx) {b z : Nat} {m : Mm} {a0 : Nat} (h0 : ok nx a0 1) {a1 : Nat} (h1 : ok nx a1 1) {x2 : Int32} {x3 : Int32}  : Im (d_35_4 a0 a1 m x2 x3) (kI L nx m) (ev_dn b z 35 4 [some (.ref a0), some (.ref a1), some (.int x2), some (.int x3)] [] (nx, mem L nx m)) := by
  exact i_it (f := fun s => s_35_4 a0 a1 m s.1 s.2) (E := E_35_4 L nx b z a0 a1 m) (K := (kI L nx m)) (fun d s => u_35_4 hN (h0 := h0) (h1 := h1)) () (x2, x3)
noncomputable def d_35 (a0 : Nat) (a1 : Nat) (m : Mm) : Option Int32 := d_35_4 a0 a1 m 0 0
theorem t_35 {L nx : Nat} (hN : okn nx) {b z : Nat} {m : Mm} {a0 : Nat} (h0 : ok nx a0 1) {a1 : Nat} (h1 : ok nx a1 1)   : Im (d_35 a0 a1 m) (kI L nx m) (ev_dn b z 35 0 [some (.ref a0), some (.ref a1), none, none] [] (nx, mem L nx m)) := by
  unfold d_35
  refine i_bl (pc' := 4) [(.iconst 0, 1), (.istore_n 2, 1), (.iconst 0, 1), (.istore_n 3, 1)] [some (.ref a0), some (.ref a1), some (.int 0), some (.int 0)] [] (by decide +kernel) rfl ?_
  exact t_35_4 hN (h0 := h0) (h1 := h1)

/-! 36 LanternChess$Field.firstDifference(LLanternChess$Field;)I -/
noncomputable def E_36_2 (L nx b z : Nat) (a0 : Nat) (a1 : Nat) (m : Mm) (d : Unit) (s : (Int32)) : ev_Q := ev_dn b z 36 2 [some (.ref a0), some (.ref a1), some (.int s)] [] (nx, mem L nx m)
noncomputable def d_36_23 (a0 : Nat) (x2 : Int32) (m : Mm) : Option Int32 := (d_16 a0 x2 m).bind fun v2 => some v2
theorem t_36_23 {L nx : Nat} (hN : okn nx) {b z : Nat} {m : Mm} {a0 : Nat} (h0 : ok nx a0 1) {x2 : Int32} {o1 : Option Value} : Im (d_36_23 a0 x2 m) (kI L nx m) (ev_dn b z 36 23 [some (.ref a0), o1, some (.int x2)] [] (nx, mem L nx m)) := by
  unfold d_36_23
  refine i_bl (pc' := 25) [(.aload_n 0, 1), (.iload_n 2, 1)] [some (.ref a0), o1, some (.int x2)] [.int x2, .ref a0] (by decide +kernel) rfl ?_
  refine i_cv (ci := 1) (t := 16) (na := 2) (ml := 2) (idx := 98) (pc' := 28) (st' := []) (en := [some (.ref a0), some (.int x2)]) (av := [.int x2]) (vo := fun v => some (.int v)) (mo := fun _ => m) (s2 := fun v => .int v :: []) (by decide +kernel) (by decide +kernel) h0 ⟨rfl, rfl, rfl, rfl, rfl, rfl⟩ (fun _ => rfl) (t_16 hN (h0 := h0)) (fun v2 => ?_)
  exact i_ri (by decide +kernel) rfl

noncomputable def s_36_2 (a0 : Nat) (a1 : Nat) (m : Mm) (x2 : Int32) : Option ((Int32) ⊕ Int32) := if 64 ≤ x2 then (some (.inr (-1))) else (if ev_in x2 (sh_n (sh_r a0 0)) = true then (if ev_in x2 (sh_n (sh_r a1 0)) = true then (if (m (sh_r a0 0) (ix x2)) = (m (sh_r a1 0) (ix x2)) then (wb (x2 + 1) fun y1 => some (.inl (y1))) else ((d_36_23 a0 x2 m).map Sum.inr)) else none) else none)
noncomputable def d_36_2 (a0 : Nat) (a1 : Nat) (m : Mm) (x2 : Int32) : Option Int32 := it (fun s => s_36_2 a0 a1 m s) (x2)
theorem e_36_2 (a0 : Nat) (a1 : Nat) (m : Mm) (x2 : Int32) : d_36_2 a0 a1 m x2 = oi (s_36_2 a0 a1 m x2) (fun s => d_36_2 a0 a1 m s) := it_eq _
theorem u_36_2 {L nx : Nat} (hN : okn nx) {b z : Nat} {m : Mm} {a0 : Nat} (h0 : ok nx a0 1) {a1 : Nat} (h1 : ok nx a1 1) {x2 : Int32}  : Im (s_36_2 a0 a1 m x2) (kL (kI L nx m) (E_36_2 L nx b z a0 a1 m)) (ev_dn b z 36 2 [some (.ref a0), some (.ref a1), some (.int x2)] [] (nx, mem L nx m)) := by
  unfold s_36_2
  refine i_bl (pc' := 5) [(.iload_n 2, 1), (.bipush (64), 2)] [some (.ref a0), some (.ref a1), some (.int x2)] [.int 64, .int x2] (by decide +kernel) rfl ?_
  refine i_ic (c := .ge) (off := 30) (t := 35) (pc' := 8) (p := 64 ≤ x2) (by decide +kernel) rfl ?_ ?_
  · refine i_bl (pc' := 36) [(.iconst (-1), 1)] [some (.ref a0), some (.ref a1), some (.int x2)] [.int (-1)] (by decide +kernel) rfl ?_
    exact i_ir (i_ri (by decide +kernel) rfl)
  · refine i_bl (pc' := 9) [(.aload_n 0, 1)] [some (.ref a0), some (.ref a1), some (.int x2)] [.ref a0] (by decide +kernel) rfl ?_
    refine i_gr (idx := 9) (ci := 1) (k := 0) (t := 2) (p := 11098) (pc' := 12) (by decide +kernel) h0 ?_
    refine i_bl (pc' := 13) [(.iload_n 2, 1)] [some (.ref a0), some (.ref a1), some (.int x2)] [.int x2, .ref (sh_r a0 0)] (by decide +kernel) rfl ?_
    refine i_al (pc' := 14) (by decide +kernel) (o_1_0 hN h0) ?_
    refine i_bl (pc' := 15) [(.aload_n 1, 1)] [some (.ref a0), some (.ref a1), some (.int x2)] [.ref a1, .int (m (sh_r a0 0) (ix x2))] (by decide +kernel) rfl ?_
    refine i_gr (idx := 9) (ci := 1) (k := 0) (t := 2) (p := 11098) (pc' := 18) (by decide +kernel) h1 ?_
    refine i_bl (pc' := 19) [(.iload_n 2, 1)] [some (.ref a0), some (.ref a1), some (.int x2)] [.int x2, .ref (sh_r a1 0), .int (m (sh_r a0 0) (ix x2))] (by decide +kernel) rfl ?_
    refine i_al (pc' := 20) (by decide +kernel) (o_1_0 hN h1) ?_
    refine i_ic (c := .eq) (off := 9) (t := 29) (pc' := 23) (p := (m (sh_r a0 0) (ix x2)) = (m (sh_r a1 0) (ix x2))) (by decide +kernel) rfl ?_ ?_
    · refine i_bl (pc' := 32) [(.iinc 2 (1), 3)] [some (.ref a0), some (.ref a1), some (.int (x2 + 1))] [] (by decide +kernel) rfl ?_
      refine i_wb (fun y1 => ev_dn b z 36 32 [some (.ref a0), some (.ref a1), some (.int y1)] [] (nx, mem L nx m)) (fun y1 => ?_)
      refine i_go (t := 2) (off := -30) (by decide +kernel) ?_
      exact i_co () rfl
    · exact i_mr (t_36_23 hN (h0 := h0))

theorem t_36_2 {L nx : Nat} (hN : okn nx) {b z : Nat} {m : Mm} {a0 : Nat} (h0 : ok nx a0 1) {a1 : Nat} (h1 : ok nx a1 1) {x2 : Int32}  : Im (d_36_2 a0 a1 m x2) (kI L nx m) (ev_dn b z 36 2 [some (.ref a0), some (.ref a1), some (.int x2)] [] (nx, mem L nx m)) := by
  exact i_it (f := fun s => s_36_2 a0 a1 m s) (E := E_36_2 L nx b z a0 a1 m) (K := (kI L nx m)) (fun d s => u_36_2 hN (h0 := h0) (h1 := h1)) () (x2)
noncomputable def d_36 (a0 : Nat) (a1 : Nat) (m : Mm) : Option Int32 := d_36_2 a0 a1 m 0
theorem t_36 {L nx : Nat} (hN : okn nx) {b z : Nat} {m : Mm} {a0 : Nat} (h0 : ok nx a0 1) {a1 : Nat} (h1 : ok nx a1 1)   : Im (d_36 a0 a1 m) (kI L nx m) (ev_dn b z 36 0 [some (.ref a0), some (.ref a1), none] [] (nx, mem L nx m)) := by
  unfold d_36
  refine i_bl (pc' := 2) [(.iconst 0, 1), (.istore_n 2, 1)] [some (.ref a0), some (.ref a1), some (.int 0)] [] (by decide +kernel) rfl ?_
  exact t_36_2 hN (h0 := h0) (h1 := h1)

/-! 38 LanternChess$Fogs.copyFrom(LLanternChess$Fogs;)V -/
noncomputable def d_38 (a0 : Nat) (a1 : Nat) (m : Mm) : Option Mm := if ¬ (0 : Int32) < 0 ∧ ¬ (0 : Int32) < 0 ∧ ¬ (8 : Int32) < 0 ∧ ix (0 : Int32) + ix (8 : Int32) ≤ sh_n (sh_r a1 0) ∧ ix (0 : Int32) + ix (8 : Int32) ≤ sh_n (sh_r a0 0) then (wb (wa m (sh_r a0 0) (va_cpy (m (sh_r a1 0)) (m (sh_r a0 0)) (ix (0 : Int32)) (ix (0 : Int32)) (ix (8 : Int32)))) fun m1 => if ¬ (0 : Int32) < 0 ∧ ¬ (0 : Int32) < 0 ∧ ¬ (8 : Int32) < 0 ∧ ix (0 : Int32) + ix (8 : Int32) ≤ sh_n (sh_r a1 1) ∧ ix (0 : Int32) + ix (8 : Int32) ≤ sh_n (sh_r a0 1) then (wb (wa m1 (sh_r a0 1) (va_cpy (m1 (sh_r a1 1)) (m1 (sh_r a0 1)) (ix (0 : Int32)) (ix (0 : Int32)) (ix (8 : Int32)))) fun m2 => if ¬ (0 : Int32) < 0 ∧ ¬ (0 : Int32) < 0 ∧ ¬ (8 : Int32) < 0 ∧ ix (0 : Int32) + ix (8 : Int32) ≤ sh_n (sh_r a1 2) ∧ ix (0 : Int32) + ix (8 : Int32) ≤ sh_n (sh_r a0 2) then (wb (wa m2 (sh_r a0 2) (va_cpy (m2 (sh_r a1 2)) (m2 (sh_r a0 2)) (ix (0 : Int32)) (ix (0 : Int32)) (ix (8 : Int32)))) fun m3 => wb (wr m3 a0 3 (m3 a1 3)) fun m4 => some m4) else none) else none) else none
theorem t_38 {L nx : Nat} (hN : okn nx) {b z : Nat} {m : Mm} {a0 : Nat} (h0 : ok nx a0 2) {a1 : Nat} (h1 : ok nx a1 2)   : Im (d_38 a0 a1 m) (wV L nx) (ev_dn b z 38 0 [some (.ref a0), some (.ref a1)] [] (nx, mem L nx m)) := by
  unfold d_38
  refine i_bl (pc' := 1) [(.aload_n 1, 1)] [some (.ref a0), some (.ref a1)] [.ref a1] (by decide +kernel) rfl ?_
  refine i_gr (idx := 9) (ci := 2) (k := 0) (t := 2) (p := 11142) (pc' := 4) (by decide +kernel) h1 ?_
  refine i_bl (pc' := 6) [(.iconst 0, 1), (.aload_n 0, 1)] [some (.ref a0), some (.ref a1)] [.ref a0, .int 0, .ref (sh_r a1 0)] (by decide +kernel) rfl ?_
  refine i_gr (idx := 9) (ci := 2) (k := 0) (t := 2) (p := 11142) (pc' := 9) (by decide +kernel) h0 ?_
  refine i_bl (pc' := 12) [(.iconst 0, 1), (.bipush (8), 2)] [some (.ref a0), some (.ref a1)] [.int 8, .int 0, .ref (sh_r a0 0), .int 0, .ref (sh_r a1 0)] (by decide +kernel) rfl ?_
  refine i_ac (idx := 25) (pc' := 15) (by decide +kernel) rfl (o_2_0 hN h1) (o_2_0 hN h0) (fun m1 => ?_)
  refine i_bl (pc' := 16) [(.aload_n 1, 1)] [some (.ref a0), some (.ref a1)] [.ref a1] (by decide +kernel) rfl ?_
  refine i_gr (idx := 15) (ci := 2) (k := 1) (t := 2) (p := 11143) (pc' := 19) (by decide +kernel) h1 ?_
  refine i_bl (pc' := 21) [(.iconst 0, 1), (.aload_n 0, 1)] [some (.ref a0), some (.ref a1)] [.ref a0, .int 0, .ref (sh_r a1 1)] (by decide +kernel) rfl ?_
  refine i_gr (idx := 15) (ci := 2) (k := 1) (t := 2) (p := 11143) (pc' := 24) (by decide +kernel) h0 ?_
  refine i_bl (pc' := 27) [(.iconst 0, 1), (.bipush (8), 2)] [some (.ref a0), some (.ref a1)] [.int 8, .int 0, .ref (sh_r a0 1), .int 0, .ref (sh_r a1 1)] (by decide +kernel) rfl ?_
  refine i_ac (idx := 25) (pc' := 30) (by decide +kernel) rfl (o_2_1 hN h1) (o_2_1 hN h0) (fun m2 => ?_)
  refine i_bl (pc' := 31) [(.aload_n 1, 1)] [some (.ref a0), some (.ref a1)] [.ref a1] (by decide +kernel) rfl ?_
  refine i_gr (idx := 18) (ci := 2) (k := 2) (t := 2) (p := 11144) (pc' := 34) (by decide +kernel) h1 ?_
  refine i_bl (pc' := 36) [(.iconst 0, 1), (.aload_n 0, 1)] [some (.ref a0), some (.ref a1)] [.ref a0, .int 0, .ref (sh_r a1 2)] (by decide +kernel) rfl ?_
  refine i_gr (idx := 18) (ci := 2) (k := 2) (t := 2) (p := 11144) (pc' := 39) (by decide +kernel) h0 ?_
  refine i_bl (pc' := 42) [(.iconst 0, 1), (.bipush (8), 2)] [some (.ref a0), some (.ref a1)] [.int 8, .int 0, .ref (sh_r a0 2), .int 0, .ref (sh_r a1 2)] (by decide +kernel) rfl ?_
  refine i_ac (idx := 25) (pc' := 45) (by decide +kernel) rfl (o_2_2 hN h1) (o_2_2 hN h0) (fun m3 => ?_)
  refine i_bl (pc' := 47) [(.aload_n 0, 1), (.aload_n 1, 1)] [some (.ref a0), some (.ref a1)] [.ref a1, .ref a0] (by decide +kernel) rfl ?_
  refine i_gf (idx := 21) (ci := 2) (k := 3) (t := 0) (p := 11145) (pc' := 50) (by decide +kernel) h1 ?_
  refine i_pf (x := (m3 a1 3)) (idx := 21) (ci := 2) (k := 3) (p := 11145) (pc' := 53) (by decide +kernel) h0 (fun m4 => ?_)
  exact i_rv (by decide +kernel) rfl

/-! 39 LanternChess$Fogs.isFull()Z -/
noncomputable def d_39 (a0 : Nat) (m : Mm) : Option Bool := if (m a0 3) < 8 then (some false) else (some true)
theorem t_39 {L nx : Nat} (hN : okn nx) {b z : Nat} {m : Mm} {a0 : Nat} (h0 : ok nx a0 2)   : Im (d_39 a0 m) (kZ L nx m) (ev_dn b z 39 0 [some (.ref a0)] [] (nx, mem L nx m)) := by
  unfold d_39
  refine i_bl (pc' := 1) [(.aload_n 0, 1)] [some (.ref a0)] [.ref a0] (by decide +kernel) rfl ?_
  refine i_gf (idx := 21) (ci := 2) (k := 3) (t := 0) (p := 11145) (pc' := 4) (by decide +kernel) h0 ?_
  refine i_bl (pc' := 6) [(.bipush (8), 2)] [some (.ref a0)] [.int 8, .int (m a0 3)] (by decide +kernel) rfl ?_
  refine i_ic (c := .lt) (off := 7) (t := 13) (pc' := 9) (p := (m a0 3) < 8) (by decide +kernel) rfl ?_ ?_
  · refine i_bl (pc' := 14) [(.iconst 0, 1)] [some (.ref a0)] [.int 0] (by decide +kernel) rfl ?_
    exact i_rz (B := false) (by decide +kernel) rfl
  · refine i_bl (pc' := 10) [(.iconst 1, 1)] [some (.ref a0)] [.int 1] (by decide +kernel) rfl ?_
    refine i_go (t := 14) (off := 4) (by decide +kernel) ?_
    exact i_rz (B := true) (by decide +kernel) rfl

/-! 40 LanternChess$Fogs.beginsAt(I)Z -/
noncomputable def E_40_2 (L nx b z : Nat) (a0 : Nat) (x1 : Int32) (m : Mm) (d : Unit) (s : (Int32)) : ev_Q := ev_dn b z 40 2 [some (.ref a0), some (.int x1), some (.int s)] [] (nx, mem L nx m)
noncomputable def s_40_2 (a0 : Nat) (x1 : Int32) (m : Mm) (x2 : Int32) : Option ((Int32) ⊕ Bool) := if (m a0 3) ≤ x2 then (some (.inr false)) else (if 8 ≤ x2 then (some (.inr false)) else (if ev_in x2 (sh_n (sh_r a0 0)) = true then (if ¬ (m (sh_r a0 0) (ix x2)) = x1 then (wb (x2 + 1) fun y1 => some (.inl (y1))) else (some (.inr true))) else none))
noncomputable def d_40_2 (a0 : Nat) (x1 : Int32) (m : Mm) (x2 : Int32) : Option Bool := it (fun s => s_40_2 a0 x1 m s) (x2)
theorem e_40_2 (a0 : Nat) (x1 : Int32) (m : Mm) (x2 : Int32) : d_40_2 a0 x1 m x2 = oi (s_40_2 a0 x1 m x2) (fun s => d_40_2 a0 x1 m s) := it_eq _
theorem u_40_2 {L nx : Nat} (hN : okn nx) {b z : Nat} {m : Mm} {a0 : Nat} (h0 : ok nx a0 2) {x1 : Int32} {x2 : Int32}  : Im (s_40_2 a0 x1 m x2) (kL (kZ L nx m) (E_40_2 L nx b z a0 x1 m)) (ev_dn b z 40 2 [some (.ref a0), some (.int x1), some (.int x2)] [] (nx, mem L nx m)) := by
  unfold s_40_2
  refine i_bl (pc' := 4) [(.iload_n 2, 1), (.aload_n 0, 1)] [some (.ref a0), some (.int x1), some (.int x2)] [.ref a0, .int x2] (by decide +kernel) rfl ?_
  refine i_gf (idx := 21) (ci := 2) (k := 3) (t := 0) (p := 11145) (pc' := 7) (by decide +kernel) h0 ?_
  refine i_ic (c := .ge) (off := 27) (t := 34) (pc' := 10) (p := (m a0 3) ≤ x2) (by decide +kernel) rfl ?_ ?_
  · refine i_bl (pc' := 35) [(.iconst 0, 1)] [some (.ref a0), some (.int x1), some (.int x2)] [.int 0] (by decide +kernel) rfl ?_
    exact i_ir (i_rz (B := false) (by decide +kernel) rfl)
  · refine i_bl (pc' := 13) [(.iload_n 2, 1), (.bipush (8), 2)] [some (.ref a0), some (.int x1), some (.int x2)] [.int 8, .int x2] (by decide +kernel) rfl ?_
    refine i_ic (c := .ge) (off := 21) (t := 34) (pc' := 16) (p := 8 ≤ x2) (by decide +kernel) rfl ?_ ?_
    · refine i_bl (pc' := 35) [(.iconst 0, 1)] [some (.ref a0), some (.int x1), some (.int x2)] [.int 0] (by decide +kernel) rfl ?_
      exact i_ir (i_rz (B := false) (by decide +kernel) rfl)
    · refine i_bl (pc' := 17) [(.aload_n 0, 1)] [some (.ref a0), some (.int x1), some (.int x2)] [.ref a0] (by decide +kernel) rfl ?_
      refine i_gr (idx := 9) (ci := 2) (k := 0) (t := 2) (p := 11142) (pc' := 20) (by decide +kernel) h0 ?_
      refine i_bl (pc' := 21) [(.iload_n 2, 1)] [some (.ref a0), some (.int x1), some (.int x2)] [.int x2, .ref (sh_r a0 0)] (by decide +kernel) rfl ?_
      refine i_al (pc' := 22) (by decide +kernel) (o_2_0 hN h0) ?_
      refine i_bl (pc' := 23) [(.iload_n 1, 1)] [some (.ref a0), some (.int x1), some (.int x2)] [.int x1, .int (m (sh_r a0 0) (ix x2))] (by decide +kernel) rfl ?_
      refine i_ic (c := .ne) (off := 5) (t := 28) (pc' := 26) (p := ¬ (m (sh_r a0 0) (ix x2)) = x1) (by decide +kernel) rfl ?_ ?_
      · refine i_bl (pc' := 31) [(.iinc 2 (1), 3)] [some (.ref a0), some (.int x1), some (.int (x2 + 1))] [] (by decide +kernel) rfl ?_
        refine i_wb (fun y1 => ev_dn b z 40 31 [some (.ref a0), some (.int x1), some (.int y1)] [] (nx, mem L nx m)) (fun y1 => ?_)
        refine i_go (t := 2) (off := -29) (by decide +kernel) ?_
        exact i_co () rfl
      · refine i_bl (pc' := 27) [(.iconst 1, 1)] [some (.ref a0), some (.int x1), some (.int x2)] [.int 1] (by decide +kernel) rfl ?_
        exact i_ir (i_rz (B := true) (by decide +kernel) rfl)

theorem t_40_2 {L nx : Nat} (hN : okn nx) {b z : Nat} {m : Mm} {a0 : Nat} (h0 : ok nx a0 2) {x1 : Int32} {x2 : Int32}  : Im (d_40_2 a0 x1 m x2) (kZ L nx m) (ev_dn b z 40 2 [some (.ref a0), some (.int x1), some (.int x2)] [] (nx, mem L nx m)) := by
  exact i_it (f := fun s => s_40_2 a0 x1 m s) (E := E_40_2 L nx b z a0 x1 m) (K := (kZ L nx m)) (fun d s => u_40_2 hN (h0 := h0)) () (x2)
noncomputable def d_40 (a0 : Nat) (x1 : Int32) (m : Mm) : Option Bool := d_40_2 a0 x1 m 0
theorem t_40 {L nx : Nat} (hN : okn nx) {b z : Nat} {m : Mm} {a0 : Nat} (h0 : ok nx a0 2) {x1 : Int32}  : Im (d_40 a0 x1 m) (kZ L nx m) (ev_dn b z 40 0 [some (.ref a0), some (.int x1), none] [] (nx, mem L nx m)) := by
  unfold d_40
  refine i_bl (pc' := 2) [(.iconst 0, 1), (.istore_n 2, 1)] [some (.ref a0), some (.int x1), some (.int 0)] [] (by decide +kernel) rfl ?_
  exact t_40_2 hN (h0 := h0)

/-! 41 LanternChess$Fogs.put(III)I -/
noncomputable def E_41_30 (L nx b z : Nat) (a0 : Nat) (x1 : Int32) (x2 : Int32) (x3 : Int32) (d : Unit) (s : (Int32 × Int32 × Mm)) : ev_Q := ev_dn b z 41 30 [some (.ref a0), some (.int x1), some (.int x2), some (.int x3), some (.int s.1), some (.int s.2.1)] [] (nx, mem L nx s.2.2)
noncomputable def d_41_108 (a0 : Nat) (x1 : Int32) (x2 : Int32) (x3 : Int32) (x4 : Int32) (m : Mm) : Option (Int32 × Mm) := if ev_in x4 (sh_n (sh_r a0 0)) = true then (wb (wr m (sh_r a0 0) (ix x4) x1) fun m2 => if ev_in x4 (sh_n (sh_r a0 1)) = true then (wb (wr m2 (sh_r a0 1) (ix x4) x2) fun m3 => if ev_in x4 (sh_n (sh_r a0 2)) = true then (wb (wr m3 (sh_r a0 2) (ix x4) x3) fun m4 => wb (wr m4 a0 3 ((m4 a0 3) + 1)) fun m5 => some (x4, m5)) else none) else none) else none
theorem t_41_108 {L nx : Nat} (hN : okn nx) {b z : Nat} {m : Mm} {a0 : Nat} (h0 : ok nx a0 2) {x1 : Int32} {x2 : Int32} {x3 : Int32} {x4 : Int32} {o5 : Option Value} : Im (d_41_108 a0 x1 x2 x3 x4 m) (wI L nx) (ev_dn b z 41 108 [some (.ref a0), some (.int x1), some (.int x2), some (.int x3), some (.int x4), o5] [] (nx, mem L nx m)) := by
  unfold d_41_108
  refine i_bl (pc' := 109) [(.aload_n 0, 1)] [some (.ref a0), some (.int x1), some (.int x2), some (.int x3), some (.int x4), o5] [.ref a0] (by decide +kernel) rfl ?_
  refine i_gr (idx := 9) (ci := 2) (k := 0) (t := 2) (p := 11142) (pc' := 112) (by decide +kernel) h0 ?_
  refine i_bl (pc' := 115) [(.iload 4, 2), (.iload_n 1, 1)] [some (.ref a0), some (.int x1), some (.int x2), some (.int x3), some (.int x4), o5] [.int x1, .int x4, .ref (sh_r a0 0)] (by decide +kernel) rfl ?_
  refine i_as (y := x1) (pc' := 116) (by decide +kernel) (o_2_0 hN h0) (fun m2 => ?_)
  refine i_bl (pc' := 117) [(.aload_n 0, 1)] [some (.ref a0), some (.int x1), some (.int x2), some (.int x3), some (.int x4), o5] [.ref a0] (by decide +kernel) rfl ?_
  refine i_gr (idx := 15) (ci := 2) (k := 1) (t := 2) (p := 11143) (pc' := 120) (by decide +kernel) h0 ?_
  refine i_bl (pc' := 123) [(.iload 4, 2), (.iload_n 2, 1)] [some (.ref a0), some (.int x1), some (.int x2), some (.int x3), some (.int x4), o5] [.int x2, .int x4, .ref (sh_r a0 1)] (by decide +kernel) rfl ?_
  refine i_as (y := x2) (pc' := 124) (by decide +kernel) (o_2_1 hN h0) (fun m3 => ?_)
  refine i_bl (pc' := 125) [(.aload_n 0, 1)] [some (.ref a0), some (.int x1), some (.int x2), some (.int x3), some (.int x4), o5] [.ref a0] (by decide +kernel) rfl ?_
  refine i_gr (idx := 18) (ci := 2) (k := 2) (t := 2) (p := 11144) (pc' := 128) (by decide +kernel) h0 ?_
  refine i_bl (pc' := 131) [(.iload 4, 2), (.iload_n 3, 1)] [some (.ref a0), some (.int x1), some (.int x2), some (.int x3), some (.int x4), o5] [.int x3, .int x4, .ref (sh_r a0 2)] (by decide +kernel) rfl ?_
  refine i_as (y := x3) (pc' := 132) (by decide +kernel) (o_2_2 hN h0) (fun m4 => ?_)
  refine i_bl (pc' := 134) [(.aload_n 0, 1), (.dup, 1)] [some (.ref a0), some (.int x1), some (.int x2), some (.int x3), some (.int x4), o5] [.ref a0, .ref a0] (by decide +kernel) rfl ?_
  refine i_gf (idx := 21) (ci := 2) (k := 3) (t := 0) (p := 11145) (pc' := 137) (by decide +kernel) h0 ?_
  refine i_bl (pc' := 139) [(.iconst 1, 1), (.iadd, 1)] [some (.ref a0), some (.int x1), some (.int x2), some (.int x3), some (.int x4), o5] [.int ((m4 a0 3) + 1), .ref a0] (by decide +kernel) rfl ?_
  refine i_pf (x := ((m4 a0 3) + 1)) (idx := 21) (ci := 2) (k := 3) (p := 11145) (pc' := 142) (by decide +kernel) h0 (fun m5 => ?_)
  refine i_bl (pc' := 144) [(.iload 4, 2)] [some (.ref a0), some (.int x1), some (.int x2), some (.int x3), some (.int x4), o5] [.int x4] (by decide +kernel) rfl ?_
  exact i_ri (by decide +kernel) rfl

noncomputable def s_41_30 (a0 : Nat) (x1 : Int32) (x2 : Int32) (x3 : Int32) (x4 : Int32) (x5 : Int32) (m : Mm) : Option ((Int32 × Int32 × Mm) ⊕ (Int32 × Mm)) := if x5 ≤ 0 then ((d_41_108 a0 x1 x2 x3 x4 m).map Sum.inr) else (if ev_in (x5 - 1) (sh_n (sh_r a0 0)) = true then (if (m (sh_r a0 0) (ix (x5 - 1))) ≤ x1 then ((d_41_108 a0 x1 x2 x3 x4 m).map Sum.inr) else (if ev_in (x5 - 1) (sh_n (sh_r a0 0)) = true then (if ev_in x5 (sh_n (sh_r a0 0)) = true then (wb (wr m (sh_r a0 0) (ix x5) (m (sh_r a0 0) (ix (x5 - 1)))) fun m6 => if ev_in (x5 - 1) (sh_n (sh_r a0 1)) = true then (if ev_in x5 (sh_n (sh_r a0 1)) = true then (wb (wr m6 (sh_r a0 1) (ix x5) (m6 (sh_r a0 1) (ix (x5 - 1)))) fun m7 => if ev_in (x5 - 1) (sh_n (sh_r a0 2)) = true then (if ev_in x5 (sh_n (sh_r a0 2)) = true then (wb (wr m7 (sh_r a0 2) (ix x5) (m7 (sh_r a0 2) (ix (x5 - 1)))) fun m8 => wb (x5 - 1) fun y9 => wb (x5 + (-1)) fun y10 => some (.inl (y9, y10, m8))) else none) else none) else none) else none) else none) else none)) else none)
noncomputable def d_41_30 (a0 : Nat) (x1 : Int32) (x2 : Int32) (x3 : Int32) (x4 : Int32) (x5 : Int32) (m : Mm) : Option (Int32 × Mm) := it (fun s => s_41_30 a0 x1 x2 x3 s.1 s.2.1 s.2.2) (x4, x5, m)
theorem e_41_30 (a0 : Nat) (x1 : Int32) (x2 : Int32) (x3 : Int32) (x4 : Int32) (x5 : Int32) (m : Mm) : d_41_30 a0 x1 x2 x3 x4 x5 m = oi (s_41_30 a0 x1 x2 x3 x4 x5 m) (fun s => d_41_30 a0 x1 x2 x3 s.1 s.2.1 s.2.2) := it_eq _
theorem u_41_30 {L nx : Nat} (hN : okn nx) {b z : Nat} {m : Mm} {a0 : Nat} (h0 : ok nx a0 2) {x1 : Int32} {x2 : Int32} {x3 : Int32} {x4 : Int32} {x5 : Int32}  : Im (s_41_30 a0 x1 x2 x3 x4 x5 m) (kL (wI L nx) (E_41_30 L nx b z a0 x1 x2 x3)) (ev_dn b z 41 30 [some (.ref a0), some (.int x1), some (.int x2), some (.int x3), some (.int x4), some (.int x5)] [] (nx, mem L nx m)) := by
  unfold s_41_30
  refine i_bl (pc' := 32) [(.iload 5, 2)] [some (.ref a0), some (.int x1), some (.int x2), some (.int x3), some (.int x4), some (.int x5)] [.int x5] (by decide +kernel) rfl ?_
  refine i_if (c := .le) (off := 76) (t := 108) (pc' := 35) (p := x5 ≤ 0) (by decide +kernel) rfl ?_ ?_
  · exact i_mr (t_41_108 hN (h0 := h0))
  · refine i_bl (pc' := 36) [(.aload_n 0, 1)] [some (.ref a0), some (.int x1), some (.int x2), some (.int x3), some (.int x4), some (.int x5)] [.ref a0] (by decide +kernel) rfl ?_
    refine i_gr (idx := 9) (ci := 2) (k := 0) (t := 2) (p := 11142) (pc' := 39) (by decide +kernel) h0 ?_
    refine i_bl (pc' := 43) [(.iload 5, 2), (.iconst 1, 1), (.isub, 1)] [some (.ref a0), some (.int x1), some (.int x2), some (.int x3), some (.int x4), some (.int x5)] [.int (x5 - 1), .ref (sh_r a0 0)] (by decide +kernel) rfl ?_
    refine i_al (pc' := 44) (by decide +kernel) (o_2_0 hN h0) ?_
    refine i_bl (pc' := 45) [(.iload_n 1, 1)] [some (.ref a0), some (.int x1), some (.int x2), some (.int x3), some (.int x4), some (.int x5)] [.int x1, .int (m (sh_r a0 0) (ix (x5 - 1)))] (by decide +kernel) rfl ?_
    refine i_ic (c := .le) (off := 63) (t := 108) (pc' := 48) (p := (m (sh_r a0 0) (ix (x5 - 1))) ≤ x1) (by decide +kernel) rfl ?_ ?_
    · exact i_mr (t_41_108 hN (h0 := h0))
    · refine i_bl (pc' := 49) [(.aload_n 0, 1)] [some (.ref a0), some (.int x1), some (.int x2), some (.int x3), some (.int x4), some (.int x5)] [.ref a0] (by decide +kernel) rfl ?_
      refine i_gr (idx := 9) (ci := 2) (k := 0) (t := 2) (p := 11142) (pc' := 52) (by decide +kernel) h0 ?_
      refine i_bl (pc' := 55) [(.iload 5, 2), (.aload_n 0, 1)] [some (.ref a0), some (.int x1), some (.int x2), some (.int x3), some (.int x4), some (.int x5)] [.ref a0, .int x5, .ref (sh_r a0 0)] (by decide +kernel) rfl ?_
      refine i_gr (idx := 9) (ci := 2) (k := 0) (t := 2) (p := 11142) (pc' := 58) (by decide +kernel) h0 ?_
      refine i_bl (pc' := 62) [(.iload 5, 2), (.iconst 1, 1), (.isub, 1)] [some (.ref a0), some (.int x1), some (.int x2), some (.int x3), some (.int x4), some (.int x5)] [.int (x5 - 1), .ref (sh_r a0 0), .int x5, .ref (sh_r a0 0)] (by decide +kernel) rfl ?_
      refine i_al (pc' := 63) (by decide +kernel) (o_2_0 hN h0) ?_
      refine i_as (y := (m (sh_r a0 0) (ix (x5 - 1)))) (pc' := 64) (by decide +kernel) (o_2_0 hN h0) (fun m6 => ?_)
      refine i_bl (pc' := 65) [(.aload_n 0, 1)] [some (.ref a0), some (.int x1), some (.int x2), some (.int x3), some (.int x4), some (.int x5)] [.ref a0] (by decide +kernel) rfl ?_
      refine i_gr (idx := 15) (ci := 2) (k := 1) (t := 2) (p := 11143) (pc' := 68) (by decide +kernel) h0 ?_
      refine i_bl (pc' := 71) [(.iload 5, 2), (.aload_n 0, 1)] [some (.ref a0), some (.int x1), some (.int x2), some (.int x3), some (.int x4), some (.int x5)] [.ref a0, .int x5, .ref (sh_r a0 1)] (by decide +kernel) rfl ?_
      refine i_gr (idx := 15) (ci := 2) (k := 1) (t := 2) (p := 11143) (pc' := 74) (by decide +kernel) h0 ?_
      refine i_bl (pc' := 78) [(.iload 5, 2), (.iconst 1, 1), (.isub, 1)] [some (.ref a0), some (.int x1), some (.int x2), some (.int x3), some (.int x4), some (.int x5)] [.int (x5 - 1), .ref (sh_r a0 1), .int x5, .ref (sh_r a0 1)] (by decide +kernel) rfl ?_
      refine i_al (pc' := 79) (by decide +kernel) (o_2_1 hN h0) ?_
      refine i_as (y := (m6 (sh_r a0 1) (ix (x5 - 1)))) (pc' := 80) (by decide +kernel) (o_2_1 hN h0) (fun m7 => ?_)
      refine i_bl (pc' := 81) [(.aload_n 0, 1)] [some (.ref a0), some (.int x1), some (.int x2), some (.int x3), some (.int x4), some (.int x5)] [.ref a0] (by decide +kernel) rfl ?_
      refine i_gr (idx := 18) (ci := 2) (k := 2) (t := 2) (p := 11144) (pc' := 84) (by decide +kernel) h0 ?_
      refine i_bl (pc' := 87) [(.iload 5, 2), (.aload_n 0, 1)] [some (.ref a0), some (.int x1), some (.int x2), some (.int x3), some (.int x4), some (.int x5)] [.ref a0, .int x5, .ref (sh_r a0 2)] (by decide +kernel) rfl ?_
      refine i_gr (idx := 18) (ci := 2) (k := 2) (t := 2) (p := 11144) (pc' := 90) (by decide +kernel) h0 ?_
      refine i_bl (pc' := 94) [(.iload 5, 2), (.iconst 1, 1), (.isub, 1)] [some (.ref a0), some (.int x1), some (.int x2), some (.int x3), some (.int x4), some (.int x5)] [.int (x5 - 1), .ref (sh_r a0 2), .int x5, .ref (sh_r a0 2)] (by decide +kernel) rfl ?_
      refine i_al (pc' := 95) (by decide +kernel) (o_2_2 hN h0) ?_
      refine i_as (y := (m7 (sh_r a0 2) (ix (x5 - 1)))) (pc' := 96) (by decide +kernel) (o_2_2 hN h0) (fun m8 => ?_)
      refine i_bl (pc' := 102) [(.iload 5, 2), (.iconst 1, 1), (.isub, 1), (.istore 4, 2)] [some (.ref a0), some (.int x1), some (.int x2), some (.int x3), some (.int (x5 - 1)), some (.int x5)] [] (by decide +kernel) rfl ?_
      refine i_wb (fun y9 => ev_dn b z 41 102 [some (.ref a0), some (.int x1), some (.int x2), some (.int x3), some (.int y9), some (.int x5)] [] (nx, mem L nx m8)) (fun y9 => ?_)
      refine i_bl (pc' := 105) [(.iinc 5 (-1), 3)] [some (.ref a0), some (.int x1), some (.int x2), some (.int x3), some (.int y9), some (.int (x5 + (-1)))] [] (by decide +kernel) rfl ?_
      refine i_wb (fun y10 => ev_dn b z 41 105 [some (.ref a0), some (.int x1), some (.int x2), some (.int x3), some (.int y9), some (.int y10)] [] (nx, mem L nx m8)) (fun y10 => ?_)
      refine i_go (t := 30) (off := -75) (by decide +kernel) ?_
      exact i_co () rfl

theorem t_41_30 {L nx : Nat} (hN : okn nx) {b z : Nat} {m : Mm} {a0 : Nat} (h0 : ok nx a0 2) {x1 : Int32} {x2 : Int32} {x3 : Int32} {x4 : Int32} {x5 : Int32}  : Im (d_41_30 a0 x1 x2 x3 x4 x5 m) (wI L nx) (ev_dn b z 41 30 [some (.ref a0), some (.int x1), some (.int x2), some (.int x3), some (.int x4), some (.int x5)] [] (nx, mem L nx m)) := by
  exact i_it (f := fun s => s_41_30 a0 x1 x2 x3 s.1 s.2.1 s.2.2) (E := E_41_30 L nx b z a0 x1 x2 x3) (K := (wI L nx)) (fun d s => u_41_30 hN (h0 := h0)) () (x4, x5, m)
noncomputable def d_41 (a0 : Nat) (x1 : Int32) (x2 : Int32) (x3 : Int32) (m : Mm) : Option (Int32 × Mm) := if (m a0 3) < 0 then (some ((-1), m)) else (if (m a0 3) < 8 then (wb (m a0 3) fun y1 => d_41_30 a0 x1 x2 x3 y1 (m a0 3) m) else (some ((-1), m)))
theorem t_41 {L nx : Nat} (hN : okn nx) {b z : Nat} {m : Mm} {a0 : Nat} (h0 : ok nx a0 2) {x1 : Int32} {x2 : Int32} {x3 : Int32}  : Im (d_41 a0 x1 x2 x3 m) (wI L nx) (ev_dn b z 41 0 [some (.ref a0), some (.int x1), some (.int x2), some (.int x3), none, none] [] (nx, mem L nx m)) := by
  unfold d_41
  refine i_bl (pc' := 1) [(.aload_n 0, 1)] [some (.ref a0), some (.int x1), some (.int x2), some (.int x3), none, none] [.ref a0] (by decide +kernel) rfl ?_
  refine i_gf (idx := 21) (ci := 2) (k := 3) (t := 0) (p := 11145) (pc' := 4) (by decide +kernel) h0 ?_
  refine i_if (c := .lt) (off := 12) (t := 16) (pc' := 7) (p := (m a0 3) < 0) (by decide +kernel) rfl ?_ ?_
  · refine i_bl (pc' := 17) [(.iconst (-1), 1)] [some (.ref a0), some (.int x1), some (.int x2), some (.int x3), none, none] [.int (-1)] (by decide +kernel) rfl ?_
    exact i_ri (by decide +kernel) rfl
  · refine i_bl (pc' := 8) [(.aload_n 0, 1)] [some (.ref a0), some (.int x1), some (.int x2), some (.int x3), none, none] [.ref a0] (by decide +kernel) rfl ?_
    refine i_gf (idx := 21) (ci := 2) (k := 3) (t := 0) (p := 11145) (pc' := 11) (by decide +kernel) h0 ?_
    refine i_bl (pc' := 13) [(.bipush (8), 2)] [some (.ref a0), some (.int x1), some (.int x2), some (.int x3), none, none] [.int 8, .int (m a0 3)] (by decide +kernel) rfl ?_
    refine i_ic (c := .lt) (off := 5) (t := 18) (pc' := 16) (p := (m a0 3) < 8) (by decide +kernel) rfl ?_ ?_
    · refine i_bl (pc' := 19) [(.aload_n 0, 1)] [some (.ref a0), some (.int x1), some (.int x2), some (.int x3), none, none] [.ref a0] (by decide +kernel) rfl ?_
      refine i_gf (idx := 21) (ci := 2) (k := 3) (t := 0) (p := 11145) (pc' := 22) (by decide +kernel) h0 ?_
      refine i_bl (pc' := 24) [(.istore 4, 2)] [some (.ref a0), some (.int x1), some (.int x2), some (.int x3), some (.int (m a0 3)), none] [] (by decide +kernel) rfl ?_
      refine i_wb (fun y1 => ev_dn b z 41 24 [some (.ref a0), some (.int x1), some (.int x2), some (.int x3), some (.int y1), none] [] (nx, mem L nx m)) (fun y1 => ?_)
      refine i_bl (pc' := 25) [(.aload_n 0, 1)] [some (.ref a0), some (.int x1), some (.int x2), some (.int x3), some (.int y1), none] [.ref a0] (by decide +kernel) rfl ?_
      refine i_gf (idx := 21) (ci := 2) (k := 3) (t := 0) (p := 11145) (pc' := 28) (by decide +kernel) h0 ?_
      refine i_bl (pc' := 30) [(.istore 5, 2)] [some (.ref a0), some (.int x1), some (.int x2), some (.int x3), some (.int y1), some (.int (m a0 3))] [] (by decide +kernel) rfl ?_
      exact t_41_30 hN (h0 := h0)
    · refine i_bl (pc' := 17) [(.iconst (-1), 1)] [some (.ref a0), some (.int x1), some (.int x2), some (.int x3), none, none] [.int (-1)] (by decide +kernel) rfl ?_
      exact i_ri (by decide +kernel) rfl

/-! 44 LanternChess$Fogs.hides(I)Z -/
noncomputable def E_44_2 (L nx b z : Nat) (a0 : Nat) (x1 : Int32) (m : Mm) (d : Option Value) (s : (Int32)) : ev_Q := ev_dn b z 44 2 [some (.ref a0), some (.int x1), some (.int s), d] [] (nx, mem L nx m)
noncomputable def s_44_2 (a0 : Nat) (x1 : Int32) (m : Mm) (x2 : Int32) : Option ((Int32) ⊕ Bool) := if (m a0 3) ≤ x2 then (some (.inr false)) else (if 8 ≤ x2 then (some (.inr false)) else (if ev_in x2 (sh_n (sh_r a0 0)) = true then (wb (x1 - (m (sh_r a0 0) (ix x2))) fun y1 => if y1 < 0 then (wb (x2 + 1) fun y2 => some (.inl (y2))) else (if ev_in x2 (sh_n (sh_r a0 1)) = true then (if (m (sh_r a0 1) (ix x2)) ≤ y1 then (wb (x2 + 1) fun y3 => some (.inl (y3))) else (if ev_in x2 (sh_n (sh_r a0 2)) = true then (if (m (sh_r a0 2) (ix x2)) ≤ 0 then (wb (x2 + 1) fun y4 => some (.inl (y4))) else (if ev_in x2 (sh_n (sh_r a0 2)) = true then (if (m (sh_r a0 2) (ix x2)) = 0 then none else (if ¬ (y1 - y1 / (m (sh_r a0 2) (ix x2)) * (m (sh_r a0 2) (ix x2))) = 0 then (wb (x2 + 1) fun y5 => some (.inl (y5))) else (some (.inr true)))) else none)) else none)) else none)) else none))
noncomputable def d_44_2 (a0 : Nat) (x1 : Int32) (m : Mm) (x2 : Int32) : Option Bool := it (fun s => s_44_2 a0 x1 m s) (x2)
theorem e_44_2 (a0 : Nat) (x1 : Int32) (m : Mm) (x2 : Int32) : d_44_2 a0 x1 m x2 = oi (s_44_2 a0 x1 m x2) (fun s => d_44_2 a0 x1 m s) := it_eq _
theorem u_44_2 {L nx : Nat} (hN : okn nx) {b z : Nat} {m : Mm} {a0 : Nat} (h0 : ok nx a0 2) {x1 : Int32} {x2 : Int32} {o3 : Option Value} : Im (s_44_2 a0 x1 m x2) (kL (kZ L nx m) (E_44_2 L nx b z a0 x1 m)) (ev_dn b z 44 2 [some (.ref a0), some (.int x1), some (.int x2), o3] [] (nx, mem L nx m)) := by
  unfold s_44_2
  refine i_bl (pc' := 4) [(.iload_n 2, 1), (.aload_n 0, 1)] [some (.ref a0), some (.int x1), some (.int x2), o3] [.ref a0, .int x2] (by decide +kernel) rfl ?_
  refine i_gf (idx := 21) (ci := 2) (k := 3) (t := 0) (p := 11145) (pc' := 7) (by decide +kernel) h0 ?_
  refine i_ic (c := .ge) (off := 60) (t := 67) (pc' := 10) (p := (m a0 3) ≤ x2) (by decide +kernel) rfl ?_ ?_
  · refine i_bl (pc' := 68) [(.iconst 0, 1)] [some (.ref a0), some (.int x1), some (.int x2), o3] [.int 0] (by decide +kernel) rfl ?_
    exact i_ir (i_rz (B := false) (by decide +kernel) rfl)
  · refine i_bl (pc' := 13) [(.iload_n 2, 1), (.bipush (8), 2)] [some (.ref a0), some (.int x1), some (.int x2), o3] [.int 8, .int x2] (by decide +kernel) rfl ?_
    refine i_ic (c := .ge) (off := 54) (t := 67) (pc' := 16) (p := 8 ≤ x2) (by decide +kernel) rfl ?_ ?_
    · refine i_bl (pc' := 68) [(.iconst 0, 1)] [some (.ref a0), some (.int x1), some (.int x2), o3] [.int 0] (by decide +kernel) rfl ?_
      exact i_ir (i_rz (B := false) (by decide +kernel) rfl)
    · refine i_bl (pc' := 18) [(.iload_n 1, 1), (.aload_n 0, 1)] [some (.ref a0), some (.int x1), some (.int x2), o3] [.ref a0, .int x1] (by decide +kernel) rfl ?_
      refine i_gr (idx := 9) (ci := 2) (k := 0) (t := 2) (p := 11142) (pc' := 21) (by decide +kernel) h0 ?_
      refine i_bl (pc' := 22) [(.iload_n 2, 1)] [some (.ref a0), some (.int x1), some (.int x2), o3] [.int x2, .ref (sh_r a0 0), .int x1] (by decide +kernel) rfl ?_
      refine i_al (pc' := 23) (by decide +kernel) (o_2_0 hN h0) ?_
      refine i_bl (pc' := 25) [(.isub, 1), (.istore_n 3, 1)] [some (.ref a0), some (.int x1), some (.int x2), some (.int (x1 - (m (sh_r a0 0) (ix x2))))] [] (by decide +kernel) rfl ?_
      refine i_wb (fun y1 => ev_dn b z 44 25 [some (.ref a0), some (.int x1), some (.int x2), some (.int y1)] [] (nx, mem L nx m)) (fun y1 => ?_)
      refine i_bl (pc' := 26) [(.iload_n 3, 1)] [some (.ref a0), some (.int x1), some (.int x2), some (.int y1)] [.int y1] (by decide +kernel) rfl ?_
      refine i_if (c := .lt) (off := 35) (t := 61) (pc' := 29) (p := y1 < 0) (by decide +kernel) rfl ?_ ?_
      · refine i_bl (pc' := 64) [(.iinc 2 (1), 3)] [some (.ref a0), some (.int x1), some (.int (x2 + 1)), some (.int y1)] [] (by decide +kernel) rfl ?_
        refine i_wb (fun y2 => ev_dn b z 44 64 [some (.ref a0), some (.int x1), some (.int y2), some (.int y1)] [] (nx, mem L nx m)) (fun y2 => ?_)
        refine i_go (t := 2) (off := -62) (by decide +kernel) ?_
        exact i_co (some (.int y1)) rfl
      · refine i_bl (pc' := 31) [(.iload_n 3, 1), (.aload_n 0, 1)] [some (.ref a0), some (.int x1), some (.int x2), some (.int y1)] [.ref a0, .int y1] (by decide +kernel) rfl ?_
        refine i_gr (idx := 15) (ci := 2) (k := 1) (t := 2) (p := 11143) (pc' := 34) (by decide +kernel) h0 ?_
        refine i_bl (pc' := 35) [(.iload_n 2, 1)] [some (.ref a0), some (.int x1), some (.int x2), some (.int y1)] [.int x2, .ref (sh_r a0 1), .int y1] (by decide +kernel) rfl ?_
        refine i_al (pc' := 36) (by decide +kernel) (o_2_1 hN h0) ?_
        refine i_ic (c := .ge) (off := 25) (t := 61) (pc' := 39) (p := (m (sh_r a0 1) (ix x2)) ≤ y1) (by decide +kernel) rfl ?_ ?_
        · refine i_bl (pc' := 64) [(.iinc 2 (1), 3)] [some (.ref a0), some (.int x1), some (.int (x2 + 1)), some (.int y1)] [] (by decide +kernel) rfl ?_
          refine i_wb (fun y3 => ev_dn b z 44 64 [some (.ref a0), some (.int x1), some (.int y3), some (.int y1)] [] (nx, mem L nx m)) (fun y3 => ?_)
          refine i_go (t := 2) (off := -62) (by decide +kernel) ?_
          exact i_co (some (.int y1)) rfl
        · refine i_bl (pc' := 40) [(.aload_n 0, 1)] [some (.ref a0), some (.int x1), some (.int x2), some (.int y1)] [.ref a0] (by decide +kernel) rfl ?_
          refine i_gr (idx := 18) (ci := 2) (k := 2) (t := 2) (p := 11144) (pc' := 43) (by decide +kernel) h0 ?_
          refine i_bl (pc' := 44) [(.iload_n 2, 1)] [some (.ref a0), some (.int x1), some (.int x2), some (.int y1)] [.int x2, .ref (sh_r a0 2)] (by decide +kernel) rfl ?_
          refine i_al (pc' := 45) (by decide +kernel) (o_2_2 hN h0) ?_
          refine i_if (c := .le) (off := 16) (t := 61) (pc' := 48) (p := (m (sh_r a0 2) (ix x2)) ≤ 0) (by decide +kernel) rfl ?_ ?_
          · refine i_bl (pc' := 64) [(.iinc 2 (1), 3)] [some (.ref a0), some (.int x1), some (.int (x2 + 1)), some (.int y1)] [] (by decide +kernel) rfl ?_
            refine i_wb (fun y4 => ev_dn b z 44 64 [some (.ref a0), some (.int x1), some (.int y4), some (.int y1)] [] (nx, mem L nx m)) (fun y4 => ?_)
            refine i_go (t := 2) (off := -62) (by decide +kernel) ?_
            exact i_co (some (.int y1)) rfl
          · refine i_bl (pc' := 50) [(.iload_n 3, 1), (.aload_n 0, 1)] [some (.ref a0), some (.int x1), some (.int x2), some (.int y1)] [.ref a0, .int y1] (by decide +kernel) rfl ?_
            refine i_gr (idx := 18) (ci := 2) (k := 2) (t := 2) (p := 11144) (pc' := 53) (by decide +kernel) h0 ?_
            refine i_bl (pc' := 54) [(.iload_n 2, 1)] [some (.ref a0), some (.int x1), some (.int x2), some (.int y1)] [.int x2, .ref (sh_r a0 2), .int y1] (by decide +kernel) rfl ?_
            refine i_al (pc' := 55) (by decide +kernel) (o_2_2 hN h0) ?_
            refine i_rem (pc' := 56) (by decide +kernel) ?_
            refine i_if (c := .ne) (off := 5) (t := 61) (pc' := 59) (p := ¬ (y1 - y1 / (m (sh_r a0 2) (ix x2)) * (m (sh_r a0 2) (ix x2))) = 0) (by decide +kernel) rfl ?_ ?_
            · refine i_bl (pc' := 64) [(.iinc 2 (1), 3)] [some (.ref a0), some (.int x1), some (.int (x2 + 1)), some (.int y1)] [] (by decide +kernel) rfl ?_
              refine i_wb (fun y5 => ev_dn b z 44 64 [some (.ref a0), some (.int x1), some (.int y5), some (.int y1)] [] (nx, mem L nx m)) (fun y5 => ?_)
              refine i_go (t := 2) (off := -62) (by decide +kernel) ?_
              exact i_co (some (.int y1)) rfl
            · refine i_bl (pc' := 60) [(.iconst 1, 1)] [some (.ref a0), some (.int x1), some (.int x2), some (.int y1)] [.int 1] (by decide +kernel) rfl ?_
              exact i_ir (i_rz (B := true) (by decide +kernel) rfl)

theorem t_44_2 {L nx : Nat} (hN : okn nx) {b z : Nat} {m : Mm} {a0 : Nat} (h0 : ok nx a0 2) {x1 : Int32} {x2 : Int32} {o3 : Option Value} : Im (d_44_2 a0 x1 m x2) (kZ L nx m) (ev_dn b z 44 2 [some (.ref a0), some (.int x1), some (.int x2), o3] [] (nx, mem L nx m)) := by
  exact i_it (f := fun s => s_44_2 a0 x1 m s) (E := E_44_2 L nx b z a0 x1 m) (K := (kZ L nx m)) (fun d s => u_44_2 hN (h0 := h0)) (o3) (x2)
noncomputable def d_44 (a0 : Nat) (x1 : Int32) (m : Mm) : Option Bool := d_44_2 a0 x1 m 0
theorem t_44 {L nx : Nat} (hN : okn nx) {b z : Nat} {m : Mm} {a0 : Nat} (h0 : ok nx a0 2) {x1 : Int32}  : Im (d_44 a0 x1 m) (kZ L nx m) (ev_dn b z 44 0 [some (.ref a0), some (.int x1), none, none] [] (nx, mem L nx m)) := by
  unfold d_44
  refine i_bl (pc' := 2) [(.iconst 0, 1), (.istore_n 2, 1)] [some (.ref a0), some (.int x1), some (.int 0), none] [] (by decide +kernel) rfl ?_
  exact t_44_2 hN (h0 := h0)

/-! 45 LanternChess$Fogs.clearOnes(II)I -/
noncomputable def E_45_5 (L nx b z : Nat) (a0 : Nat) (x1 : Int32) (x2 : Int32) (m : Mm) (d : Unit) (s : (Int32 × Int32)) : ev_Q := ev_dn b z 45 5 [some (.ref a0), some (.int x1), some (.int x2), some (.int s.1), some (.int s.2)] [] (nx, mem L nx m)
noncomputable def s_45_5 (a0 : Nat) (x1 : Int32) (x2 : Int32) (m : Mm) (x3 : Int32) (x4 : Int32) : Option ((Int32 × Int32) ⊕ Int32) := if x2 ≤ x4 then (some (.inr x3)) else ((d_44 a0 (x1 + x4) m).bind fun v1 => if v1 = true then (wb (x4 + 1) fun y2 => some (.inl (x3, y2))) else (wb (x3 + 1) fun y3 => wb (x4 + 1) fun y4 => some (.inl (y3, y4))))
noncomputable def d_45_5 (a0 : Nat) (x1 : Int32) (x2 : Int32) (m : Mm) (x3 : Int32) (x4 : Int32) : Option Int32 := it (fun s => s_45_5 a0 x1 x2 m s.1 s.2) (x3, x4)
theorem e_45_5 (a0 : Nat) (x1 : Int32) (x2 : Int32) (m : Mm) (x3 : Int32) (x4 : Int32) : d_45_5 a0 x1 x2 m x3 x4 = oi (s_45_5 a0 x1 x2 m x3 x4) (fun s => d_45_5 a0 x1 x2 m s.1 s.2) := it_eq _
theorem u_45_5 {L nx : Nat} (hN : okn nx) {b z : Nat} {m : Mm} {a0 : Nat} (h0 : ok nx a0 2) {x1 : Int32} {x2 : Int32} {x3 : Int32} {x4 : Int32}  : Im (s_45_5 a0 x1 x2 m x3 x4) (kL (kI L nx m) (E_45_5 L nx b z a0 x1 x2 m)) (ev_dn b z 45 5 [some (.ref a0), some (.int x1), some (.int x2), some (.int x3), some (.int x4)] [] (nx, mem L nx m)) := by
  unfold s_45_5
  refine i_bl (pc' := 8) [(.iload 4, 2), (.iload_n 2, 1)] [some (.ref a0), some (.int x1), some (.int x2), some (.int x3), some (.int x4)] [.int x2, .int x4] (by decide +kernel) rfl ?_
  refine i_ic (c := .ge) (off := 23) (t := 31) (pc' := 11) (p := x2 ≤ x4) (by decide +kernel) rfl ?_ ?_
  · refine i_bl (pc' := 32) [(.iload_n 3, 1)] [some (.ref a0), some (.int x1), some (.int x2), some (.int x3), some (.int x4)] [.int x3] (by decide +kernel) rfl ?_
    exact i_ir (i_ri (by decide +kernel) rfl)
  · refine i_bl (pc' := 16) [(.aload_n 0, 1), (.iload_n 1, 1), (.iload 4, 2), (.iadd, 1)] [some (.ref a0), some (.int x1), some (.int x2), some (.int x3), some (.int x4)] [.int (x1 + x4), .ref a0] (by decide +kernel) rfl ?_
    refine i_cv (ci := 2) (t := 44) (na := 2) (ml := 4) (idx := 31) (pc' := 19) (st' := []) (en := [some (.ref a0), some (.int (x1 + x4)), none, none]) (av := [.int (x1 + x4)]) (vo := fun v => some (.int (bi v))) (mo := fun _ => m) (s2 := fun v => .int (bi v) :: []) (by decide +kernel) (by decide +kernel) h0 ⟨rfl, rfl, rfl, rfl, rfl, rfl⟩ (fun _ => rfl) (t_44 hN (h0 := h0)) (fun v1 => ?_)
    refine i_bn (off := 6) (t := 25) (pc' := 22) (by decide +kernel) ?_ ?_
    · refine i_bl (pc' := 28) [(.iinc 4 (1), 3)] [some (.ref a0), some (.int x1), some (.int x2), some (.int x3), some (.int (x4 + 1))] [] (by decide +kernel) rfl ?_
      refine i_wb (fun y2 => ev_dn b z 45 28 [some (.ref a0), some (.int x1), some (.int x2), some (.int x3), some (.int y2)] [] (nx, mem L nx m)) (fun y2 => ?_)
      refine i_go (t := 5) (off := -23) (by decide +kernel) ?_
      exact i_co () rfl
    · refine i_bl (pc' := 25) [(.iinc 3 (1), 3)] [some (.ref a0), some (.int x1), some (.int x2), some (.int (x3 + 1)), some (.int x4)] [] (by decide +kernel) rfl ?_
      refine i_wb (fun y3 => ev_dn b z 45 25 [some (.ref a0), some (.int x1), some (.int x2), some (.int y3), some (.int x4)] [] (nx, mem L nx m)) (fun y3 => ?_)
      refine i_bl (pc' := 28) [(.iinc 4 (1), 3)] [some (.ref a0), some (.int x1), some (.int x2), some (.int y3), some (.int (x4 + 1))] [] (by decide +kernel) rfl ?_
      refine i_wb (fun y4 => ev_dn b z 45 28 [some (.ref a0), some (.int x1), some (.int x2), some (.int y3), some (.int y4)] [] (nx, mem L nx m)) (fun y4 => ?_)
      refine i_go (t := 5) (off := -23) (by decide +kernel) ?_
      exact i_co () rfl

theorem t_45_5 {L nx : Nat} (hN : okn nx) {b z : Nat} {m : Mm} {a0 : Nat} (h0 : ok nx a0 2) {x1 : Int32} {x2 : Int32} {x3 : Int32} {x4 : Int32}  : Im (d_45_5 a0 x1 x2 m x3 x4) (kI L nx m) (ev_dn b z 45 5 [some (.ref a0), some (.int x1), some (.int x2), some (.int x3), some (.int x4)] [] (nx, mem L nx m)) := by
  exact i_it (f := fun s => s_45_5 a0 x1 x2 m s.1 s.2) (E := E_45_5 L nx b z a0 x1 x2 m) (K := (kI L nx m)) (fun d s => u_45_5 hN (h0 := h0)) () (x3, x4)
noncomputable def d_45 (a0 : Nat) (x1 : Int32) (x2 : Int32) (m : Mm) : Option Int32 := d_45_5 a0 x1 x2 m 0 0
theorem t_45 {L nx : Nat} (hN : okn nx) {b z : Nat} {m : Mm} {a0 : Nat} (h0 : ok nx a0 2) {x1 : Int32} {x2 : Int32}  : Im (d_45 a0 x1 x2 m) (kI L nx m) (ev_dn b z 45 0 [some (.ref a0), some (.int x1), some (.int x2), none, none] [] (nx, mem L nx m)) := by
  unfold d_45
  refine i_bl (pc' := 5) [(.iconst 0, 1), (.istore_n 3, 1), (.iconst 0, 1), (.istore 4, 2)] [some (.ref a0), some (.int x1), some (.int x2), some (.int 0), some (.int 0)] [] (by decide +kernel) rfl ?_
  exact t_45_5 hN (h0 := h0)

/-! 69 LanternChess$Log.clear()V -/
noncomputable def d_69 (a0 : Nat) (m : Mm) : Option Mm := wb (wr m a0 1 0) fun m1 => wb (wr m1 a0 2 0) fun m2 => some m2
theorem t_69 {L nx : Nat} (hN : okn nx) {b z : Nat} {m : Mm} {a0 : Nat} (h0 : ok nx a0 5)   : Im (d_69 a0 m) (wV L nx) (ev_dn b z 69 0 [some (.ref a0)] [] (nx, mem L nx m)) := by
  unfold d_69
  refine i_bl (pc' := 2) [(.aload_n 0, 1), (.iconst 0, 1)] [some (.ref a0)] [.int 0, .ref a0] (by decide +kernel) rfl ?_
  refine i_pf (x := 0) (idx := 15) (ci := 5) (k := 1) (p := 11164) (pc' := 5) (by decide +kernel) h0 (fun m1 => ?_)
  refine i_bl (pc' := 7) [(.aload_n 0, 1), (.iconst 0, 1)] [some (.ref a0)] [.int 0, .ref a0] (by decide +kernel) rfl ?_
  refine i_pf (x := 0) (idx := 19) (ci := 5) (k := 2) (p := 11166) (pc' := 10) (by decide +kernel) h0 (fun m2 => ?_)
  exact i_rv (by decide +kernel) rfl

/-! 48 LanternChess$Game.begin(II)V -/
noncomputable def d_48 (a0 : Nat) (x1 : Int32) (x2 : Int32) (m : Mm) : Option Mm := (d_1 (sh_r a0 0) x1 x2 m).bind fun m1 => (d_1 (sh_r a0 1) x1 x2 m1).bind fun m2 => wb (wr m2 (sh_r a0 2) 3 0) fun m3 => (d_69 (sh_r a0 3) m3).bind fun m4 => (d_69 (sh_r a0 4) m4).bind fun m5 => wb (wr m5 a0 5 0) fun m6 => wb (wr m6 a0 6 0) fun m7 => wb (wr m7 a0 7 0) fun m8 => wb (wr m8 a0 8 2) fun m9 => wb (wr m9 a0 9 3) fun m10 => wb (wr m10 a0 10 4) fun m11 => wb (wr m11 a0 11 1000) fun m12 => wb (wr m12 a0 12 1000) fun m13 => some m13
theorem t_48 {L nx : Nat} (hN : okn nx) {b z : Nat} {m : Mm} {a0 : Nat} (h0 : ok nx a0 3) {x1 : Int32} {x2 : Int32}  : Im (d_48 a0 x1 x2 m) (wV L nx) (ev_dn b z 48 0 [some (.ref a0), some (.int x1), some (.int x2)] [] (nx, mem L nx m)) := by
  unfold d_48
  refine i_bl (pc' := 1) [(.aload_n 0, 1)] [some (.ref a0), some (.int x1), some (.int x2)] [.ref a0] (by decide +kernel) rfl ?_
  refine i_gr (idx := 12) (ci := 3) (k := 0) (t := 2) (p := 11175) (pc' := 4) (by decide +kernel) h0 ?_
  refine i_bl (pc' := 6) [(.iload_n 1, 1), (.iload_n 2, 1)] [some (.ref a0), some (.int x1), some (.int x2)] [.int x2, .int x1, .ref (sh_r a0 0)] (by decide +kernel) rfl ?_
  refine i_cv (ci := 0) (t := 1) (na := 3) (ml := 3) (idx := 63) (pc' := 9) (st' := []) (en := [some (.ref (sh_r a0 0)), some (.int x1), some (.int x2)]) (av := [.int x1, .int x2]) (vo := fun _ => none) (mo := fun m => m) (s2 := fun _ => []) (by decide +kernel) (by decide +kernel) (o_3_0 hN h0) ⟨rfl, rfl, rfl, rfl, rfl, rfl⟩ (fun _ => rfl) (t_1 hN (h0 := (o_3_0 hN h0))) (fun m1 => ?_)
  refine i_bl (pc' := 10) [(.aload_n 0, 1)] [some (.ref a0), some (.int x1), some (.int x2)] [.ref a0] (by decide +kernel) rfl ?_
  refine i_gr (idx := 18) (ci := 3) (k := 1) (t := 2) (p := 11178) (pc' := 13) (by decide +kernel) h0 ?_
  refine i_bl (pc' := 15) [(.iload_n 1, 1), (.iload_n 2, 1)] [some (.ref a0), some (.int x1), some (.int x2)] [.int x2, .int x1, .ref (sh_r a0 1)] (by decide +kernel) rfl ?_
  refine i_cv (ci := 0) (t := 1) (na := 3) (ml := 3) (idx := 63) (pc' := 18) (st' := []) (en := [some (.ref (sh_r a0 1)), some (.int x1), some (.int x2)]) (av := [.int x1, .int x2]) (vo := fun _ => none) (mo := fun m => m) (s2 := fun _ => []) (by decide +kernel) (by decide +kernel) (o_3_1 hN h0) ⟨rfl, rfl, rfl, rfl, rfl, rfl⟩ (fun _ => rfl) (t_1 hN (h0 := (o_3_1 hN h0))) (fun m2 => ?_)
  refine i_bl (pc' := 19) [(.aload_n 0, 1)] [some (.ref a0), some (.int x1), some (.int x2)] [.ref a0] (by decide +kernel) rfl ?_
  refine i_gr (idx := 24) (ci := 3) (k := 2) (t := 2) (p := 11180) (pc' := 22) (by decide +kernel) h0 ?_
  refine i_bl (pc' := 23) [(.iconst 0, 1)] [some (.ref a0), some (.int x1), some (.int x2)] [.int 0, .ref (sh_r a0 2)] (by decide +kernel) rfl ?_
  refine i_pf (x := 0) (idx := 67) (ci := 2) (k := 3) (p := 11146) (pc' := 26) (by decide +kernel) (o_3_2 hN h0) (fun m3 => ?_)
  refine i_bl (pc' := 27) [(.aload_n 0, 1)] [some (.ref a0), some (.int x1), some (.int x2)] [.ref a0] (by decide +kernel) rfl ?_
  refine i_gr (idx := 31) (ci := 3) (k := 3) (t := 2) (p := 11183) (pc' := 30) (by decide +kernel) h0 ?_
  refine i_cv (ci := 5) (t := 69) (na := 1) (ml := 1) (idx := 70) (pc' := 33) (st' := []) (en := [some (.ref (sh_r a0 3))]) (av := []) (vo := fun _ => none) (mo := fun m => m) (s2 := fun _ => []) (by decide +kernel) (by decide +kernel) (o_3_3 hN h0) ⟨rfl, rfl, rfl, rfl, rfl, rfl⟩ (fun _ => rfl) (t_69 hN (h0 := (o_3_3 hN h0))) (fun m4 => ?_)
  refine i_bl (pc' := 34) [(.aload_n 0, 1)] [some (.ref a0), some (.int x1), some (.int x2)] [.ref a0] (by decide +kernel) rfl ?_
  refine i_gr (idx := 35) (ci := 3) (k := 4) (t := 2) (p := 11185) (pc' := 37) (by decide +kernel) h0 ?_
  refine i_cv (ci := 5) (t := 69) (na := 1) (ml := 1) (idx := 70) (pc' := 40) (st' := []) (en := [some (.ref (sh_r a0 4))]) (av := []) (vo := fun _ => none) (mo := fun m => m) (s2 := fun _ => []) (by decide +kernel) (by decide +kernel) (o_3_4 hN h0) ⟨rfl, rfl, rfl, rfl, rfl, rfl⟩ (fun _ => rfl) (t_69 hN (h0 := (o_3_4 hN h0))) (fun m5 => ?_)
  refine i_bl (pc' := 42) [(.aload_n 0, 1), (.iconst 0, 1)] [some (.ref a0), some (.int x1), some (.int x2)] [.int 0, .ref a0] (by decide +kernel) rfl ?_
  refine i_pf (x := 0) (idx := 38) (ci := 3) (k := 5) (p := 11187) (pc' := 45) (by decide +kernel) h0 (fun m6 => ?_)
  refine i_bl (pc' := 47) [(.aload_n 0, 1), (.iconst 0, 1)] [some (.ref a0), some (.int x1), some (.int x2)] [.int 0, .ref a0] (by decide +kernel) rfl ?_
  refine i_pf (x := 0) (idx := 42) (ci := 3) (k := 6) (p := 11189) (pc' := 50) (by decide +kernel) h0 (fun m7 => ?_)
  refine i_bl (pc' := 52) [(.aload_n 0, 1), (.iconst 0, 1)] [some (.ref a0), some (.int x1), some (.int x2)] [.int 0, .ref a0] (by decide +kernel) rfl ?_
  refine i_pf (x := 0) (idx := 45) (ci := 3) (k := 7) (p := 11191) (pc' := 55) (by decide +kernel) h0 (fun m8 => ?_)
  refine i_bl (pc' := 57) [(.aload_n 0, 1), (.iconst 2, 1)] [some (.ref a0), some (.int x1), some (.int x2)] [.int 2, .ref a0] (by decide +kernel) rfl ?_
  refine i_pf (x := 2) (idx := 48) (ci := 3) (k := 8) (p := 11193) (pc' := 60) (by decide +kernel) h0 (fun m9 => ?_)
  refine i_bl (pc' := 62) [(.aload_n 0, 1), (.iconst 3, 1)] [some (.ref a0), some (.int x1), some (.int x2)] [.int 3, .ref a0] (by decide +kernel) rfl ?_
  refine i_pf (x := 3) (idx := 51) (ci := 3) (k := 9) (p := 11196) (pc' := 65) (by decide +kernel) h0 (fun m10 => ?_)
  refine i_bl (pc' := 67) [(.aload_n 0, 1), (.iconst 4, 1)] [some (.ref a0), some (.int x1), some (.int x2)] [.int 4, .ref a0] (by decide +kernel) rfl ?_
  refine i_pf (x := 4) (idx := 54) (ci := 3) (k := 10) (p := 11199) (pc' := 70) (by decide +kernel) h0 (fun m11 => ?_)
  refine i_bl (pc' := 74) [(.aload_n 0, 1), (.sipush (1000), 3)] [some (.ref a0), some (.int x1), some (.int x2)] [.int 1000, .ref a0] (by decide +kernel) rfl ?_
  refine i_pf (x := 1000) (idx := 57) (ci := 3) (k := 11) (p := 11202) (pc' := 77) (by decide +kernel) h0 (fun m12 => ?_)
  refine i_bl (pc' := 81) [(.aload_n 0, 1), (.sipush (1000), 3)] [some (.ref a0), some (.int x1), some (.int x2)] [.int 1000, .ref a0] (by decide +kernel) rfl ?_
  refine i_pf (x := 1000) (idx := 60) (ci := 3) (k := 12) (p := 11203) (pc' := 84) (by decide +kernel) h0 (fun m13 => ?_)
  exact i_rv (by decide +kernel) rfl

/-! 68 LanternChess$Log.copyFrom(LLanternChess$Log;)V -/
noncomputable def d_68 (a0 : Nat) (a1 : Nat) (m : Mm) : Option Mm := if ¬ (0 : Int32) < 0 ∧ ¬ (0 : Int32) < 0 ∧ ¬ (Int32.ofNat (sh_n (sh_r a0 0))) < 0 ∧ ix (0 : Int32) + ix (Int32.ofNat (sh_n (sh_r a0 0))) ≤ sh_n (sh_r a1 0) ∧ ix (0 : Int32) + ix (Int32.ofNat (sh_n (sh_r a0 0))) ≤ sh_n (sh_r a0 0) then (wb (wa m (sh_r a0 0) (va_cpy (m (sh_r a1 0)) (m (sh_r a0 0)) (ix (0 : Int32)) (ix (0 : Int32)) (ix (Int32.ofNat (sh_n (sh_r a0 0)))))) fun m1 => wb (wr m1 a0 1 (m1 a1 1)) fun m2 => wb (wr m2 a0 2 (m2 a1 2)) fun m3 => some m3) else none
theorem t_68 {L nx : Nat} (hN : okn nx) {b z : Nat} {m : Mm} {a0 : Nat} (h0 : ok nx a0 5) {a1 : Nat} (h1 : ok nx a1 5)   : Im (d_68 a0 a1 m) (wV L nx) (ev_dn b z 68 0 [some (.ref a0), some (.ref a1)] [] (nx, mem L nx m)) := by
  unfold d_68
  refine i_bl (pc' := 1) [(.aload_n 1, 1)] [some (.ref a0), some (.ref a1)] [.ref a1] (by decide +kernel) rfl ?_
  refine i_gr (idx := 9) (ci := 5) (k := 0) (t := 2) (p := 11163) (pc' := 4) (by decide +kernel) h1 ?_
  refine i_bl (pc' := 6) [(.iconst 0, 1), (.aload_n 0, 1)] [some (.ref a0), some (.ref a1)] [.ref a0, .int 0, .ref (sh_r a1 0)] (by decide +kernel) rfl ?_
  refine i_gr (idx := 9) (ci := 5) (k := 0) (t := 2) (p := 11163) (pc' := 9) (by decide +kernel) h0 ?_
  refine i_bl (pc' := 11) [(.iconst 0, 1), (.aload_n 0, 1)] [some (.ref a0), some (.ref a1)] [.ref a0, .int 0, .ref (sh_r a0 0), .int 0, .ref (sh_r a1 0)] (by decide +kernel) rfl ?_
  refine i_gr (idx := 9) (ci := 5) (k := 0) (t := 2) (p := 11163) (pc' := 14) (by decide +kernel) h0 ?_
  refine i_ln (c := 100) (pc' := 15) (by decide +kernel) (o_5_0 hN h0) ?_
  refine i_ac (idx := 22) (pc' := 18) (by decide +kernel) rfl (o_5_0 hN h1) (o_5_0 hN h0) (fun m1 => ?_)
  refine i_bl (pc' := 20) [(.aload_n 0, 1), (.aload_n 1, 1)] [some (.ref a0), some (.ref a1)] [.ref a1, .ref a0] (by decide +kernel) rfl ?_
  refine i_gf (idx := 15) (ci := 5) (k := 1) (t := 0) (p := 11164) (pc' := 23) (by decide +kernel) h1 ?_
  refine i_pf (x := (m1 a1 1)) (idx := 15) (ci := 5) (k := 1) (p := 11164) (pc' := 26) (by decide +kernel) h0 (fun m2 => ?_)
  refine i_bl (pc' := 28) [(.aload_n 0, 1), (.aload_n 1, 1)] [some (.ref a0), some (.ref a1)] [.ref a1, .ref a0] (by decide +kernel) rfl ?_
  refine i_gf (idx := 19) (ci := 5) (k := 2) (t := 0) (p := 11166) (pc' := 31) (by decide +kernel) h1 ?_
  refine i_pf (x := (m2 a1 2)) (idx := 19) (ci := 5) (k := 2) (p := 11166) (pc' := 34) (by decide +kernel) h0 (fun m3 => ?_)
  exact i_rv (by decide +kernel) rfl

/-! 49 LanternChess$Game.copyFrom(LLanternChess$Game;)V -/
noncomputable def d_49 (a0 : Nat) (a1 : Nat) (m : Mm) : Option Mm := (d_2 (sh_r a0 0) (sh_r a1 0) m).bind fun m1 => (d_2 (sh_r a0 1) (sh_r a1 1) m1).bind fun m2 => (d_38 (sh_r a0 2) (sh_r a1 2) m2).bind fun m3 => (d_68 (sh_r a0 3) (sh_r a1 3) m3).bind fun m4 => (d_68 (sh_r a0 4) (sh_r a1 4) m4).bind fun m5 => wb (wr m5 a0 5 (m5 a1 5)) fun m6 => wb (wr m6 a0 6 (m6 a1 6)) fun m7 => wb (wr m7 a0 7 (m7 a1 7)) fun m8 => wb (wr m8 a0 8 (m8 a1 8)) fun m9 => wb (wr m9 a0 9 (m9 a1 9)) fun m10 => wb (wr m10 a0 10 (m10 a1 10)) fun m11 => wb (wr m11 a0 11 (m11 a1 11)) fun m12 => wb (wr m12 a0 12 (m12 a1 12)) fun m13 => some m13
theorem t_49 {L nx : Nat} (hN : okn nx) {b z : Nat} {m : Mm} {a0 : Nat} (h0 : ok nx a0 3) {a1 : Nat} (h1 : ok nx a1 3)   : Im (d_49 a0 a1 m) (wV L nx) (ev_dn b z 49 0 [some (.ref a0), some (.ref a1)] [] (nx, mem L nx m)) := by
  unfold d_49
  refine i_bl (pc' := 1) [(.aload_n 0, 1)] [some (.ref a0), some (.ref a1)] [.ref a0] (by decide +kernel) rfl ?_
  refine i_gr (idx := 12) (ci := 3) (k := 0) (t := 2) (p := 11175) (pc' := 4) (by decide +kernel) h0 ?_
  refine i_bl (pc' := 5) [(.aload_n 1, 1)] [some (.ref a0), some (.ref a1)] [.ref a1, .ref (sh_r a0 0)] (by decide +kernel) rfl ?_
  refine i_gr (idx := 12) (ci := 3) (k := 0) (t := 2) (p := 11175) (pc' := 8) (by decide +kernel) h1 ?_
  refine i_cv (ci := 0) (t := 2) (na := 2) (ml := 2) (idx := 73) (pc' := 11) (st' := []) (en := [some (.ref (sh_r a0 0)), some (.ref (sh_r a1 0))]) (av := [.ref (sh_r a1 0)]) (vo := fun _ => none) (mo := fun m => m) (s2 := fun _ => []) (by decide +kernel) (by decide +kernel) (o_3_0 hN h0) ⟨rfl, rfl, rfl, rfl, rfl, rfl⟩ (fun _ => rfl) (t_2 hN (h0 := (o_3_0 hN h0)) (h1 := (o_3_0 hN h1))) (fun m1 => ?_)
  refine i_bl (pc' := 12) [(.aload_n 0, 1)] [some (.ref a0), some (.ref a1)] [.ref a0] (by decide +kernel) rfl ?_
  refine i_gr (idx := 18) (ci := 3) (k := 1) (t := 2) (p := 11178) (pc' := 15) (by decide +kernel) h0 ?_
  refine i_bl (pc' := 16) [(.aload_n 1, 1)] [some (.ref a0), some (.ref a1)] [.ref a1, .ref (sh_r a0 1)] (by decide +kernel) rfl ?_
  refine i_gr (idx := 18) (ci := 3) (k := 1) (t := 2) (p := 11178) (pc' := 19) (by decide +kernel) h1 ?_
  refine i_cv (ci := 0) (t := 2) (na := 2) (ml := 2) (idx := 73) (pc' := 22) (st' := []) (en := [some (.ref (sh_r a0 1)), some (.ref (sh_r a1 1))]) (av := [.ref (sh_r a1 1)]) (vo := fun _ => none) (mo := fun m => m) (s2 := fun _ => []) (by decide +kernel) (by decide +kernel) (o_3_1 hN h0) ⟨rfl, rfl, rfl, rfl, rfl, rfl⟩ (fun _ => rfl) (t_2 hN (h0 := (o_3_1 hN h0)) (h1 := (o_3_1 hN h1))) (fun m2 => ?_)
  refine i_bl (pc' := 23) [(.aload_n 0, 1)] [some (.ref a0), some (.ref a1)] [.ref a0] (by decide +kernel) rfl ?_
  refine i_gr (idx := 24) (ci := 3) (k := 2) (t := 2) (p := 11180) (pc' := 26) (by decide +kernel) h0 ?_
  refine i_bl (pc' := 27) [(.aload_n 1, 1)] [some (.ref a0), some (.ref a1)] [.ref a1, .ref (sh_r a0 2)] (by decide +kernel) rfl ?_
  refine i_gr (idx := 24) (ci := 3) (k := 2) (t := 2) (p := 11180) (pc' := 30) (by decide +kernel) h1 ?_
  refine i_cv (ci := 2) (t := 38) (na := 2) (ml := 2) (idx := 77) (pc' := 33) (st' := []) (en := [some (.ref (sh_r a0 2)), some (.ref (sh_r a1 2))]) (av := [.ref (sh_r a1 2)]) (vo := fun _ => none) (mo := fun m => m) (s2 := fun _ => []) (by decide +kernel) (by decide +kernel) (o_3_2 hN h0) ⟨rfl, rfl, rfl, rfl, rfl, rfl⟩ (fun _ => rfl) (t_38 hN (h0 := (o_3_2 hN h0)) (h1 := (o_3_2 hN h1))) (fun m3 => ?_)
  refine i_bl (pc' := 34) [(.aload_n 0, 1)] [some (.ref a0), some (.ref a1)] [.ref a0] (by decide +kernel) rfl ?_
  refine i_gr (idx := 31) (ci := 3) (k := 3) (t := 2) (p := 11183) (pc' := 37) (by decide +kernel) h0 ?_
  refine i_bl (pc' := 38) [(.aload_n 1, 1)] [some (.ref a0), some (.ref a1)] [.ref a1, .ref (sh_r a0 3)] (by decide +kernel) rfl ?_
  refine i_gr (idx := 31) (ci := 3) (k := 3) (t := 2) (p := 11183) (pc' := 41) (by decide +kernel) h1 ?_
  refine i_cv (ci := 5) (t := 68) (na := 2) (ml := 2) (idx := 80) (pc' := 44) (st' := []) (en := [some (.ref (sh_r a0 3)), some (.ref (sh_r a1 3))]) (av := [.ref (sh_r a1 3)]) (vo := fun _ => none) (mo := fun m => m) (s2 := fun _ => []) (by decide +kernel) (by decide +kernel) (o_3_3 hN h0) ⟨rfl, rfl, rfl, rfl, rfl, rfl⟩ (fun _ => rfl) (t_68 hN (h0 := (o_3_3 hN h0)) (h1 := (o_3_3 hN h1))) (fun m4 => ?_)
  refine i_bl (pc' := 45) [(.aload_n 0, 1)] [some (.ref a0), some (.ref a1)] [.ref a0] (by decide +kernel) rfl ?_
  refine i_gr (idx := 35) (ci := 3) (k := 4) (t := 2) (p := 11185) (pc' := 48) (by decide +kernel) h0 ?_
  refine i_bl (pc' := 49) [(.aload_n 1, 1)] [some (.ref a0), some (.ref a1)] [.ref a1, .ref (sh_r a0 4)] (by decide +kernel) rfl ?_
  refine i_gr (idx := 35) (ci := 3) (k := 4) (t := 2) (p := 11185) (pc' := 52) (by decide +kernel) h1 ?_
  refine i_cv (ci := 5) (t := 68) (na := 2) (ml := 2) (idx := 80) (pc' := 55) (st' := []) (en := [some (.ref (sh_r a0 4)), some (.ref (sh_r a1 4))]) (av := [.ref (sh_r a1 4)]) (vo := fun _ => none) (mo := fun m => m) (s2 := fun _ => []) (by decide +kernel) (by decide +kernel) (o_3_4 hN h0) ⟨rfl, rfl, rfl, rfl, rfl, rfl⟩ (fun _ => rfl) (t_68 hN (h0 := (o_3_4 hN h0)) (h1 := (o_3_4 hN h1))) (fun m5 => ?_)
  refine i_bl (pc' := 57) [(.aload_n 0, 1), (.aload_n 1, 1)] [some (.ref a0), some (.ref a1)] [.ref a1, .ref a0] (by decide +kernel) rfl ?_
  refine i_gf (idx := 38) (ci := 3) (k := 5) (t := 0) (p := 11187) (pc' := 60) (by decide +kernel) h1 ?_
  refine i_pf (x := (m5 a1 5)) (idx := 38) (ci := 3) (k := 5) (p := 11187) (pc' := 63) (by decide +kernel) h0 (fun m6 => ?_)
  refine i_bl (pc' := 65) [(.aload_n 0, 1), (.aload_n 1, 1)] [some (.ref a0), some (.ref a1)] [.ref a1, .ref a0] (by decide +kernel) rfl ?_
  refine i_gf (idx := 42) (ci := 3) (k := 6) (t := 0) (p := 11189) (pc' := 68) (by decide +kernel) h1 ?_
  refine i_pf (x := (m6 a1 6)) (idx := 42) (ci := 3) (k := 6) (p := 11189) (pc' := 71) (by decide +kernel) h0 (fun m7 => ?_)
  refine i_bl (pc' := 73) [(.aload_n 0, 1), (.aload_n 1, 1)] [some (.ref a0), some (.ref a1)] [.ref a1, .ref a0] (by decide +kernel) rfl ?_
  refine i_gf (idx := 45) (ci := 3) (k := 7) (t := 0) (p := 11191) (pc' := 76) (by decide +kernel) h1 ?_
  refine i_pf (x := (m7 a1 7)) (idx := 45) (ci := 3) (k := 7) (p := 11191) (pc' := 79) (by decide +kernel) h0 (fun m8 => ?_)
  refine i_bl (pc' := 81) [(.aload_n 0, 1), (.aload_n 1, 1)] [some (.ref a0), some (.ref a1)] [.ref a1, .ref a0] (by decide +kernel) rfl ?_
  refine i_gf (idx := 48) (ci := 3) (k := 8) (t := 0) (p := 11193) (pc' := 84) (by decide +kernel) h1 ?_
  refine i_pf (x := (m8 a1 8)) (idx := 48) (ci := 3) (k := 8) (p := 11193) (pc' := 87) (by decide +kernel) h0 (fun m9 => ?_)
  refine i_bl (pc' := 89) [(.aload_n 0, 1), (.aload_n 1, 1)] [some (.ref a0), some (.ref a1)] [.ref a1, .ref a0] (by decide +kernel) rfl ?_
  refine i_gf (idx := 51) (ci := 3) (k := 9) (t := 0) (p := 11196) (pc' := 92) (by decide +kernel) h1 ?_
  refine i_pf (x := (m9 a1 9)) (idx := 51) (ci := 3) (k := 9) (p := 11196) (pc' := 95) (by decide +kernel) h0 (fun m10 => ?_)
  refine i_bl (pc' := 97) [(.aload_n 0, 1), (.aload_n 1, 1)] [some (.ref a0), some (.ref a1)] [.ref a1, .ref a0] (by decide +kernel) rfl ?_
  refine i_gf (idx := 54) (ci := 3) (k := 10) (t := 0) (p := 11199) (pc' := 100) (by decide +kernel) h1 ?_
  refine i_pf (x := (m10 a1 10)) (idx := 54) (ci := 3) (k := 10) (p := 11199) (pc' := 103) (by decide +kernel) h0 (fun m11 => ?_)
  refine i_bl (pc' := 105) [(.aload_n 0, 1), (.aload_n 1, 1)] [some (.ref a0), some (.ref a1)] [.ref a1, .ref a0] (by decide +kernel) rfl ?_
  refine i_gf (idx := 57) (ci := 3) (k := 11) (t := 0) (p := 11202) (pc' := 108) (by decide +kernel) h1 ?_
  refine i_pf (x := (m11 a1 11)) (idx := 57) (ci := 3) (k := 11) (p := 11202) (pc' := 111) (by decide +kernel) h0 (fun m12 => ?_)
  refine i_bl (pc' := 113) [(.aload_n 0, 1), (.aload_n 1, 1)] [some (.ref a0), some (.ref a1)] [.ref a1, .ref a0] (by decide +kernel) rfl ?_
  refine i_gf (idx := 60) (ci := 3) (k := 12) (t := 0) (p := 11203) (pc' := 116) (by decide +kernel) h1 ?_
  refine i_pf (x := (m12 a1 12)) (idx := 60) (ci := 3) (k := 12) (p := 11203) (pc' := 119) (by decide +kernel) h0 (fun m13 => ?_)
  exact i_rv (by decide +kernel) rfl

/-! 50 LanternChess$Game.place(II)V -/
noncomputable def d_50 (a0 : Nat) (x1 : Int32) (x2 : Int32) (m : Mm) : Option Mm := (d_18 (sh_r (sh_r a0 0) 0) x1 x2 m).bind fun m1 => (d_18 (sh_r (sh_r a0 1) 0) x1 x2 m1).bind fun m2 => some m2
theorem t_50 {L nx : Nat} (hN : okn nx) {b z : Nat} {m : Mm} {a0 : Nat} (h0 : ok nx a0 3) {x1 : Int32} {x2 : Int32}  : Im (d_50 a0 x1 x2 m) (wV L nx) (ev_dn b z 50 0 [some (.ref a0), some (.int x1), some (.int x2)] [] (nx, mem L nx m)) := by
  unfold d_50
  refine i_bl (pc' := 1) [(.aload_n 0, 1)] [some (.ref a0), some (.int x1), some (.int x2)] [.ref a0] (by decide +kernel) rfl ?_
  refine i_gr (idx := 12) (ci := 3) (k := 0) (t := 2) (p := 11175) (pc' := 4) (by decide +kernel) h0 ?_
  refine i_gr (idx := 83) (ci := 0) (k := 0) (t := 2) (p := 11114) (pc' := 7) (by decide +kernel) (o_3_0 hN h0) ?_
  refine i_bl (pc' := 9) [(.iload_n 1, 1), (.iload_n 2, 1)] [some (.ref a0), some (.int x1), some (.int x2)] [.int x2, .int x1, .ref (sh_r (sh_r a0 0) 0)] (by decide +kernel) rfl ?_
  refine i_cv (ci := 1) (t := 18) (na := 3) (ml := 3) (idx := 87) (pc' := 12) (st' := []) (en := [some (.ref (sh_r (sh_r a0 0) 0)), some (.int x1), some (.int x2)]) (av := [.int x1, .int x2]) (vo := fun _ => none) (mo := fun m => m) (s2 := fun _ => []) (by decide +kernel) (by decide +kernel) (o_0_0 hN (o_3_0 hN h0)) ⟨rfl, rfl, rfl, rfl, rfl, rfl⟩ (fun _ => rfl) (t_18 hN (h0 := (o_0_0 hN (o_3_0 hN h0)))) (fun m1 => ?_)
  refine i_bl (pc' := 13) [(.aload_n 0, 1)] [some (.ref a0), some (.int x1), some (.int x2)] [.ref a0] (by decide +kernel) rfl ?_
  refine i_gr (idx := 18) (ci := 3) (k := 1) (t := 2) (p := 11178) (pc' := 16) (by decide +kernel) h0 ?_
  refine i_gr (idx := 83) (ci := 0) (k := 0) (t := 2) (p := 11114) (pc' := 19) (by decide +kernel) (o_3_1 hN h0) ?_
  refine i_bl (pc' := 21) [(.iload_n 1, 1), (.iload_n 2, 1)] [some (.ref a0), some (.int x1), some (.int x2)] [.int x2, .int x1, .ref (sh_r (sh_r a0 1) 0)] (by decide +kernel) rfl ?_
  refine i_cv (ci := 1) (t := 18) (na := 3) (ml := 3) (idx := 87) (pc' := 24) (st' := []) (en := [some (.ref (sh_r (sh_r a0 1) 0)), some (.int x1), some (.int x2)]) (av := [.int x1, .int x2]) (vo := fun _ => none) (mo := fun m => m) (s2 := fun _ => []) (by decide +kernel) (by decide +kernel) (o_0_0 hN (o_3_1 hN h0)) ⟨rfl, rfl, rfl, rfl, rfl, rfl⟩ (fun _ => rfl) (t_18 hN (h0 := (o_0_0 hN (o_3_1 hN h0)))) (fun m2 => ?_)
  exact i_rv (by decide +kernel) rfl

/-! 51 LanternChess$Game.boardOf(I)LLanternChess$Board; -/
noncomputable def d_51 (a0 : Nat) (x1 : Int32) : Option Nat := if ¬ x1 = 0 then (some (sh_r a0 1)) else (some (sh_r a0 0))
theorem t_51 {L nx : Nat} (hN : okn nx) {b z : Nat} {m : Mm} {a0 : Nat} (h0 : ok nx a0 3) {x1 : Int32}  : Im (d_51 a0 x1) (kA 0 L nx m) (ev_dn b z 51 0 [some (.ref a0), some (.int x1)] [] (nx, mem L nx m)) := by
  unfold d_51
  refine i_bl (pc' := 1) [(.iload_n 1, 1)] [some (.ref a0), some (.int x1)] [.int x1] (by decide +kernel) rfl ?_
  refine i_if (c := .ne) (off := 10) (t := 11) (pc' := 4) (p := ¬ x1 = 0) (by decide +kernel) rfl ?_ ?_
  · refine i_bl (pc' := 12) [(.aload_n 0, 1)] [some (.ref a0), some (.int x1)] [.ref a0] (by decide +kernel) rfl ?_
    refine i_gr (idx := 18) (ci := 3) (k := 1) (t := 2) (p := 11178) (pc' := 15) (by decide +kernel) h0 ?_
    exact i_ra (cn := "LanternChess$Board") (by decide +kernel) ⟨rfl, (o_3_1 hN h0)⟩
  · refine i_bl (pc' := 5) [(.aload_n 0, 1)] [some (.ref a0), some (.int x1)] [.ref a0] (by decide +kernel) rfl ?_
    refine i_gr (idx := 12) (ci := 3) (k := 0) (t := 2) (p := 11175) (pc' := 8) (by decide +kernel) h0 ?_
    refine i_go (t := 15) (off := 7) (by decide +kernel) ?_
    exact i_ra (cn := "LanternChess$Board") (by decide +kernel) ⟨rfl, (o_3_0 hN h0)⟩

/-! 52 LanternChess$Game.clockOf(I)I -/
noncomputable def d_52 (a0 : Nat) (x1 : Int32) (m : Mm) : Option Int32 := if ¬ x1 = 0 then (some (m a0 12)) else (some (m a0 11))
theorem t_52 {L nx : Nat} (hN : okn nx) {b z : Nat} {m : Mm} {a0 : Nat} (h0 : ok nx a0 3) {x1 : Int32}  : Im (d_52 a0 x1 m) (kI L nx m) (ev_dn b z 52 0 [some (.ref a0), some (.int x1)] [] (nx, mem L nx m)) := by
  unfold d_52
  refine i_bl (pc' := 1) [(.iload_n 1, 1)] [some (.ref a0), some (.int x1)] [.int x1] (by decide +kernel) rfl ?_
  refine i_if (c := .ne) (off := 10) (t := 11) (pc' := 4) (p := ¬ x1 = 0) (by decide +kernel) rfl ?_ ?_
  · refine i_bl (pc' := 12) [(.aload_n 0, 1)] [some (.ref a0), some (.int x1)] [.ref a0] (by decide +kernel) rfl ?_
    refine i_gf (idx := 60) (ci := 3) (k := 12) (t := 0) (p := 11203) (pc' := 15) (by decide +kernel) h0 ?_
    exact i_ri (by decide +kernel) rfl
  · refine i_bl (pc' := 5) [(.aload_n 0, 1)] [some (.ref a0), some (.int x1)] [.ref a0] (by decide +kernel) rfl ?_
    refine i_gf (idx := 57) (ci := 3) (k := 11) (t := 0) (p := 11202) (pc' := 8) (by decide +kernel) h0 ?_
    refine i_go (t := 15) (off := 7) (by decide +kernel) ?_
    exact i_ri (by decide +kernel) rfl

/-! 53 LanternChess$Game.setClock(II)V -/
noncomputable def d_53 (a0 : Nat) (x1 : Int32) (x2 : Int32) (m : Mm) : Option Mm := if ¬ x1 = 0 then (wb (wr m a0 12 x2) fun m1 => some m1) else (wb (wr m a0 11 x2) fun m2 => some m2)
theorem t_53 {L nx : Nat} (hN : okn nx) {b z : Nat} {m : Mm} {a0 : Nat} (h0 : ok nx a0 3) {x1 : Int32} {x2 : Int32}  : Im (d_53 a0 x1 x2 m) (wV L nx) (ev_dn b z 53 0 [some (.ref a0), some (.int x1), some (.int x2)] [] (nx, mem L nx m)) := by
  unfold d_53
  refine i_bl (pc' := 1) [(.iload_n 1, 1)] [some (.ref a0), some (.int x1), some (.int x2)] [.int x1] (by decide +kernel) rfl ?_
  refine i_if (c := .ne) (off := 11) (t := 12) (pc' := 4) (p := ¬ x1 = 0) (by decide +kernel) rfl ?_ ?_
  · refine i_bl (pc' := 14) [(.aload_n 0, 1), (.iload_n 2, 1)] [some (.ref a0), some (.int x1), some (.int x2)] [.int x2, .ref a0] (by decide +kernel) rfl ?_
    refine i_pf (x := x2) (idx := 60) (ci := 3) (k := 12) (p := 11203) (pc' := 17) (by decide +kernel) h0 (fun m1 => ?_)
    exact i_rv (by decide +kernel) rfl
  · refine i_bl (pc' := 6) [(.aload_n 0, 1), (.iload_n 2, 1)] [some (.ref a0), some (.int x1), some (.int x2)] [.int x2, .ref a0] (by decide +kernel) rfl ?_
    refine i_pf (x := x2) (idx := 57) (ci := 3) (k := 11) (p := 11202) (pc' := 9) (by decide +kernel) h0 (fun m2 => ?_)
    refine i_go (t := 17) (off := 8) (by decide +kernel) ?_
    exact i_rv (by decide +kernel) rfl

/-! 54 LanternChess$Game.differences()I -/
noncomputable def d_54 (a0 : Nat) (m : Mm) : Option Int32 := (d_35 (sh_r (sh_r a0 0) 0) (sh_r (sh_r a0 1) 0) m).bind fun v1 => some v1
theorem t_54 {L nx : Nat} (hN : okn nx) {b z : Nat} {m : Mm} {a0 : Nat} (h0 : ok nx a0 3)   : Im (d_54 a0 m) (kI L nx m) (ev_dn b z 54 0 [some (.ref a0)] [] (nx, mem L nx m)) := by
  unfold d_54
  refine i_bl (pc' := 1) [(.aload_n 0, 1)] [some (.ref a0)] [.ref a0] (by decide +kernel) rfl ?_
  refine i_gr (idx := 12) (ci := 3) (k := 0) (t := 2) (p := 11175) (pc' := 4) (by decide +kernel) h0 ?_
  refine i_gr (idx := 83) (ci := 0) (k := 0) (t := 2) (p := 11114) (pc' := 7) (by decide +kernel) (o_3_0 hN h0) ?_
  refine i_bl (pc' := 8) [(.aload_n 0, 1)] [some (.ref a0)] [.ref a0, .ref (sh_r (sh_r a0 0) 0)] (by decide +kernel) rfl ?_
  refine i_gr (idx := 18) (ci := 3) (k := 1) (t := 2) (p := 11178) (pc' := 11) (by decide +kernel) h0 ?_
  refine i_gr (idx := 83) (ci := 0) (k := 0) (t := 2) (p := 11114) (pc' := 14) (by decide +kernel) (o_3_1 hN h0) ?_
  refine i_cv (ci := 1) (t := 35) (na := 2) (ml := 4) (idx := 92) (pc' := 17) (st' := []) (en := [some (.ref (sh_r (sh_r a0 0) 0)), some (.ref (sh_r (sh_r a0 1) 0)), none, none]) (av := [.ref (sh_r (sh_r a0 1) 0)]) (vo := fun v => some (.int v)) (mo := fun _ => m) (s2 := fun v => .int v :: []) (by decide +kernel) (by decide +kernel) (o_0_0 hN (o_3_0 hN h0)) ⟨rfl, rfl, rfl, rfl, rfl, rfl⟩ (fun _ => rfl) (t_35 hN (h0 := (o_0_0 hN (o_3_0 hN h0))) (h1 := (o_0_0 hN (o_3_1 hN h0)))) (fun v1 => ?_)
  exact i_ri (by decide +kernel) rfl

/-! 55 LanternChess$Game.firstDifference()I -/
noncomputable def d_55 (a0 : Nat) (m : Mm) : Option Int32 := (d_36 (sh_r (sh_r a0 0) 0) (sh_r (sh_r a0 1) 0) m).bind fun v1 => some v1
theorem t_55 {L nx : Nat} (hN : okn nx) {b z : Nat} {m : Mm} {a0 : Nat} (h0 : ok nx a0 3)   : Im (d_55 a0 m) (kI L nx m) (ev_dn b z 55 0 [some (.ref a0)] [] (nx, mem L nx m)) := by
  unfold d_55
  refine i_bl (pc' := 1) [(.aload_n 0, 1)] [some (.ref a0)] [.ref a0] (by decide +kernel) rfl ?_
  refine i_gr (idx := 12) (ci := 3) (k := 0) (t := 2) (p := 11175) (pc' := 4) (by decide +kernel) h0 ?_
  refine i_gr (idx := 83) (ci := 0) (k := 0) (t := 2) (p := 11114) (pc' := 7) (by decide +kernel) (o_3_0 hN h0) ?_
  refine i_bl (pc' := 8) [(.aload_n 0, 1)] [some (.ref a0)] [.ref a0, .ref (sh_r (sh_r a0 0) 0)] (by decide +kernel) rfl ?_
  refine i_gr (idx := 18) (ci := 3) (k := 1) (t := 2) (p := 11178) (pc' := 11) (by decide +kernel) h0 ?_
  refine i_gr (idx := 83) (ci := 0) (k := 0) (t := 2) (p := 11114) (pc' := 14) (by decide +kernel) (o_3_1 hN h0) ?_
  refine i_cv (ci := 1) (t := 36) (na := 2) (ml := 3) (idx := 96) (pc' := 17) (st' := []) (en := [some (.ref (sh_r (sh_r a0 0) 0)), some (.ref (sh_r (sh_r a0 1) 0)), none]) (av := [.ref (sh_r (sh_r a0 1) 0)]) (vo := fun v => some (.int v)) (mo := fun _ => m) (s2 := fun v => .int v :: []) (by decide +kernel) (by decide +kernel) (o_0_0 hN (o_3_0 hN h0)) ⟨rfl, rfl, rfl, rfl, rfl, rfl⟩ (fun _ => rfl) (t_36 hN (h0 := (o_0_0 hN (o_3_0 hN h0))) (h1 := (o_0_0 hN (o_3_1 hN h0)))) (fun v1 => ?_)
  exact i_ri (by decide +kernel) rfl

/-! 56 LanternChess$Game.canMove(II)Z -/
noncomputable def d_56 (a0 : Nat) (x1 : Int32) (x2 : Int32) (m : Mm) : Option Bool := (d_51 a0 (m a0 6)).bind fun v1 => (d_21 (sh_r v1 0) (m a0 6) x1 x2 m).bind fun v3 => some v3
theorem t_56 {L nx : Nat} (hN : okn nx) {b z : Nat} {m : Mm} {a0 : Nat} (h0 : ok nx a0 3) {x1 : Int32} {x2 : Int32}  : Im (d_56 a0 x1 x2 m) (kZ L nx m) (ev_dn b z 56 0 [some (.ref a0), some (.int x1), some (.int x2)] [] (nx, mem L nx m)) := by
  unfold d_56
  refine i_bl (pc' := 2) [(.aload_n 0, 1), (.aload_n 0, 1)] [some (.ref a0), some (.int x1), some (.int x2)] [.ref a0, .ref a0] (by decide +kernel) rfl ?_
  refine i_gf (idx := 42) (ci := 3) (k := 6) (t := 0) (p := 11189) (pc' := 5) (by decide +kernel) h0 ?_
  refine i_cA (cr := 0) (ci := 3) (t := 51) (na := 2) (ml := 2) (idx := 99) (pc' := 8) (st' := []) (en := [some (.ref a0), some (.int (m a0 6))]) (av := [.int (m a0 6)]) (s2 := fun v => .ref v :: []) (by decide +kernel) (by decide +kernel) h0 ⟨rfl, rfl, rfl, rfl, rfl, rfl⟩ (fun _ => rfl) (t_51 hN (h0 := h0)) (fun v1 hr2 => ?_)
  refine i_gr (idx := 83) (ci := 0) (k := 0) (t := 2) (p := 11114) (pc' := 11) (by decide +kernel) hr2 ?_
  refine i_bl (pc' := 12) [(.aload_n 0, 1)] [some (.ref a0), some (.int x1), some (.int x2)] [.ref a0, .ref (sh_r v1 0)] (by decide +kernel) rfl ?_
  refine i_gf (idx := 42) (ci := 3) (k := 6) (t := 0) (p := 11189) (pc' := 15) (by decide +kernel) h0 ?_
  refine i_bl (pc' := 17) [(.iload_n 1, 1), (.iload_n 2, 1)] [some (.ref a0), some (.int x1), some (.int x2)] [.int x2, .int x1, .int (m a0 6), .ref (sh_r v1 0)] (by decide +kernel) rfl ?_
  refine i_cv (ci := 1) (t := 21) (na := 4) (ml := 6) (idx := 103) (pc' := 20) (st' := []) (en := [some (.ref (sh_r v1 0)), some (.int (m a0 6)), some (.int x1), some (.int x2), none, none]) (av := [.int (m a0 6), .int x1, .int x2]) (vo := fun v => some (.int (bi v))) (mo := fun _ => m) (s2 := fun v => .int (bi v) :: []) (by decide +kernel) (by decide +kernel) (o_0_0 hN hr2) ⟨rfl, rfl, rfl, rfl, rfl, rfl⟩ (fun _ => rfl) (t_21 hN (h0 := (o_0_0 hN hr2))) (fun v3 => ?_)
  exact i_rz (B := v3) (by decide +kernel) rfl

/-! 57 LanternChess$Game.endWith(I)V -/
noncomputable def d_57 (a0 : Nat) (x1 : Int32) (m : Mm) : Option Mm := wb (wr m a0 7 (x1 + 1)) fun m1 => some m1
theorem t_57 {L nx : Nat} (hN : okn nx) {b z : Nat} {m : Mm} {a0 : Nat} (h0 : ok nx a0 3) {x1 : Int32}  : Im (d_57 a0 x1 m) (wV L nx) (ev_dn b z 57 0 [some (.ref a0), some (.int x1)] [] (nx, mem L nx m)) := by
  unfold d_57
  refine i_bl (pc' := 4) [(.aload_n 0, 1), (.iload_n 1, 1), (.iconst 1, 1), (.iadd, 1)] [some (.ref a0), some (.int x1)] [.int (x1 + 1), .ref a0] (by decide +kernel) rfl ?_
  refine i_pf (x := (x1 + 1)) (idx := 45) (ci := 3) (k := 7) (p := 11191) (pc' := 7) (by decide +kernel) h0 (fun m1 => ?_)
  exact i_rv (by decide +kernel) rfl

/-! 58 LanternChess$Game.spend(I)Z -/
noncomputable def d_58_51 (x1 : Int32) (x2 : Int32) (m : Mm) : Option (Bool × Mm) := if x2 ≤ x1 then (some (false, m)) else (some (true, m))
theorem t_58_51 {L nx : Nat} (hN : okn nx) {b z : Nat} {m : Mm}  {x1 : Int32} {x2 : Int32} {o0 : Option Value} {o3 : Option Value} : Im (d_58_51 x1 x2 m) (wZ L nx) (ev_dn b z 58 51 [o0, some (.int x1), some (.int x2), o3] [] (nx, mem L nx m)) := by
  unfold d_58_51
  refine i_bl (pc' := 53) [(.iload_n 2, 1), (.iload_n 1, 1)] [o0, some (.int x1), some (.int x2), o3] [.int x1, .int x2] (by decide +kernel) rfl ?_
  refine i_ic (c := .le) (off := 7) (t := 60) (pc' := 56) (p := x2 ≤ x1) (by decide +kernel) rfl ?_ ?_
  · refine i_bl (pc' := 61) [(.iconst 0, 1)] [o0, some (.int x1), some (.int x2), o3] [.int 0] (by decide +kernel) rfl ?_
    exact i_rz (B := false) (by decide +kernel) rfl
  · refine i_bl (pc' := 57) [(.iconst 1, 1)] [o0, some (.int x1), some (.int x2), o3] [.int 1] (by decide +kernel) rfl ?_
    refine i_go (t := 61) (off := 4) (by decide +kernel) ?_
    exact i_rz (B := true) (by decide +kernel) rfl

noncomputable def d_58 (a0 : Nat) (x1 : Int32) (m : Mm) : Option (Bool × Mm) := (d_52 a0 (m a0 6) m).bind fun v1 => wb (jmin v1 x1) fun y2 => wb (wr m a0 5 ((m a0 5) + y2)) fun m3 => (d_53 a0 (m3 a0 6) (v1 - y2) m3).bind fun m4 => if x1 < v1 then (d_58_51 x1 v1 m4) else ((d_57 a0 (1 - (m4 a0 6)) m4).bind fun m5 => d_58_51 x1 v1 m5)
theorem t_58 {L nx : Nat} (hN : okn nx) {b z : Nat} {m : Mm} {a0 : Nat} (h0 : ok nx a0 3) {x1 : Int32}  : Im (d_58 a0 x1 m) (wZ L nx) (ev_dn b z 58 0 [some (.ref a0), some (.int x1), none, none] [] (nx, mem L nx m)) := by
  unfold d_58
  refine i_bl (pc' := 2) [(.aload_n 0, 1), (.aload_n 0, 1)] [some (.ref a0), some (.int x1), none, none] [.ref a0, .ref a0] (by decide +kernel) rfl ?_
  refine i_gf (idx := 42) (ci := 3) (k := 6) (t := 0) (p := 11189) (pc' := 5) (by decide +kernel) h0 ?_
  refine i_cv (ci := 3) (t := 52) (na := 2) (ml := 2) (idx := 107) (pc' := 8) (st' := []) (en := [some (.ref a0), some (.int (m a0 6))]) (av := [.int (m a0 6)]) (vo := fun v => some (.int v)) (mo := fun _ => m) (s2 := fun v => .int v :: []) (by decide +kernel) (by decide +kernel) h0 ⟨rfl, rfl, rfl, rfl, rfl, rfl⟩ (fun _ => rfl) (t_52 hN (h0 := h0)) (fun v1 => ?_)
  refine i_bl (pc' := 11) [(.istore_n 2, 1), (.iload_n 2, 1), (.iload_n 1, 1)] [some (.ref a0), some (.int x1), some (.int v1), none] [.int x1, .int v1] (by decide +kernel) rfl ?_
  refine i_min (x := v1) (y := x1) (idx := 111) (pc' := 14) (by decide +kernel) rfl ?_
  refine i_bl (pc' := 15) [(.istore_n 3, 1)] [some (.ref a0), some (.int x1), some (.int v1), some (.int (jmin v1 x1))] [] (by decide +kernel) rfl ?_
  refine i_wb (fun y2 => ev_dn b z 58 15 [some (.ref a0), some (.int x1), some (.int v1), some (.int y2)] [] (nx, mem L nx m)) (fun y2 => ?_)
  refine i_bl (pc' := 17) [(.aload_n 0, 1), (.dup, 1)] [some (.ref a0), some (.int x1), some (.int v1), some (.int y2)] [.ref a0, .ref a0] (by decide +kernel) rfl ?_
  refine i_gf (idx := 38) (ci := 3) (k := 5) (t := 0) (p := 11187) (pc' := 20) (by decide +kernel) h0 ?_
  refine i_bl (pc' := 22) [(.iload_n 3, 1), (.iadd, 1)] [some (.ref a0), some (.int x1), some (.int v1), some (.int y2)] [.int ((m a0 5) + y2), .ref a0] (by decide +kernel) rfl ?_
  refine i_pf (x := ((m a0 5) + y2)) (idx := 38) (ci := 3) (k := 5) (p := 11187) (pc' := 25) (by decide +kernel) h0 (fun m3 => ?_)
  refine i_bl (pc' := 27) [(.aload_n 0, 1), (.aload_n 0, 1)] [some (.ref a0), some (.int x1), some (.int v1), some (.int y2)] [.ref a0, .ref a0] (by decide +kernel) rfl ?_
  refine i_gf (idx := 42) (ci := 3) (k := 6) (t := 0) (p := 11189) (pc' := 30) (by decide +kernel) h0 ?_
  refine i_bl (pc' := 33) [(.iload_n 2, 1), (.iload_n 3, 1), (.isub, 1)] [some (.ref a0), some (.int x1), some (.int v1), some (.int y2)] [.int (v1 - y2), .int (m3 a0 6), .ref a0] (by decide +kernel) rfl ?_
  refine i_cv (ci := 3) (t := 53) (na := 3) (ml := 3) (idx := 117) (pc' := 36) (st' := []) (en := [some (.ref a0), some (.int (m3 a0 6)), some (.int (v1 - y2))]) (av := [.int (m3 a0 6), .int (v1 - y2)]) (vo := fun _ => none) (mo := fun m => m) (s2 := fun _ => []) (by decide +kernel) (by decide +kernel) h0 ⟨rfl, rfl, rfl, rfl, rfl, rfl⟩ (fun _ => rfl) (t_53 hN (h0 := h0)) (fun m4 => ?_)
  refine i_bl (pc' := 38) [(.iload_n 2, 1), (.iload_n 1, 1)] [some (.ref a0), some (.int x1), some (.int v1), some (.int y2)] [.int x1, .int v1] (by decide +kernel) rfl ?_
  refine i_ic (c := .gt) (off := 13) (t := 51) (pc' := 41) (p := x1 < v1) (by decide +kernel) rfl ?_ ?_
  · exact t_58_51 hN 
  · refine i_bl (pc' := 44) [(.aload_n 0, 1), (.iconst 1, 1), (.aload_n 0, 1)] [some (.ref a0), some (.int x1), some (.int v1), some (.int y2)] [.ref a0, .int 1, .ref a0] (by decide +kernel) rfl ?_
    refine i_gf (idx := 42) (ci := 3) (k := 6) (t := 0) (p := 11189) (pc' := 47) (by decide +kernel) h0 ?_
    refine i_bl (pc' := 48) [(.isub, 1)] [some (.ref a0), some (.int x1), some (.int v1), some (.int y2)] [.int (1 - (m4 a0 6)), .ref a0] (by decide +kernel) rfl ?_
    refine i_cv (ci := 3) (t := 57) (na := 2) (ml := 2) (idx := 120) (pc' := 51) (st' := []) (en := [some (.ref a0), some (.int (1 - (m4 a0 6)))]) (av := [.int (1 - (m4 a0 6))]) (vo := fun _ => none) (mo := fun m => m) (s2 := fun _ => []) (by decide +kernel) (by decide +kernel) h0 ⟨rfl, rfl, rfl, rfl, rfl, rfl⟩ (fun _ => rfl) (t_57 hN (h0 := h0)) (fun m5 => ?_)
    exact t_58_51 hN 

/-! 87 LanternChess$Sending.checkOf([I)I -/
noncomputable def E_87_4 (L nx b z : Nat) (a0 : Nat) (m : Mm) (d : Unit) (s : (Int32 × Int32)) : ev_Q := ev_dn b z 87 4 [some (.ref a0), some (.int s.1), some (.int s.2)] [] (nx, mem L nx m)
noncomputable def d_87_27 (x1 : Int32) (m : Mm) : Option Int32 := some (1 + (x1 - x1 / 7 * 7))
theorem t_87_27 {L nx : Nat} (hN : okn nx) {b z : Nat} {m : Mm}  {x1 : Int32} {o0 : Option Value} {o2 : Option Value} : Im (d_87_27 x1 m) (kI L nx m) (ev_dn b z 87 27 [o0, some (.int x1), o2] [] (nx, mem L nx m)) := by
  unfold d_87_27
  refine i_bl (pc' := 31) [(.iconst 1, 1), (.iload_n 1, 1), (.bipush (7), 2)] [o0, some (.int x1), o2] [.int 7, .int x1, .int 1] (by decide +kernel) rfl ?_
  refine i_rem0 (pc' := 32) (by decide +kernel) (by decide) ?_
  refine i_bl (pc' := 33) [(.iadd, 1)] [o0, some (.int x1), o2] [.int (1 + (x1 - x1 / 7 * 7))] (by decide +kernel) rfl ?_
  exact i_ri (by decide +kernel) rfl

noncomputable def s_87_4 (a0 : Nat) (m : Mm) (x1 : Int32) (x2 : Int32) : Option ((Int32 × Int32) ⊕ Int32) := if 5 ≤ x2 then ((d_87_27 x1 m).map Sum.inr) else (if (Int32.ofNat (sh_n a0)) ≤ x2 then ((d_87_27 x1 m).map Sum.inr) else (if ev_in x2 (sh_n a0) = true then (wb (x1 + (m a0 (ix x2))) fun y1 => wb (x2 + 1) fun y2 => some (.inl (y1, y2))) else none))
noncomputable def d_87_4 (a0 : Nat) (m : Mm) (x1 : Int32) (x2 : Int32) : Option Int32 := it (fun s => s_87_4 a0 m s.1 s.2) (x1, x2)
theorem e_87_4 (a0 : Nat) (m : Mm) (x1 : Int32) (x2 : Int32) : d_87_4 a0 m x1 x2 = oi (s_87_4 a0 m x1 x2) (fun s => d_87_4 a0 m s.1 s.2) := it_eq _
theorem u_87_4 {L nx : Nat} (hN : okn nx) {b z : Nat} {m : Mm} {a0 : Nat} (h0 : ok nx a0 100) {x1 : Int32} {x2 : Int32}  : Im (s_87_4 a0 m x1 x2) (kL (kI L nx m) (E_87_4 L nx b z a0 m)) (ev_dn b z 87 4 [some (.ref a0), some (.int x1), some (.int x2)] [] (nx, mem L nx m)) := by
  unfold s_87_4
  refine i_bl (pc' := 6) [(.iload_n 2, 1), (.iconst 5, 1)] [some (.ref a0), some (.int x1), some (.int x2)] [.int 5, .int x2] (by decide +kernel) rfl ?_
  refine i_ic (c := .ge) (off := 21) (t := 27) (pc' := 9) (p := 5 ≤ x2) (by decide +kernel) rfl ?_ ?_
  · exact i_mr (t_87_27 hN )
  · refine i_bl (pc' := 11) [(.iload_n 2, 1), (.aload_n 0, 1)] [some (.ref a0), some (.int x1), some (.int x2)] [.ref a0, .int x2] (by decide +kernel) rfl ?_
    refine i_ln (c := 100) (pc' := 12) (by decide +kernel) h0 ?_
    refine i_ic (c := .ge) (off := 15) (t := 27) (pc' := 15) (p := (Int32.ofNat (sh_n a0)) ≤ x2) (by decide +kernel) rfl ?_ ?_
    · exact i_mr (t_87_27 hN )
    · refine i_bl (pc' := 18) [(.iload_n 1, 1), (.aload_n 0, 1), (.iload_n 2, 1)] [some (.ref a0), some (.int x1), some (.int x2)] [.int x2, .ref a0, .int x1] (by decide +kernel) rfl ?_
      refine i_al (pc' := 19) (by decide +kernel) h0 ?_
      refine i_bl (pc' := 21) [(.iadd, 1), (.istore_n 1, 1)] [some (.ref a0), some (.int (x1 + (m a0 (ix x2)))), some (.int x2)] [] (by decide +kernel) rfl ?_
      refine i_wb (fun y1 => ev_dn b z 87 21 [some (.ref a0), some (.int y1), some (.int x2)] [] (nx, mem L nx m)) (fun y1 => ?_)
      refine i_bl (pc' := 24) [(.iinc 2 (1), 3)] [some (.ref a0), some (.int y1), some (.int (x2 + 1))] [] (by decide +kernel) rfl ?_
      refine i_wb (fun y2 => ev_dn b z 87 24 [some (.ref a0), some (.int y1), some (.int y2)] [] (nx, mem L nx m)) (fun y2 => ?_)
      refine i_go (t := 4) (off := -20) (by decide +kernel) ?_
      exact i_co () rfl

theorem t_87_4 {L nx : Nat} (hN : okn nx) {b z : Nat} {m : Mm} {a0 : Nat} (h0 : ok nx a0 100) {x1 : Int32} {x2 : Int32}  : Im (d_87_4 a0 m x1 x2) (kI L nx m) (ev_dn b z 87 4 [some (.ref a0), some (.int x1), some (.int x2)] [] (nx, mem L nx m)) := by
  exact i_it (f := fun s => s_87_4 a0 m s.1 s.2) (E := E_87_4 L nx b z a0 m) (K := (kI L nx m)) (fun d s => u_87_4 hN (h0 := h0)) () (x1, x2)
noncomputable def d_87 (a0 : Nat) (m : Mm) : Option Int32 := d_87_4 a0 m 0 0
theorem t_87 {L nx : Nat} (hN : okn nx) {b z : Nat} {m : Mm} {a0 : Nat} (h0 : ok nx a0 100)   : Im (d_87 a0 m) (kI L nx m) (ev_dn b z 87 0 [some (.ref a0), none, none] [] (nx, mem L nx m)) := by
  unfold d_87
  refine i_bl (pc' := 4) [(.iconst 0, 1), (.istore_n 1, 1), (.iconst 0, 1), (.istore_n 2, 1)] [some (.ref a0), some (.int 0), some (.int 0)] [] (by decide +kernel) rfl ?_
  exact t_87_4 hN (h0 := h0)

/-! 86 LanternChess$Sending.compose(III)V -/
noncomputable def d_86 (a0 : Nat) (x1 : Int32) (x2 : Int32) (x3 : Int32) (m : Mm) : Option Mm := if ev_in 0 (sh_n (sh_r a0 0)) = true then (wb (wr m (sh_r a0 0) (ix 0) x1) fun m1 => (d_13 x2).bind fun v2 => if ev_in 1 (sh_n (sh_r a0 0)) = true then (wb (wr m1 (sh_r a0 0) (ix 1) (v2 + 1)) fun m3 => (d_14 x2).bind fun v4 => if ev_in 2 (sh_n (sh_r a0 0)) = true then (wb (wr m3 (sh_r a0 0) (ix 2) (v4 + 1)) fun m5 => (d_13 x3).bind fun v6 => if ev_in 3 (sh_n (sh_r a0 0)) = true then (wb (wr m5 (sh_r a0 0) (ix 3) (v6 + 1)) fun m7 => (d_14 x3).bind fun v8 => if ev_in 4 (sh_n (sh_r a0 0)) = true then (wb (wr m7 (sh_r a0 0) (ix 4) (v8 + 1)) fun m9 => (d_87 (sh_r a0 0) m9).bind fun v10 => if ev_in 5 (sh_n (sh_r a0 0)) = true then (wb (wr m9 (sh_r a0 0) (ix 5) v10) fun m11 => some m11) else none) else none) else none) else none) else none) else none
theorem t_86 {L nx : Nat} (hN : okn nx) {b z : Nat} {m : Mm} {a0 : Nat} (h0 : ok nx a0 7) {x1 : Int32} {x2 : Int32} {x3 : Int32}  : Im (d_86 a0 x1 x2 x3 m) (wV L nx) (ev_dn b z 86 0 [some (.ref a0), some (.int x1), some (.int x2), some (.int x3)] [] (nx, mem L nx m)) := by
  unfold d_86
  refine i_bl (pc' := 1) [(.aload_n 0, 1)] [some (.ref a0), some (.int x1), some (.int x2), some (.int x3)] [.ref a0] (by decide +kernel) rfl ?_
  refine i_gr (idx := 9) (ci := 7) (k := 0) (t := 2) (p := 12017) (pc' := 4) (by decide +kernel) h0 ?_
  refine i_bl (pc' := 6) [(.iconst 0, 1), (.iload_n 1, 1)] [some (.ref a0), some (.int x1), some (.int x2), some (.int x3)] [.int x1, .int 0, .ref (sh_r a0 0)] (by decide +kernel) rfl ?_
  refine i_as (y := x1) (pc' := 7) (by decide +kernel) (o_7_0 hN h0) (fun m1 => ?_)
  refine i_bl (pc' := 8) [(.aload_n 0, 1)] [some (.ref a0), some (.int x1), some (.int x2), some (.int x3)] [.ref a0] (by decide +kernel) rfl ?_
  refine i_gr (idx := 9) (ci := 7) (k := 0) (t := 2) (p := 12017) (pc' := 11) (by decide +kernel) h0 ?_
  refine i_bl (pc' := 13) [(.iconst 1, 1), (.iload_n 2, 1)] [some (.ref a0), some (.int x1), some (.int x2), some (.int x3)] [.int x2, .int 1, .ref (sh_r a0 0)] (by decide +kernel) rfl ?_
  refine i_cs (t := 13) (na := 1) (ml := 1) (idx := 38) (pc' := 16) (st' := [.int 1, .ref (sh_r a0 0)]) (en := [some (.int x2)]) (av := [.int x2]) (vo := fun v => some (.int v)) (mo := fun _ => m1) (s2 := fun v => .int v :: [.int 1, .ref (sh_r a0 0)]) (by decide +kernel) ⟨rfl, rfl, rfl, rfl, rfl, rfl⟩ (fun _ => rfl) (t_13 hN ) (fun v2 => ?_)
  refine i_bl (pc' := 18) [(.iconst 1, 1), (.iadd, 1)] [some (.ref a0), some (.int x1), some (.int x2), some (.int x3)] [.int (v2 + 1), .int 1, .ref (sh_r a0 0)] (by decide +kernel) rfl ?_
  refine i_as (y := (v2 + 1)) (pc' := 19) (by decide +kernel) (o_7_0 hN h0) (fun m3 => ?_)
  refine i_bl (pc' := 20) [(.aload_n 0, 1)] [some (.ref a0), some (.int x1), some (.int x2), some (.int x3)] [.ref a0] (by decide +kernel) rfl ?_
  refine i_gr (idx := 9) (ci := 7) (k := 0) (t := 2) (p := 12017) (pc' := 23) (by decide +kernel) h0 ?_
  refine i_bl (pc' := 25) [(.iconst 2, 1), (.iload_n 2, 1)] [some (.ref a0), some (.int x1), some (.int x2), some (.int x3)] [.int x2, .int 2, .ref (sh_r a0 0)] (by decide +kernel) rfl ?_
  refine i_cs (t := 14) (na := 1) (ml := 1) (idx := 44) (pc' := 28) (st' := [.int 2, .ref (sh_r a0 0)]) (en := [some (.int x2)]) (av := [.int x2]) (vo := fun v => some (.int v)) (mo := fun _ => m3) (s2 := fun v => .int v :: [.int 2, .ref (sh_r a0 0)]) (by decide +kernel) ⟨rfl, rfl, rfl, rfl, rfl, rfl⟩ (fun _ => rfl) (t_14 hN ) (fun v4 => ?_)
  refine i_bl (pc' := 30) [(.iconst 1, 1), (.iadd, 1)] [some (.ref a0), some (.int x1), some (.int x2), some (.int x3)] [.int (v4 + 1), .int 2, .ref (sh_r a0 0)] (by decide +kernel) rfl ?_
  refine i_as (y := (v4 + 1)) (pc' := 31) (by decide +kernel) (o_7_0 hN h0) (fun m5 => ?_)
  refine i_bl (pc' := 32) [(.aload_n 0, 1)] [some (.ref a0), some (.int x1), some (.int x2), some (.int x3)] [.ref a0] (by decide +kernel) rfl ?_
  refine i_gr (idx := 9) (ci := 7) (k := 0) (t := 2) (p := 12017) (pc' := 35) (by decide +kernel) h0 ?_
  refine i_bl (pc' := 37) [(.iconst 3, 1), (.iload_n 3, 1)] [some (.ref a0), some (.int x1), some (.int x2), some (.int x3)] [.int x3, .int 3, .ref (sh_r a0 0)] (by decide +kernel) rfl ?_
  refine i_cs (t := 13) (na := 1) (ml := 1) (idx := 38) (pc' := 40) (st' := [.int 3, .ref (sh_r a0 0)]) (en := [some (.int x3)]) (av := [.int x3]) (vo := fun v => some (.int v)) (mo := fun _ => m5) (s2 := fun v => .int v :: [.int 3, .ref (sh_r a0 0)]) (by decide +kernel) ⟨rfl, rfl, rfl, rfl, rfl, rfl⟩ (fun _ => rfl) (t_13 hN ) (fun v6 => ?_)
  refine i_bl (pc' := 42) [(.iconst 1, 1), (.iadd, 1)] [some (.ref a0), some (.int x1), some (.int x2), some (.int x3)] [.int (v6 + 1), .int 3, .ref (sh_r a0 0)] (by decide +kernel) rfl ?_
  refine i_as (y := (v6 + 1)) (pc' := 43) (by decide +kernel) (o_7_0 hN h0) (fun m7 => ?_)
  refine i_bl (pc' := 44) [(.aload_n 0, 1)] [some (.ref a0), some (.int x1), some (.int x2), some (.int x3)] [.ref a0] (by decide +kernel) rfl ?_
  refine i_gr (idx := 9) (ci := 7) (k := 0) (t := 2) (p := 12017) (pc' := 47) (by decide +kernel) h0 ?_
  refine i_bl (pc' := 49) [(.iconst 4, 1), (.iload_n 3, 1)] [some (.ref a0), some (.int x1), some (.int x2), some (.int x3)] [.int x3, .int 4, .ref (sh_r a0 0)] (by decide +kernel) rfl ?_
  refine i_cs (t := 14) (na := 1) (ml := 1) (idx := 44) (pc' := 52) (st' := [.int 4, .ref (sh_r a0 0)]) (en := [some (.int x3)]) (av := [.int x3]) (vo := fun v => some (.int v)) (mo := fun _ => m7) (s2 := fun v => .int v :: [.int 4, .ref (sh_r a0 0)]) (by decide +kernel) ⟨rfl, rfl, rfl, rfl, rfl, rfl⟩ (fun _ => rfl) (t_14 hN ) (fun v8 => ?_)
  refine i_bl (pc' := 54) [(.iconst 1, 1), (.iadd, 1)] [some (.ref a0), some (.int x1), some (.int x2), some (.int x3)] [.int (v8 + 1), .int 4, .ref (sh_r a0 0)] (by decide +kernel) rfl ?_
  refine i_as (y := (v8 + 1)) (pc' := 55) (by decide +kernel) (o_7_0 hN h0) (fun m9 => ?_)
  refine i_bl (pc' := 56) [(.aload_n 0, 1)] [some (.ref a0), some (.int x1), some (.int x2), some (.int x3)] [.ref a0] (by decide +kernel) rfl ?_
  refine i_gr (idx := 9) (ci := 7) (k := 0) (t := 2) (p := 12017) (pc' := 59) (by decide +kernel) h0 ?_
  refine i_bl (pc' := 61) [(.iconst 5, 1), (.aload_n 0, 1)] [some (.ref a0), some (.int x1), some (.int x2), some (.int x3)] [.ref a0, .int 5, .ref (sh_r a0 0)] (by decide +kernel) rfl ?_
  refine i_gr (idx := 9) (ci := 7) (k := 0) (t := 2) (p := 12017) (pc' := 64) (by decide +kernel) h0 ?_
  refine i_cs (t := 87) (na := 1) (ml := 3) (idx := 47) (pc' := 67) (st' := [.int 5, .ref (sh_r a0 0)]) (en := [some (.ref (sh_r a0 0)), none, none]) (av := [.ref (sh_r a0 0)]) (vo := fun v => some (.int v)) (mo := fun _ => m9) (s2 := fun v => .int v :: [.int 5, .ref (sh_r a0 0)]) (by decide +kernel) ⟨rfl, rfl, rfl, rfl, rfl, rfl⟩ (fun _ => rfl) (t_87 hN (h0 := (o_7_0 hN h0))) (fun v10 => ?_)
  refine i_as (y := v10) (pc' := 68) (by decide +kernel) (o_7_0 hN h0) (fun m11 => ?_)
  exact i_rv (by decide +kernel) rfl

