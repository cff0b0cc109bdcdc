/-! Programs in numbers, and that the evaluator answers what they answer. -/
/-! 231 LanternChessModel.fogPart(II)I -/
noncomputable def d_231 (a0 : Nat) (x1 : Int32) (x2 : Int32) (m : Mm) : Option Int32 := if ev_in ((280 + (3 * x1)) + x2) (sh_n (sh_r a0 1)) = true then (some (m (sh_r a0 1) (ix ((280 + (3 * x1)) + x2)))) else none
theorem t_231 {L nx : Nat} (hN : okn nx) {b z : Nat} {m : Mm} {a0 : Nat} (h0 : ok nx a0 11) {x1 : Int32} {x2 : Int32}  : Im (d_231 a0 x1 x2 m) (kI L nx m) (ev_dn b z 231 0 [some (.ref a0), some (.int x1), some (.int x2)] [] (nx, mem L nx m)) := by
  unfold d_231
  refine i_bl (pc' := 1) [(.aload_n 0, 1)] [some (.ref a0), some (.int x1), some (.int x2)] [.ref a0] (by decide +kernel) rfl ?_
  refine i_gr (idx := 7) (ci := 11) (k := 1) (t := 2) (p := 16234) (pc' := 4) (by decide +kernel) h0 ?_
  refine i_bl (pc' := 13) [(.sipush (280), 3), (.iconst 3, 1), (.iload_n 1, 1), (.imul, 1), (.iadd, 1), (.iload_n 2, 1), (.iadd, 1)] [some (.ref a0), some (.int x1), some (.int x2)] [.int ((280 + (3 * x1)) + x2), .ref (sh_r a0 1)] (by decide +kernel) rfl ?_
  refine i_al (pc' := 14) (by decide +kernel) (o_11_1 hN h0) ?_
  exact i_ri (by decide +kernel) rfl

/-! 232 LanternChessModel.hides(II)Z -/
noncomputable def d_232 (a0 : Nat) (x1 : Int32) (x2 : Int32) (m : Mm) : Option Bool := (d_231 a0 x1 0 m).bind fun v1 => wb (x2 - v1) fun y2 => (d_231 a0 x1 1 m).bind fun v3 => (d_185 y2 0 (v3 - 1)).bind fun v4 => if v4 = true then ((d_231 a0 x1 2 m).bind fun v5 => if v5 = 0 then none else (if ¬ (y2 - y2 / v5 * v5) = 0 then (some false) else (some true))) else (some false)
theorem t_232 {L nx : Nat} (hN : okn nx) {b z : Nat} {m : Mm} {a0 : Nat} (h0 : ok nx a0 11) {x1 : Int32} {x2 : Int32}  : Im (d_232 a0 x1 x2 m) (kZ L nx m) (ev_dn b z 232 0 [some (.ref a0), some (.int x1), some (.int x2), none] [] (nx, mem L nx m)) := by
  unfold d_232
  refine i_bl (pc' := 4) [(.iload_n 2, 1), (.aload_n 0, 1), (.iload_n 1, 1), (.iconst 0, 1)] [some (.ref a0), some (.int x1), some (.int x2), none] [.int 0, .int x1, .ref a0, .int x2] (by decide +kernel) rfl ?_
  refine i_cv (ci := 11) (t := 231) (na := 3) (ml := 3) (idx := 191) (pc' := 7) (st' := [.int x2]) (en := [some (.ref a0), some (.int x1), some (.int 0)]) (av := [.int x1, .int 0]) (vo := fun v => some (.int v)) (mo := fun _ => m) (s2 := fun v => .int v :: [.int x2]) (by decide +kernel) (by decide +kernel) h0 ⟨rfl, rfl, rfl, rfl, rfl, rfl⟩ (fun _ => rfl) (t_231 hN (h0 := h0)) (fun v1 => ?_)
  refine i_bl (pc' := 9) [(.isub, 1), (.istore_n 3, 1)] [some (.ref a0), some (.int x1), some (.int x2), some (.int (x2 - v1))] [] (by decide +kernel) rfl ?_
  refine i_wb (fun y2 => ev_dn b z 232 9 [some (.ref a0), some (.int x1), some (.int x2), some (.int y2)] [] (nx, mem L nx m)) (fun y2 => ?_)
  refine i_bl (pc' := 15) [(.iload_n 3, 1), (.i2l, 1), (.lconst 0, 1), (.aload_n 0, 1), (.iload_n 1, 1), (.iconst 1, 1)] [some (.ref a0), some (.int x1), some (.int x2), some (.int y2)] [.int 1, .int x1, .ref a0, .long (0 : Int32).toInt64, .long y2.toInt64] (by decide +kernel) rfl ?_
  refine i_cv (ci := 11) (t := 231) (na := 3) (ml := 3) (idx := 191) (pc' := 18) (st' := [.long (0 : Int32).toInt64, .long y2.toInt64]) (en := [some (.ref a0), some (.int x1), some (.int 1)]) (av := [.int x1, .int 1]) (vo := fun v => some (.int v)) (mo := fun _ => m) (s2 := fun v => .int v :: [.long (0 : Int32).toInt64, .long y2.toInt64]) (by decide +kernel) (by decide +kernel) h0 ⟨rfl, rfl, rfl, rfl, rfl, rfl⟩ (fun _ => rfl) (t_231 hN (h0 := h0)) (fun v3 => ?_)
  refine i_bl (pc' := 21) [(.iconst 1, 1), (.isub, 1), (.i2l, 1)] [some (.ref a0), some (.int x1), some (.int x2), some (.int y2)] [.long (v3 - 1).toInt64, .long (0 : Int32).toInt64, .long y2.toInt64] (by decide +kernel) rfl ?_
  refine i_cs (t := 185) (na := 3) (ml := 6) (idx := 148) (pc' := 24) (st' := []) (en := [some (.long y2.toInt64), none, some (.long (0 : Int32).toInt64), none, some (.long (v3 - 1).toInt64), none]) (av := [.long y2.toInt64, .long (0 : Int32).toInt64, .long (v3 - 1).toInt64]) (vo := fun v => some (.int (bi v))) (mo := fun _ => m) (s2 := fun v => .int (bi v) :: []) (by decide +kernel) ⟨rfl, rfl, rfl, rfl, rfl, rfl⟩ (fun _ => rfl) (t_185 hN ) (fun v4 => ?_)
  refine i_bz (off := 18) (t := 42) (pc' := 27) (by decide +kernel) ?_ ?_
  · refine i_bl (pc' := 31) [(.iload_n 3, 1), (.aload_n 0, 1), (.iload_n 1, 1), (.iconst 2, 1)] [some (.ref a0), some (.int x1), some (.int x2), some (.int y2)] [.int 2, .int x1, .ref a0, .int y2] (by decide +kernel) rfl ?_
    refine i_cv (ci := 11) (t := 231) (na := 3) (ml := 3) (idx := 191) (pc' := 34) (st' := [.int y2]) (en := [some (.ref a0), some (.int x1), some (.int 2)]) (av := [.int x1, .int 2]) (vo := fun v => some (.int v)) (mo := fun _ => m) (s2 := fun v => .int v :: [.int y2]) (by decide +kernel) (by decide +kernel) h0 ⟨rfl, rfl, rfl, rfl, rfl, rfl⟩ (fun _ => rfl) (t_231 hN (h0 := h0)) (fun v5 => ?_)
    refine i_rem (pc' := 35) (by decide +kernel) ?_
    refine i_if (c := .ne) (off := 7) (t := 42) (pc' := 38) (p := ¬ (y2 - y2 / v5 * v5) = 0) (by decide +kernel) rfl ?_ ?_
    · refine i_bl (pc' := 43) [(.iconst 0, 1)] [some (.ref a0), some (.int x1), some (.int x2), some (.int y2)] [.int 0] (by decide +kernel) rfl ?_
      exact i_rz (B := false) (by decide +kernel) rfl
    · refine i_bl (pc' := 39) [(.iconst 1, 1)] [some (.ref a0), some (.int x1), some (.int x2), some (.int y2)] [.int 1] (by decide +kernel) rfl ?_
      refine i_go (t := 43) (off := 4) (by decide +kernel) ?_
      exact i_rz (B := true) (by decide +kernel) rfl
  · refine i_bl (pc' := 43) [(.iconst 0, 1)] [some (.ref a0), some (.int x1), some (.int x2), some (.int y2)] [.int 0] (by decide +kernel) rfl ?_
    exact i_rz (B := false) (by decide +kernel) rfl

/-! 233 LanternChessModel.hidden(I)Z -/
noncomputable def E_233_2 (L nx b z : Nat) (a0 : Nat) (x1 : Int32) (m : Mm) (d : Unit) (s : (Int32)) : ev_Q := ev_dn b z 233 2 [some (.ref a0), some (.int x1), some (.int s)] [] (nx, mem L nx m)
noncomputable def s_233_2 (a0 : Nat) (x1 : Int32) (m : Mm) (x2 : Int32) : Option ((Int32) ⊕ Bool) := if ev_in 8 (sh_n (sh_r a0 1)) = true then (if (m (sh_r a0 1) (ix 8)) ≤ x2 then (some (.inr false)) else ((d_232 a0 x2 x1 m).bind fun v1 => if v1 = true then (some (.inr true)) else (wb (x2 + 1) fun y2 => some (.inl (y2))))) else none
noncomputable def d_233_2 (a0 : Nat) (x1 : Int32) (m : Mm) (x2 : Int32) : Option Bool := it (fun s => s_233_2 a0 x1 m s) (x2)
theorem e_233_2 (a0 : Nat) (x1 : Int32) (m : Mm) (x2 : Int32) : d_233_2 a0 x1 m x2 = oi (s_233_2 a0 x1 m x2) (fun s => d_233_2 a0 x1 m s) := it_eq _
theorem u_233_2 {L nx : Nat} (hN : okn nx) {b z : Nat} {m : Mm} {a0 : Nat} (h0 : ok nx a0 11) {x1 : Int32} {x2 : Int32}  : Im (s_233_2 a0 x1 m x2) (kL (kZ L nx m) (E_233_2 L nx b z a0 x1 m)) (ev_dn b z 233 2 [some (.ref a0), some (.int x1), some (.int x2)] [] (nx, mem L nx m)) := by
  unfold s_233_2
  refine i_bl (pc' := 4) [(.iload_n 2, 1), (.aload_n 0, 1)] [some (.ref a0), some (.int x1), some (.int x2)] [.ref a0, .int x2] (by decide +kernel) rfl ?_
  refine i_gr (idx := 7) (ci := 11) (k := 1) (t := 2) (p := 16234) (pc' := 7) (by decide +kernel) h0 ?_
  refine i_bl (pc' := 9) [(.bipush (8), 2)] [some (.ref a0), some (.int x1), some (.int x2)] [.int 8, .ref (sh_r a0 1), .int x2] (by decide +kernel) rfl ?_
  refine i_al (pc' := 10) (by decide +kernel) (o_11_1 hN h0) ?_
  refine i_ic (c := .ge) (off := 20) (t := 30) (pc' := 13) (p := (m (sh_r a0 1) (ix 8)) ≤ x2) (by decide +kernel) rfl ?_ ?_
  · refine i_bl (pc' := 31) [(.iconst 0, 1)] [some (.ref a0), some (.int x1), some (.int x2)] [.int 0] (by decide +kernel) rfl ?_
    exact i_ir (i_rz (B := false) (by decide +kernel) rfl)
  · refine i_bl (pc' := 16) [(.aload_n 0, 1), (.iload_n 2, 1), (.iload_n 1, 1)] [some (.ref a0), some (.int x1), some (.int x2)] [.int x1, .int x2, .ref a0] (by decide +kernel) rfl ?_
    refine i_cv (ci := 11) (t := 232) (na := 3) (ml := 4) (idx := 194) (pc' := 19) (st' := []) (en := [some (.ref a0), some (.int x2), some (.int x1), none]) (av := [.int x2, .int x1]) (vo := fun v => some (.int (bi v))) (mo := fun _ => m) (s2 := fun v => .int (bi v) :: []) (by decide +kernel) (by decide +kernel) h0 ⟨rfl, rfl, rfl, rfl, rfl, rfl⟩ (fun _ => rfl) (t_232 hN (h0 := h0)) (fun v1 => ?_)
    refine i_bz (off := 5) (t := 24) (pc' := 22) (by decide +kernel) ?_ ?_
    · refine i_bl (pc' := 23) [(.iconst 1, 1)] [some (.ref a0), some (.int x1), some (.int x2)] [.int 1] (by decide +kernel) rfl ?_
      exact i_ir (i_rz (B := true) (by decide +kernel) rfl)
    · refine i_bl (pc' := 27) [(.iinc 2 (1), 3)] [some (.ref a0), some (.int x1), some (.int (x2 + 1))] [] (by decide +kernel) rfl ?_
      refine i_wb (fun y2 => ev_dn b z 233 27 [some (.ref a0), some (.int x1), some (.int y2)] [] (nx, mem L nx m)) (fun y2 => ?_)
      refine i_go (t := 2) (off := -25) (by decide +kernel) ?_
      exact i_co () rfl

theorem t_233_2 {L nx : Nat} (hN : okn nx) {b z : Nat} {m : Mm} {a0 : Nat} (h0 : ok nx a0 11) {x1 : Int32} {x2 : Int32}  : Im (d_233_2 a0 x1 m x2) (kZ L nx m) (ev_dn b z 233 2 [some (.ref a0), some (.int x1), some (.int x2)] [] (nx, mem L nx m)) := by
  exact i_it (f := fun s => s_233_2 a0 x1 m s) (E := E_233_2 L nx b z a0 x1 m) (K := (kZ L nx m)) (fun d s => u_233_2 hN (h0 := h0)) () (x2)
noncomputable def d_233 (a0 : Nat) (x1 : Int32) (m : Mm) : Option Bool := d_233_2 a0 x1 m 0
theorem t_233 {L nx : Nat} (hN : okn nx) {b z : Nat} {m : Mm} {a0 : Nat} (h0 : ok nx a0 11) {x1 : Int32}  : Im (d_233 a0 x1 m) (kZ L nx m) (ev_dn b z 233 0 [some (.ref a0), some (.int x1), none] [] (nx, mem L nx m)) := by
  unfold d_233
  refine i_bl (pc' := 2) [(.iconst 0, 1), (.istore_n 2, 1)] [some (.ref a0), some (.int x1), some (.int 0)] [] (by decide +kernel) rfl ?_
  exact t_233_2 hN (h0 := h0)

/-! 234 LanternChessModel.seen(II)I -/
noncomputable def E_234_5 (L nx b z : Nat) (a0 : Nat) (x1 : Int32) (x2 : Int32) (m : Mm) (d : Unit) (s : (Int32 × Int32)) : ev_Q := ev_dn b z 234 5 [some (.ref a0), some (.int x1), some (.int x2), some (.int s.1), some (.int s.2)] [] (nx, mem L nx m)
noncomputable def s_234_5 (a0 : Nat) (x1 : Int32) (x2 : Int32) (m : Mm) (x3 : Int32) (x4 : Int32) : Option ((Int32 × Int32) ⊕ Int32) := if x2 ≤ x4 then (some (.inr x3)) else ((d_233 a0 (x1 + x4) m).bind fun v1 => if v1 = true then (wb (x4 + 1) fun y2 => some (.inl (x3, y2))) else (wb (x3 + 1) fun y3 => wb (x4 + 1) fun y4 => some (.inl (y3, y4))))
noncomputable def d_234_5 (a0 : Nat) (x1 : Int32) (x2 : Int32) (m : Mm) (x3 : Int32) (x4 : Int32) : Option Int32 := it (fun s => s_234_5 a0 x1 x2 m s.1 s.2) (x3, x4)
theorem e_234_5 (a0 : Nat) (x1 : Int32) (x2 : Int32) (m : Mm) (x3 : Int32) (x4 : Int32) : d_234_5 a0 x1 x2 m x3 x4 = oi (s_234_5 a0 x1 x2 m x3 x4) (fun s => d_234_5 a0 x1 x2 m s.1 s.2) := it_eq _
theorem u_234_5 {L nx : Nat} (hN : okn nx) {b z : Nat} {m : Mm} {a0 : Nat} (h0 : ok nx a0 11) {x1 : Int32} {x2 : Int32} {x3 : Int32} {x4 : Int32}  : Im (s_234_5 a0 x1 x2 m x3 x4) (kL (kI L nx m) (E_234_5 L nx b z a0 x1 x2 m)) (ev_dn b z 234 5 [some (.ref a0), some (.int x1), some (.int x2), some (.int x3), some (.int x4)] [] (nx, mem L nx m)) := by
  unfold s_234_5
  refine i_bl (pc' := 8) [(.iload 4, 2), (.iload_n 2, 1)] [some (.ref a0), some (.int x1), some (.int x2), some (.int x3), some (.int x4)] [.int x2, .int x4] (by decide +kernel) rfl ?_
  refine i_ic (c := .ge) (off := 24) (t := 32) (pc' := 11) (p := x2 ≤ x4) (by decide +kernel) rfl ?_ ?_
  · refine i_bl (pc' := 33) [(.iload_n 3, 1)] [some (.ref a0), some (.int x1), some (.int x2), some (.int x3), some (.int x4)] [.int x3] (by decide +kernel) rfl ?_
    exact i_ir (i_ri (by decide +kernel) rfl)
  · refine i_bl (pc' := 16) [(.aload_n 0, 1), (.iload_n 1, 1), (.iload 4, 2), (.iadd, 1)] [some (.ref a0), some (.int x1), some (.int x2), some (.int x3), some (.int x4)] [.int (x1 + x4), .ref a0] (by decide +kernel) rfl ?_
    refine i_cv (ci := 11) (t := 233) (na := 2) (ml := 3) (idx := 197) (pc' := 19) (st' := []) (en := [some (.ref a0), some (.int (x1 + x4)), none]) (av := [.int (x1 + x4)]) (vo := fun v => some (.int (bi v))) (mo := fun _ => m) (s2 := fun v => .int (bi v) :: []) (by decide +kernel) (by decide +kernel) h0 ⟨rfl, rfl, rfl, rfl, rfl, rfl⟩ (fun _ => rfl) (t_233 hN (h0 := h0)) (fun v1 => ?_)
    refine i_bn (off := 7) (t := 26) (pc' := 22) (by decide +kernel) ?_ ?_
    · refine i_bl (pc' := 29) [(.iinc 4 (1), 3)] [some (.ref a0), some (.int x1), some (.int x2), some (.int x3), some (.int (x4 + 1))] [] (by decide +kernel) rfl ?_
      refine i_wb (fun y2 => ev_dn b z 234 29 [some (.ref a0), some (.int x1), some (.int x2), some (.int x3), some (.int y2)] [] (nx, mem L nx m)) (fun y2 => ?_)
      refine i_go (t := 5) (off := -24) (by decide +kernel) ?_
      exact i_co () rfl
    · refine i_bl (pc' := 26) [(.iload_n 3, 1), (.iconst 1, 1), (.iadd, 1), (.istore_n 3, 1)] [some (.ref a0), some (.int x1), some (.int x2), some (.int (x3 + 1)), some (.int x4)] [] (by decide +kernel) rfl ?_
      refine i_wb (fun y3 => ev_dn b z 234 26 [some (.ref a0), some (.int x1), some (.int x2), some (.int y3), some (.int x4)] [] (nx, mem L nx m)) (fun y3 => ?_)
      refine i_bl (pc' := 29) [(.iinc 4 (1), 3)] [some (.ref a0), some (.int x1), some (.int x2), some (.int y3), some (.int (x4 + 1))] [] (by decide +kernel) rfl ?_
      refine i_wb (fun y4 => ev_dn b z 234 29 [some (.ref a0), some (.int x1), some (.int x2), some (.int y3), some (.int y4)] [] (nx, mem L nx m)) (fun y4 => ?_)
      refine i_go (t := 5) (off := -24) (by decide +kernel) ?_
      exact i_co () rfl

theorem t_234_5 {L nx : Nat} (hN : okn nx) {b z : Nat} {m : Mm} {a0 : Nat} (h0 : ok nx a0 11) {x1 : Int32} {x2 : Int32} {x3 : Int32} {x4 : Int32}  : Im (d_234_5 a0 x1 x2 m x3 x4) (kI L nx m) (ev_dn b z 234 5 [some (.ref a0), some (.int x1), some (.int x2), some (.int x3), some (.int x4)] [] (nx, mem L nx m)) := by
  exact i_it (f := fun s => s_234_5 a0 x1 x2 m s.1 s.2) (E := E_234_5 L nx b z a0 x1 x2 m) (K := (kI L nx m)) (fun d s => u_234_5 hN (h0 := h0)) () (x3, x4)
noncomputable def d_234 (a0 : Nat) (x1 : Int32) (x2 : Int32) (m : Mm) : Option Int32 := d_234_5 a0 x1 x2 m 0 0
theorem t_234 {L nx : Nat} (hN : okn nx) {b z : Nat} {m : Mm} {a0 : Nat} (h0 : ok nx a0 11) {x1 : Int32} {x2 : Int32}  : Im (d_234 a0 x1 x2 m) (kI L nx m) (ev_dn b z 234 0 [some (.ref a0), some (.int x1), some (.int x2), none, none] [] (nx, mem L nx m)) := by
  unfold d_234
  refine i_bl (pc' := 5) [(.iconst 0, 1), (.istore_n 3, 1), (.iconst 0, 1), (.istore 4, 2)] [some (.ref a0), some (.int x1), some (.int x2), some (.int 0), some (.int 0)] [] (by decide +kernel) rfl ?_
  exact t_234_5 hN (h0 := h0)

/-! 235 LanternChessModel.isHidden(I)Z -/
noncomputable def d_235 (a0 : Nat) (x1 : Int32) (m : Mm) : Option (Bool × Mm) := (d_185 x1 0 99999).bind fun v1 => (d_183 a0 v1 m).bind fun r2 => if r2.1 = true then ((d_233 a0 x1 r2.2).bind fun v3 => if v3 = true then (some (true, r2.2)) else (some (false, r2.2))) else (some (false, r2.2))
theorem t_235 {L nx : Nat} (hN : okn nx) {b z : Nat} {m : Mm} {a0 : Nat} (h0 : ok nx a0 11) {x1 : Int32}  : Im (d_235 a0 x1 m) (wZ L nx) (ev_dn b z 235 0 [some (.ref a0), some (.int x1)] [] (nx, mem L nx m)) := by
  unfold d_235
  refine i_bl (pc' := 4) [(.aload_n 0, 1), (.iload_n 1, 1), (.i2l, 1), (.lconst 0, 1)] [some (.ref a0), some (.int x1)] [.long (0 : Int32).toInt64, .long x1.toInt64, .ref a0] (by decide +kernel) rfl ?_
  refine i_l2 (idx := 200) (p := 18030) (x := 99999) (pc' := 7) (by decide +kernel) ?_
  refine i_cs (t := 185) (na := 3) (ml := 6) (idx := 148) (pc' := 10) (st' := [.ref a0]) (en := [some (.long x1.toInt64), none, some (.long (0 : Int32).toInt64), none, some (.long (99999 : Int32).toInt64), none]) (av := [.long x1.toInt64, .long (0 : Int32).toInt64, .long (99999 : Int32).toInt64]) (vo := fun v => some (.int (bi v))) (mo := fun _ => m) (s2 := fun v => .int (bi v) :: [.ref a0]) (by decide +kernel) ⟨rfl, rfl, rfl, rfl, rfl, rfl⟩ (fun _ => rfl) (t_185 hN ) (fun v1 => ?_)
  refine i_cv (ci := 11) (t := 183) (na := 2) (ml := 2) (idx := 77) (pc' := 13) (st' := []) (en := [some (.ref a0), some (.int (bi v1))]) (av := [.int (bi v1)]) (vo := fun v => some (.int (bi v.1))) (mo := fun v => v.2) (s2 := fun v => .int (bi v.1) :: []) (by decide +kernel) (by decide +kernel) h0 ⟨rfl, rfl, rfl, rfl, rfl, rfl⟩ (fun _ => rfl) (t_183 hN (h0 := h0)) (fun r2 => ?_)
  refine i_bz (off := 15) (t := 28) (pc' := 16) (by decide +kernel) ?_ ?_
  · refine i_bl (pc' := 18) [(.aload_n 0, 1), (.iload_n 1, 1)] [some (.ref a0), some (.int x1)] [.int x1, .ref a0] (by decide +kernel) rfl ?_
    refine i_cv (ci := 11) (t := 233) (na := 2) (ml := 3) (idx := 197) (pc' := 21) (st' := []) (en := [some (.ref a0), some (.int x1), none]) (av := [.int x1]) (vo := fun v => some (.int (bi v))) (mo := fun _ => r2.2) (s2 := fun v => .int (bi v) :: []) (by decide +kernel) (by decide +kernel) h0 ⟨rfl, rfl, rfl, rfl, rfl, rfl⟩ (fun _ => rfl) (t_233 hN (h0 := h0)) (fun v3 => ?_)
    refine i_bz (off := 7) (t := 28) (pc' := 24) (by decide +kernel) ?_ ?_
    · refine i_bl (pc' := 25) [(.iconst 1, 1)] [some (.ref a0), some (.int x1)] [.int 1] (by decide +kernel) rfl ?_
      refine i_go (t := 29) (off := 4) (by decide +kernel) ?_
      exact i_rz (B := true) (by decide +kernel) rfl
    · refine i_bl (pc' := 29) [(.iconst 0, 1)] [some (.ref a0), some (.int x1)] [.int 0] (by decide +kernel) rfl ?_
      exact i_rz (B := false) (by decide +kernel) rfl
  · refine i_bl (pc' := 29) [(.iconst 0, 1)] [some (.ref a0), some (.int x1)] [.int 0] (by decide +kernel) rfl ?_
    exact i_rz (B := false) (by decide +kernel) rfl

/-! 236 LanternChessModel.hiddenTicks(II)I -/
noncomputable def d_236_30 (a0 : Nat) (x1 : Int32) (x2 : Int32) (s0 : Nat) (s1 : Bool) (m : Mm) : Option (Int32 × Mm) := (d_183 s0 s1 m).bind fun r2 => if r2.1 = true then ((d_234 a0 x1 x2 r2.2).bind fun v3 => some (x2 - v3, r2.2)) else (some (0, r2.2))
theorem t_236_30 {L nx : Nat} (hN : okn nx) {b z : Nat} {m : Mm} {a0 : Nat} (h0 : ok nx a0 11) {s0 : Nat} (hs0 : ok nx s0 11) {x1 : Int32} {x2 : Int32} {s1 : Bool}  : Im (d_236_30 a0 x1 x2 s0 s1 m) (wI L nx) (ev_dn b z 236 30 [some (.ref a0), some (.int x1), some (.int x2)] [.int (bi s1), .ref s0] (nx, mem L nx m)) := by
  unfold d_236_30
  refine i_cv (ci := 11) (t := 183) (na := 2) (ml := 2) (idx := 77) (pc' := 33) (st' := []) (en := [some (.ref s0), some (.int (bi s1))]) (av := [.int (bi s1)]) (vo := fun v => some (.int (bi v.1))) (mo := fun v => v.2) (s2 := fun v => .int (bi v.1) :: []) (by decide +kernel) (by decide +kernel) hs0 ⟨rfl, rfl, rfl, rfl, rfl, rfl⟩ (fun _ => rfl) (t_183 hN (h0 := hs0)) (fun r2 => ?_)
  refine i_bz (off := 14) (t := 47) (pc' := 36) (by decide +kernel) ?_ ?_
  · refine i_bl (pc' := 40) [(.iload_n 2, 1), (.aload_n 0, 1), (.iload_n 1, 1), (.iload_n 2, 1)] [some (.ref a0), some (.int x1), some (.int x2)] [.int x2, .int x1, .ref a0, .int x2] (by decide +kernel) rfl ?_
    refine i_cv (ci := 11) (t := 234) (na := 3) (ml := 5) (idx := 204) (pc' := 43) (st' := [.int x2]) (en := [some (.ref a0), some (.int x1), some (.int x2), none, none]) (av := [.int x1, .int x2]) (vo := fun v => some (.int v)) (mo := fun _ => r2.2) (s2 := fun v => .int v :: [.int x2]) (by decide +kernel) (by decide +kernel) h0 ⟨rfl, rfl, rfl, rfl, rfl, rfl⟩ (fun _ => rfl) (t_234 hN (h0 := h0)) (fun v3 => ?_)
    refine i_bl (pc' := 44) [(.isub, 1)] [some (.ref a0), some (.int x1), some (.int x2)] [.int (x2 - v3)] (by decide +kernel) rfl ?_
    refine i_go (t := 48) (off := 4) (by decide +kernel) ?_
    exact i_ri (by decide +kernel) rfl
  · refine i_bl (pc' := 48) [(.iconst 0, 1)] [some (.ref a0), some (.int x1), some (.int x2)] [.int 0] (by decide +kernel) rfl ?_
    exact i_ri (by decide +kernel) rfl

noncomputable def d_236 (a0 : Nat) (x1 : Int32) (x2 : Int32) (m : Mm) : Option (Int32 × Mm) := (d_185 x1 0 99999).bind fun v1 => if v1 = true then ((d_185 x2 0 999).bind fun v4 => if v4 = true then (d_236_30 a0 x1 x2 a0 true m) else (d_236_30 a0 x1 x2 a0 false m)) else (d_236_30 a0 x1 x2 a0 false m)
theorem t_236 {L nx : Nat} (hN : okn nx) {b z : Nat} {m : Mm} {a0 : Nat} (h0 : ok nx a0 11) {x1 : Int32} {x2 : Int32}  : Im (d_236 a0 x1 x2 m) (wI L nx) (ev_dn b z 236 0 [some (.ref a0), some (.int x1), some (.int x2)] [] (nx, mem L nx m)) := by
  unfold d_236
  refine i_bl (pc' := 4) [(.aload_n 0, 1), (.iload_n 1, 1), (.i2l, 1), (.lconst 0, 1)] [some (.ref a0), some (.int x1), some (.int x2)] [.long (0 : Int32).toInt64, .long x1.toInt64, .ref a0] (by decide +kernel) rfl ?_
  refine i_l2 (idx := 200) (p := 18030) (x := 99999) (pc' := 7) (by decide +kernel) ?_
  refine i_cs (t := 185) (na := 3) (ml := 6) (idx := 148) (pc' := 10) (st' := [.ref a0]) (en := [some (.long x1.toInt64), none, some (.long (0 : Int32).toInt64), none, some (.long (99999 : Int32).toInt64), none]) (av := [.long x1.toInt64, .long (0 : Int32).toInt64, .long (99999 : Int32).toInt64]) (vo := fun v => some (.int (bi v))) (mo := fun _ => m) (s2 := fun v => .int (bi v) :: [.ref a0]) (by decide +kernel) ⟨rfl, rfl, rfl, rfl, rfl, rfl⟩ (fun _ => rfl) (t_185 hN ) (fun v1 => ?_)
  refine i_bz (off := 19) (t := 29) (pc' := 13) (by decide +kernel) ?_ ?_
  · refine i_bl (pc' := 16) [(.iload_n 2, 1), (.i2l, 1), (.lconst 0, 1)] [some (.ref a0), some (.int x1), some (.int x2)] [.long (0 : Int32).toInt64, .long x2.toInt64, .ref a0] (by decide +kernel) rfl ?_
    refine i_l2 (idx := 202) (p := 18047) (x := 999) (pc' := 19) (by decide +kernel) ?_
    refine i_cs (t := 185) (na := 3) (ml := 6) (idx := 148) (pc' := 22) (st' := [.ref a0]) (en := [some (.long x2.toInt64), none, some (.long (0 : Int32).toInt64), none, some (.long (999 : Int32).toInt64), none]) (av := [.long x2.toInt64, .long (0 : Int32).toInt64, .long (999 : Int32).toInt64]) (vo := fun v => some (.int (bi v))) (mo := fun _ => m) (s2 := fun v => .int (bi v) :: [.ref a0]) (by decide +kernel) ⟨rfl, rfl, rfl, rfl, rfl, rfl⟩ (fun _ => rfl) (t_185 hN ) (fun v4 => ?_)
    refine i_bz (off := 7) (t := 29) (pc' := 25) (by decide +kernel) ?_ ?_
    · refine i_bl (pc' := 26) [(.iconst 1, 1)] [some (.ref a0), some (.int x1), some (.int x2)] [.int 1, .ref a0] (by decide +kernel) rfl ?_
      refine i_go (t := 30) (off := 4) (by decide +kernel) ?_
      exact t_236_30 hN (h0 := h0) (hs0 := h0)
    · refine i_bl (pc' := 30) [(.iconst 0, 1)] [some (.ref a0), some (.int x1), some (.int x2)] [.int 0, .ref a0] (by decide +kernel) rfl ?_
      exact t_236_30 hN (h0 := h0) (hs0 := h0)
  · refine i_bl (pc' := 30) [(.iconst 0, 1)] [some (.ref a0), some (.int x1), some (.int x2)] [.int 0, .ref a0] (by decide +kernel) rfl ?_
    exact t_236_30 hN (h0 := h0) (hs0 := h0)

/-! 237 LanternChessModel.clearFrom(I)I -/
noncomputable def E_237_25 (L nx b z : Nat) (a0 : Nat) (x1 : Int32) (m : Mm) (d : Unit) (s : (Int32)) : ev_Q := ev_dn b z 237 25 [some (.ref a0), some (.int x1), some (.int s)] [] (nx, mem L nx m)
noncomputable def s_237_25 (a0 : Nat) (x1 : Int32) (m : Mm) (x2 : Int32) : Option ((Int32) ⊕ (Int32 × Mm)) := (d_234 a0 x2 x1 m).bind fun v3 => if x1 ≤ v3 then (some (.inr (x2, m))) else (wb (x2 + 1) fun y4 => some (.inl (y4)))
noncomputable def d_237_25 (a0 : Nat) (x1 : Int32) (m : Mm) (x2 : Int32) : Option (Int32 × Mm) := it (fun s => s_237_25 a0 x1 m s) (x2)
theorem e_237_25 (a0 : Nat) (x1 : Int32) (m : Mm) (x2 : Int32) : d_237_25 a0 x1 m x2 = oi (s_237_25 a0 x1 m x2) (fun s => d_237_25 a0 x1 m s) := it_eq _
theorem u_237_25 {L nx : Nat} (hN : okn nx) {b z : Nat} {m : Mm} {a0 : Nat} (h0 : ok nx a0 11) {x1 : Int32} {x2 : Int32}  : Im (s_237_25 a0 x1 m x2) (kL (wI L nx) (E_237_25 L nx b z a0 x1 m)) (ev_dn b z 237 25 [some (.ref a0), some (.int x1), some (.int x2)] [] (nx, mem L nx m)) := by
  unfold s_237_25
  refine i_bl (pc' := 28) [(.aload_n 0, 1), (.iload_n 2, 1), (.iload_n 1, 1)] [some (.ref a0), some (.int x1), some (.int x2)] [.int x1, .int x2, .ref a0] (by decide +kernel) rfl ?_
  refine i_cv (ci := 11) (t := 234) (na := 3) (ml := 5) (idx := 204) (pc' := 31) (st' := []) (en := [some (.ref a0), some (.int x2), some (.int x1), none, none]) (av := [.int x2, .int x1]) (vo := fun v => some (.int v)) (mo := fun _ => m) (s2 := fun v => .int v :: []) (by decide +kernel) (by decide +kernel) h0 ⟨rfl, rfl, rfl, rfl, rfl, rfl⟩ (fun _ => rfl) (t_234 hN (h0 := h0)) (fun v3 => ?_)
  refine i_bl (pc' := 32) [(.iload_n 1, 1)] [some (.ref a0), some (.int x1), some (.int x2)] [.int x1, .int v3] (by decide +kernel) rfl ?_
  refine i_ic (c := .ge) (off := 10) (t := 42) (pc' := 35) (p := x1 ≤ v3) (by decide +kernel) rfl ?_ ?_
  · refine i_bl (pc' := 43) [(.iload_n 2, 1)] [some (.ref a0), some (.int x1), some (.int x2)] [.int x2] (by decide +kernel) rfl ?_
    exact i_ir (i_ri (by decide +kernel) rfl)
  · refine i_bl (pc' := 39) [(.iload_n 2, 1), (.iconst 1, 1), (.iadd, 1), (.istore_n 2, 1)] [some (.ref a0), some (.int x1), some (.int (x2 + 1))] [] (by decide +kernel) rfl ?_
    refine i_wb (fun y4 => ev_dn b z 237 39 [some (.ref a0), some (.int x1), some (.int y4)] [] (nx, mem L nx m)) (fun y4 => ?_)
    refine i_go (t := 25) (off := -14) (by decide +kernel) ?_
    exact i_co () rfl

theorem t_237_25 {L nx : Nat} (hN : okn nx) {b z : Nat} {m : Mm} {a0 : Nat} (h0 : ok nx a0 11) {x1 : Int32} {x2 : Int32}  : Im (d_237_25 a0 x1 m x2) (wI L nx) (ev_dn b z 237 25 [some (.ref a0), some (.int x1), some (.int x2)] [] (nx, mem L nx m)) := by
  exact i_it (f := fun s => s_237_25 a0 x1 m s) (E := E_237_25 L nx b z a0 x1 m) (K := (wI L nx)) (fun d s => u_237_25 hN (h0 := h0)) () (x2)
noncomputable def d_237 (a0 : Nat) (x1 : Int32) (m : Mm) : Option (Int32 × Mm) := (d_185 x1 1 99).bind fun v1 => (d_183 a0 v1 m).bind fun r2 => if r2.1 = true then (if ev_in 2 (sh_n (sh_r a0 1)) = true then (d_237_25 a0 x1 r2.2 (r2.2 (sh_r a0 1) (ix 2))) else none) else (some (0, r2.2))
theorem t_237 {L nx : Nat} (hN : okn nx) {b z : Nat} {m : Mm} {a0 : Nat} (h0 : ok nx a0 11) {x1 : Int32}  : Im (d_237 a0 x1 m) (wI L nx) (ev_dn b z 237 0 [some (.ref a0), some (.int x1), none] [] (nx, mem L nx m)) := by
  unfold d_237
  refine i_bl (pc' := 4) [(.aload_n 0, 1), (.iload_n 1, 1), (.i2l, 1), (.lconst 1, 1)] [some (.ref a0), some (.int x1), none] [.long (1 : Int32).toInt64, .long x1.toInt64, .ref a0] (by decide +kernel) rfl ?_
  refine i_l2 (idx := 207) (p := 18056) (x := 99) (pc' := 7) (by decide +kernel) ?_
  refine i_cs (t := 185) (na := 3) (ml := 6) (idx := 148) (pc' := 10) (st' := [.ref a0]) (en := [some (.long x1.toInt64), none, some (.long (1 : Int32).toInt64), none, some (.long (99 : Int32).toInt64), none]) (av := [.long x1.toInt64, .long (1 : Int32).toInt64, .long (99 : Int32).toInt64]) (vo := fun v => some (.int (bi v))) (mo := fun _ => m) (s2 := fun v => .int (bi v) :: [.ref a0]) (by decide +kernel) ⟨rfl, rfl, rfl, rfl, rfl, rfl⟩ (fun _ => rfl) (t_185 hN ) (fun v1 => ?_)
  refine i_cv (ci := 11) (t := 183) (na := 2) (ml := 2) (idx := 77) (pc' := 13) (st' := []) (en := [some (.ref a0), some (.int (bi v1))]) (av := [.int (bi v1)]) (vo := fun v => some (.int (bi v.1))) (mo := fun v => v.2) (s2 := fun v => .int (bi v.1) :: []) (by decide +kernel) (by decide +kernel) h0 ⟨rfl, rfl, rfl, rfl, rfl, rfl⟩ (fun _ => rfl) (t_183 hN (h0 := h0)) (fun r2 => ?_)
  refine i_bn (off := 5) (t := 18) (pc' := 16) (by decide +kernel) ?_ ?_
  · refine i_bl (pc' := 19) [(.aload_n 0, 1)] [some (.ref a0), some (.int x1), none] [.ref a0] (by decide +kernel) rfl ?_
    refine i_gr (idx := 7) (ci := 11) (k := 1) (t := 2) (p := 16234) (pc' := 22) (by decide +kernel) h0 ?_
    refine i_bl (pc' := 23) [(.iconst 2, 1)] [some (.ref a0), some (.int x1), none] [.int 2, .ref (sh_r a0 1)] (by decide +kernel) rfl ?_
    refine i_al (pc' := 24) (by decide +kernel) (o_11_1 hN h0) ?_
    refine i_bl (pc' := 25) [(.istore_n 2, 1)] [some (.ref a0), some (.int x1), some (.int (r2.2 (sh_r a0 1) (ix 2)))] [] (by decide +kernel) rfl ?_
    exact t_237_25 hN (h0 := h0)
  · refine i_bl (pc' := 17) [(.iconst 0, 1)] [some (.ref a0), some (.int x1), none] [.int 0] (by decide +kernel) rfl ?_
    exact i_ri (by decide +kernel) rfl

/-! 238 LanternChessModel.isFog(I)Z -/
noncomputable def d_238 (a0 : Nat) (x1 : Int32) (m : Mm) : Option Bool := if ev_in 8 (sh_n (sh_r a0 1)) = true then ((d_185 x1 0 ((m (sh_r a0 1) (ix 8)) - 1)).bind fun v1 => some v1) else none
theorem t_238 {L nx : Nat} (hN : okn nx) {b z : Nat} {m : Mm} {a0 : Nat} (h0 : ok nx a0 11) {x1 : Int32}  : Im (d_238 a0 x1 m) (kZ L nx m) (ev_dn b z 238 0 [some (.ref a0), some (.int x1)] [] (nx, mem L nx m)) := by
  unfold d_238
  refine i_bl (pc' := 4) [(.iload_n 1, 1), (.i2l, 1), (.lconst 0, 1), (.aload_n 0, 1)] [some (.ref a0), some (.int x1)] [.ref a0, .long (0 : Int32).toInt64, .long x1.toInt64] (by decide +kernel) rfl ?_
  refine i_gr (idx := 7) (ci := 11) (k := 1) (t := 2) (p := 16234) (pc' := 7) (by decide +kernel) h0 ?_
  refine i_bl (pc' := 9) [(.bipush (8), 2)] [some (.ref a0), some (.int x1)] [.int 8, .ref (sh_r a0 1), .long (0 : Int32).toInt64, .long x1.toInt64] (by decide +kernel) rfl ?_
  refine i_al (pc' := 10) (by decide +kernel) (o_11_1 hN h0) ?_
  refine i_bl (pc' := 13) [(.iconst 1, 1), (.isub, 1), (.i2l, 1)] [some (.ref a0), some (.int x1)] [.long ((m (sh_r a0 1) (ix 8)) - 1).toInt64, .long (0 : Int32).toInt64, .long x1.toInt64] (by decide +kernel) rfl ?_
  refine i_cs (t := 185) (na := 3) (ml := 6) (idx := 148) (pc' := 16) (st' := []) (en := [some (.long x1.toInt64), none, some (.long (0 : Int32).toInt64), none, some (.long ((m (sh_r a0 1) (ix 8)) - 1).toInt64), none]) (av := [.long x1.toInt64, .long (0 : Int32).toInt64, .long ((m (sh_r a0 1) (ix 8)) - 1).toInt64]) (vo := fun v => some (.int (bi v))) (mo := fun _ => m) (s2 := fun v => .int (bi v) :: []) (by decide +kernel) ⟨rfl, rfl, rfl, rfl, rfl, rfl⟩ (fun _ => rfl) (t_185 hN ) (fun v1 => ?_)
  exact i_rz (B := v1) (by decide +kernel) rfl

/-! 239 LanternChessModel.fog(II)I -/
noncomputable def d_239 (a0 : Nat) (x1 : Int32) (x2 : Int32) (m : Mm) : Option (Int32 × Mm) := (d_238 a0 x1 m).bind fun v1 => (d_183 a0 v1 m).bind fun r2 => if r2.1 = true then ((d_185 x2 0 3).bind fun v3 => (d_184 a0 v3 2 r2.2).bind fun r4 => if r4.1 = true then (if 3 ≤ x2 then ((d_231 a0 x1 1 r4.2).bind fun v5 => (d_231 a0 x1 2 r4.2).bind fun v6 => (d_231 a0 x1 2 r4.2).bind fun v7 => if v7 = 0 then none else (some (((v5 + v6) - 1) / v7, r4.2))) else ((d_231 a0 x1 x2 r4.2).bind fun v8 => some (v8, r4.2))) else (some (0, r4.2))) else (some (0, r2.2))
theorem t_239 {L nx : Nat} (hN : okn nx) {b z : Nat} {m : Mm} {a0 : Nat} (h0 : ok nx a0 11) {x1 : Int32} {x2 : Int32}  : Im (d_239 a0 x1 x2 m) (wI L nx) (ev_dn b z 239 0 [some (.ref a0), some (.int x1), some (.int x2)] [] (nx, mem L nx m)) := by
  unfold d_239
  refine i_bl (pc' := 3) [(.aload_n 0, 1), (.aload_n 0, 1), (.iload_n 1, 1)] [some (.ref a0), some (.int x1), some (.int x2)] [.int x1, .ref a0, .ref a0] (by decide +kernel) rfl ?_
  refine i_cv (ci := 11) (t := 238) (na := 2) (ml := 2) (idx := 209) (pc' := 6) (st' := [.ref a0]) (en := [some (.ref a0), some (.int x1)]) (av := [.int x1]) (vo := fun v => some (.int (bi v))) (mo := fun _ => m) (s2 := fun v => .int (bi v) :: [.ref a0]) (by decide +kernel) (by decide +kernel) h0 ⟨rfl, rfl, rfl, rfl, rfl, rfl⟩ (fun _ => rfl) (t_238 hN (h0 := h0)) (fun v1 => ?_)
  refine i_cv (ci := 11) (t := 183) (na := 2) (ml := 2) (idx := 77) (pc' := 9) (st' := []) (en := [some (.ref a0), some (.int (bi v1))]) (av := [.int (bi v1)]) (vo := fun v => some (.int (bi v.1))) (mo := fun v => v.2) (s2 := fun v => .int (bi v.1) :: []) (by decide +kernel) (by decide +kernel) h0 ⟨rfl, rfl, rfl, rfl, rfl, rfl⟩ (fun _ => rfl) (t_183 hN (h0 := h0)) (fun r2 => ?_)
  refine i_bz (off := 20) (t := 29) (pc' := 12) (by decide +kernel) ?_ ?_
  · refine i_bl (pc' := 16) [(.aload_n 0, 1), (.iload_n 2, 1), (.i2l, 1), (.lconst 0, 1)] [some (.ref a0), some (.int x1), some (.int x2)] [.long (0 : Int32).toInt64, .long x2.toInt64, .ref a0] (by decide +kernel) rfl ?_
    refine i_l2 (idx := 174) (p := 17195) (x := 3) (pc' := 19) (by decide +kernel) ?_
    refine i_cs (t := 185) (na := 3) (ml := 6) (idx := 148) (pc' := 22) (st' := [.ref a0]) (en := [some (.long x2.toInt64), none, some (.long (0 : Int32).toInt64), none, some (.long (3 : Int32).toInt64), none]) (av := [.long x2.toInt64, .long (0 : Int32).toInt64, .long (3 : Int32).toInt64]) (vo := fun v => some (.int (bi v))) (mo := fun _ => r2.2) (s2 := fun v => .int (bi v) :: [.ref a0]) (by decide +kernel) ⟨rfl, rfl, rfl, rfl, rfl, rfl⟩ (fun _ => rfl) (t_185 hN ) (fun v3 => ?_)
    refine i_bl (pc' := 23) [(.iconst 2, 1)] [some (.ref a0), some (.int x1), some (.int x2)] [.int 2, .int (bi v3), .ref a0] (by decide +kernel) rfl ?_
    refine i_cv (ci := 11) (t := 184) (na := 3) (ml := 3) (idx := 161) (pc' := 26) (st' := []) (en := [some (.ref a0), some (.int (bi v3)), some (.int 2)]) (av := [.int (bi v3), .int 2]) (vo := fun v => some (.int (bi v.1))) (mo := fun v => v.2) (s2 := fun v => .int (bi v.1) :: []) (by decide +kernel) (by decide +kernel) h0 ⟨rfl, rfl, rfl, rfl, rfl, rfl⟩ (fun _ => rfl) (t_184 hN (h0 := h0)) (fun r4 => ?_)
    refine i_bn (off := 5) (t := 31) (pc' := 29) (by decide +kernel) ?_ ?_
    · refine i_bl (pc' := 33) [(.iload_n 2, 1), (.iconst 3, 1)] [some (.ref a0), some (.int x1), some (.int x2)] [.int 3, .int x2] (by decide +kernel) rfl ?_
      refine i_ic (c := .ge) (off := 12) (t := 45) (pc' := 36) (p := 3 ≤ x2) (by decide +kernel) rfl ?_ ?_
      · refine i_bl (pc' := 48) [(.aload_n 0, 1), (.iload_n 1, 1), (.iconst 1, 1)] [some (.ref a0), some (.int x1), some (.int x2)] [.int 1, .int x1, .ref a0] (by decide +kernel) rfl ?_
        refine i_cv (ci := 11) (t := 231) (na := 3) (ml := 3) (idx := 191) (pc' := 51) (st' := []) (en := [some (.ref a0), some (.int x1), some (.int 1)]) (av := [.int x1, .int 1]) (vo := fun v => some (.int v)) (mo := fun _ => r4.2) (s2 := fun v => .int v :: []) (by decide +kernel) (by decide +kernel) h0 ⟨rfl, rfl, rfl, rfl, rfl, rfl⟩ (fun _ => rfl) (t_231 hN (h0 := h0)) (fun v5 => ?_)
        refine i_bl (pc' := 54) [(.aload_n 0, 1), (.iload_n 1, 1), (.iconst 2, 1)] [some (.ref a0), some (.int x1), some (.int x2)] [.int 2, .int x1, .ref a0, .int v5] (by decide +kernel) rfl ?_
        refine i_cv (ci := 11) (t := 231) (na := 3) (ml := 3) (idx := 191) (pc' := 57) (st' := [.int v5]) (en := [some (.ref a0), some (.int x1), some (.int 2)]) (av := [.int x1, .int 2]) (vo := fun v => some (.int v)) (mo := fun _ => r4.2) (s2 := fun v => .int v :: [.int v5]) (by decide +kernel) (by decide +kernel) h0 ⟨rfl, rfl, rfl, rfl, rfl, rfl⟩ (fun _ => rfl) (t_231 hN (h0 := h0)) (fun v6 => ?_)
        refine i_bl (pc' := 63) [(.iadd, 1), (.iconst 1, 1), (.isub, 1), (.aload_n 0, 1), (.iload_n 1, 1), (.iconst 2, 1)] [some (.ref a0), some (.int x1), some (.int x2)] [.int 2, .int x1, .ref a0, .int ((v5 + v6) - 1)] (by decide +kernel) rfl ?_
        refine i_cv (ci := 11) (t := 231) (na := 3) (ml := 3) (idx := 191) (pc' := 66) (st' := [.int ((v5 + v6) - 1)]) (en := [some (.ref a0), some (.int x1), some (.int 2)]) (av := [.int x1, .int 2]) (vo := fun v => some (.int v)) (mo := fun _ => r4.2) (s2 := fun v => .int v :: [.int ((v5 + v6) - 1)]) (by decide +kernel) (by decide +kernel) h0 ⟨rfl, rfl, rfl, rfl, rfl, rfl⟩ (fun _ => rfl) (t_231 hN (h0 := h0)) (fun v7 => ?_)
        refine i_div (pc' := 67) (by decide +kernel) ?_
        exact i_ri (by decide +kernel) rfl
      · refine i_bl (pc' := 39) [(.aload_n 0, 1), (.iload_n 1, 1), (.iload_n 2, 1)] [some (.ref a0), some (.int x1), some (.int x2)] [.int x2, .int x1, .ref a0] (by decide +kernel) rfl ?_
        refine i_cv (ci := 11) (t := 231) (na := 3) (ml := 3) (idx := 191) (pc' := 42) (st' := []) (en := [some (.ref a0), some (.int x1), some (.int x2)]) (av := [.int x1, .int x2]) (vo := fun v => some (.int v)) (mo := fun _ => r4.2) (s2 := fun v => .int v :: []) (by decide +kernel) (by decide +kernel) h0 ⟨rfl, rfl, rfl, rfl, rfl, rfl⟩ (fun _ => rfl) (t_231 hN (h0 := h0)) (fun v8 => ?_)
        refine i_go (t := 67) (off := 25) (by decide +kernel) ?_
        exact i_ri (by decide +kernel) rfl
    · refine i_bl (pc' := 30) [(.iconst 0, 1)] [some (.ref a0), some (.int x1), some (.int x2)] [.int 0] (by decide +kernel) rfl ?_
      exact i_ri (by decide +kernel) rfl
  · refine i_bl (pc' := 30) [(.iconst 0, 1)] [some (.ref a0), some (.int x1), some (.int x2)] [.int 0] (by decide +kernel) rfl ?_
    exact i_ri (by decide +kernel) rfl

/-! 240 LanternChessModel.fogFrom(I)I -/
noncomputable def E_240_2 (L nx b z : Nat) (a0 : Nat) (x1 : Int32) (m : Mm) (d : Unit) (s : (Int32)) : ev_Q := ev_dn b z 240 2 [some (.ref a0), some (.int x1), some (.int s)] [] (nx, mem L nx m)
noncomputable def s_240_2 (a0 : Nat) (x1 : Int32) (m : Mm) (x2 : Int32) : Option ((Int32) ⊕ Int32) := if ev_in 8 (sh_n (sh_r a0 1)) = true then (if (m (sh_r a0 1) (ix 8)) ≤ x2 then (some (.inr (-1))) else ((d_231 a0 x2 0 m).bind fun v1 => if ¬ v1 = x1 then (wb (x2 + 1) fun y2 => some (.inl (y2))) else (some (.inr x2)))) else none
noncomputable def d_240_2 (a0 : Nat) (x1 : Int32) (m : Mm) (x2 : Int32) : Option Int32 := it (fun s => s_240_2 a0 x1 m s) (x2)
theorem e_240_2 (a0 : Nat) (x1 : Int32) (m : Mm) (x2 : Int32) : d_240_2 a0 x1 m x2 = oi (s_240_2 a0 x1 m x2) (fun s => d_240_2 a0 x1 m s) := it_eq _
theorem u_240_2 {L nx : Nat} (hN : okn nx) {b z : Nat} {m : Mm} {a0 : Nat} (h0 : ok nx a0 11) {x1 : Int32} {x2 : Int32}  : Im (s_240_2 a0 x1 m x2) (kL (kI L nx m) (E_240_2 L nx b z a0 x1 m)) (ev_dn b z 240 2 [some (.ref a0), some (.int x1), some (.int x2)] [] (nx, mem L nx m)) := by
  unfold s_240_2
  refine i_bl (pc' := 4) [(.iload_n 2, 1), (.aload_n 0, 1)] [some (.ref a0), some (.int x1), some (.int x2)] [.ref a0, .int x2] (by decide +kernel) rfl ?_
  refine i_gr (idx := 7) (ci := 11) (k := 1) (t := 2) (p := 16234) (pc' := 7) (by decide +kernel) h0 ?_
  refine i_bl (pc' := 9) [(.bipush (8), 2)] [some (.ref a0), some (.int x1), some (.int x2)] [.int 8, .ref (sh_r a0 1), .int x2] (by decide +kernel) rfl ?_
  refine i_al (pc' := 10) (by decide +kernel) (o_11_1 hN h0) ?_
  refine i_ic (c := .ge) (off := 21) (t := 31) (pc' := 13) (p := (m (sh_r a0 1) (ix 8)) ≤ x2) (by decide +kernel) rfl ?_ ?_
  · refine i_bl (pc' := 32) [(.iconst (-1), 1)] [some (.ref a0), some (.int x1), some (.int x2)] [.int (-1)] (by decide +kernel) rfl ?_
    exact i_ir (i_ri (by decide +kernel) rfl)
  · refine i_bl (pc' := 16) [(.aload_n 0, 1), (.iload_n 2, 1), (.iconst 0, 1)] [some (.ref a0), some (.int x1), some (.int x2)] [.int 0, .int x2, .ref a0] (by decide +kernel) rfl ?_
    refine i_cv (ci := 11) (t := 231) (na := 3) (ml := 3) (idx := 191) (pc' := 19) (st' := []) (en := [some (.ref a0), some (.int x2), some (.int 0)]) (av := [.int x2, .int 0]) (vo := fun v => some (.int v)) (mo := fun _ => m) (s2 := fun v => .int v :: []) (by decide +kernel) (by decide +kernel) h0 ⟨rfl, rfl, rfl, rfl, rfl, rfl⟩ (fun _ => rfl) (t_231 hN (h0 := h0)) (fun v1 => ?_)
    refine i_bl (pc' := 20) [(.iload_n 1, 1)] [some (.ref a0), some (.int x1), some (.int x2)] [.int x1, .int v1] (by decide +kernel) rfl ?_
    refine i_ic (c := .ne) (off := 5) (t := 25) (pc' := 23) (p := ¬ v1 = x1) (by decide +kernel) rfl ?_ ?_
    · refine i_bl (pc' := 28) [(.iinc 2 (1), 3)] [some (.ref a0), some (.int x1), some (.int (x2 + 1))] [] (by decide +kernel) rfl ?_
      refine i_wb (fun y2 => ev_dn b z 240 28 [some (.ref a0), some (.int x1), some (.int y2)] [] (nx, mem L nx m)) (fun y2 => ?_)
      refine i_go (t := 2) (off := -26) (by decide +kernel) ?_
      exact i_co () rfl
    · refine i_bl (pc' := 24) [(.iload_n 2, 1)] [some (.ref a0), some (.int x1), some (.int x2)] [.int x2] (by decide +kernel) rfl ?_
      exact i_ir (i_ri (by decide +kernel) rfl)

theorem t_240_2 {L nx : Nat} (hN : okn nx) {b z : Nat} {m : Mm} {a0 : Nat} (h0 : ok nx a0 11) {x1 : Int32} {x2 : Int32}  : Im (d_240_2 a0 x1 m x2) (kI L nx m) (ev_dn b z 240 2 [some (.ref a0), some (.int x1), some (.int x2)] [] (nx, mem L nx m)) := by
  exact i_it (f := fun s => s_240_2 a0 x1 m s) (E := E_240_2 L nx b z a0 x1 m) (K := (kI L nx m)) (fun d s => u_240_2 hN (h0 := h0)) () (x2)
noncomputable def d_240 (a0 : Nat) (x1 : Int32) (m : Mm) : Option Int32 := d_240_2 a0 x1 m 0
theorem t_240 {L nx : Nat} (hN : okn nx) {b z : Nat} {m : Mm} {a0 : Nat} (h0 : ok nx a0 11) {x1 : Int32}  : Im (d_240 a0 x1 m) (kI L nx m) (ev_dn b z 240 0 [some (.ref a0), some (.int x1), none] [] (nx, mem L nx m)) := by
  unfold d_240
  refine i_bl (pc' := 2) [(.iconst 0, 1), (.istore_n 2, 1)] [some (.ref a0), some (.int x1), some (.int 0)] [] (by decide +kernel) rfl ?_
  exact t_240_2 hN (h0 := h0)

/-! 241 LanternChessModel.laysFog(III)I -/
noncomputable def E_241_9 (L nx b z : Nat) (a0 : Nat) (x1 : Int32) (x2 : Int32) (x3 : Int32) (d : Option Value) (s : (Int32 × Mm)) : ev_Q := ev_dn b z 241 9 [some (.ref a0), some (.int x1), some (.int x2), some (.int x3), some (.int s.1), d] [] (nx, mem L nx s.2)
noncomputable def d_241_77 (a0 : Nat) (x1 : Int32) (x2 : Int32) (x3 : Int32) (x4 : Int32) (m : Mm) : Option (Int32 × Mm) := if ev_in (280 + (3 * x4)) (sh_n (sh_r a0 1)) = true then (wb (wr m (sh_r a0 1) (ix (280 + (3 * x4))) x1) fun m1 => if ev_in ((280 + (3 * x4)) + 1) (sh_n (sh_r a0 1)) = true then (wb (wr m1 (sh_r a0 1) (ix ((280 + (3 * x4)) + 1)) x2) fun m2 => if ev_in ((280 + (3 * x4)) + 2) (sh_n (sh_r a0 1)) = true then (wb (wr m2 (sh_r a0 1) (ix ((280 + (3 * x4)) + 2)) x3) fun m3 => if ev_in 8 (sh_n (sh_r a0 1)) = true then (if ev_in 8 (sh_n (sh_r a0 1)) = true then (wb (wr m3 (sh_r a0 1) (ix 8) ((m3 (sh_r a0 1) (ix 8)) + 1)) fun m4 => some (x4, m4)) else none) else none) else none) else none) else none
theorem t_241_77 {L nx : Nat} (hN : okn nx) {b z : Nat} {m : Mm} {a0 : Nat} (h0 : ok nx a0 11) {x1 : Int32} {x2 : Int32} {x3 : Int32} {x4 : Int32} {o5 : Option Value} : Im (d_241_77 a0 x1 x2 x3 x4 m) (wI L nx) (ev_dn b z 241 77 [some (.ref a0), some (.int x1), some (.int x2), some (.int x3), some (.int x4), o5] [] (nx, mem L nx m)) := by
  unfold d_241_77
  refine i_bl (pc' := 78) [(.aload_n 0, 1)] [some (.ref a0), some (.int x1), some (.int x2), some (.int x3), some (.int x4), o5] [.ref a0] (by decide +kernel) rfl ?_
  refine i_gr (idx := 7) (ci := 11) (k := 1) (t := 2) (p := 16234) (pc' := 81) (by decide +kernel) h0 ?_
  refine i_bl (pc' := 90) [(.sipush (280), 3), (.iconst 3, 1), (.iload 4, 2), (.imul, 1), (.iadd, 1), (.iload_n 1, 1)] [some (.ref a0), some (.int x1), some (.int x2), some (.int x3), some (.int x4), o5] [.int x1, .int (280 + (3 * x4)), .ref (sh_r a0 1)] (by decide +kernel) rfl ?_
  refine i_as (y := x1) (pc' := 91) (by decide +kernel) (o_11_1 hN h0) (fun m1 => ?_)
  refine i_bl (pc' := 92) [(.aload_n 0, 1)] [some (.ref a0), some (.int x1), some (.int x2), some (.int x3), some (.int x4), o5] [.ref a0] (by decide +kernel) rfl ?_
  refine i_gr (idx := 7) (ci := 11) (k := 1) (t := 2) (p := 16234) (pc' := 95) (by decide +kernel) h0 ?_
  refine i_bl (pc' := 106) [(.sipush (280), 3), (.iconst 3, 1), (.iload 4, 2), (.imul, 1), (.iadd, 1), (.iconst 1, 1), (.iadd, 1), (.iload_n 2, 1)] [some (.ref a0), some (.int x1), some (.int x2), some (.int x3), some (.int x4), o5] [.int x2, .int ((280 + (3 * x4)) + 1), .ref (sh_r a0 1)] (by decide +kernel) rfl ?_
  refine i_as (y := x2) (pc' := 107) (by decide +kernel) (o_11_1 hN h0) (fun m2 => ?_)
  refine i_bl (pc' := 108) [(.aload_n 0, 1)] [some (.ref a0), some (.int x1), some (.int x2), some (.int x3), some (.int x4), o5] [.ref a0] (by decide +kernel) rfl ?_
  refine i_gr (idx := 7) (ci := 11) (k := 1) (t := 2) (p := 16234) (pc' := 111) (by decide +kernel) h0 ?_
  refine i_bl (pc' := 122) [(.sipush (280), 3), (.iconst 3, 1), (.iload 4, 2), (.imul, 1), (.iadd, 1), (.iconst 2, 1), (.iadd, 1), (.iload_n 3, 1)] [some (.ref a0), some (.int x1), some (.int x2), some (.int x3), some (.int x4), o5] [.int x3, .int ((280 + (3 * x4)) + 2), .ref (sh_r a0 1)] (by decide +kernel) rfl ?_
  refine i_as (y := x3) (pc' := 123) (by decide +kernel) (o_11_1 hN h0) (fun m3 => ?_)
  refine i_bl (pc' := 124) [(.aload_n 0, 1)] [some (.ref a0), some (.int x1), some (.int x2), some (.int x3), some (.int x4), o5] [.ref a0] (by decide +kernel) rfl ?_
  refine i_gr (idx := 7) (ci := 11) (k := 1) (t := 2) (p := 16234) (pc' := 127) (by decide +kernel) h0 ?_
  refine i_bl (pc' := 130) [(.bipush (8), 2), (.aload_n 0, 1)] [some (.ref a0), some (.int x1), some (.int x2), some (.int x3), some (.int x4), o5] [.ref a0, .int 8, .ref (sh_r a0 1)] (by decide +kernel) rfl ?_
  refine i_gr (idx := 7) (ci := 11) (k := 1) (t := 2) (p := 16234) (pc' := 133) (by decide +kernel) h0 ?_
  refine i_bl (pc' := 135) [(.bipush (8), 2)] [some (.ref a0), some (.int x1), some (.int x2), some (.int x3), some (.int x4), o5] [.int 8, .ref (sh_r a0 1), .int 8, .ref (sh_r a0 1)] (by decide +kernel) rfl ?_
  refine i_al (pc' := 136) (by decide +kernel) (o_11_1 hN h0) ?_
  refine i_bl (pc' := 138) [(.iconst 1, 1), (.iadd, 1)] [some (.ref a0), some (.int x1), some (.int x2), some (.int x3), some (.int x4), o5] [.int ((m3 (sh_r a0 1) (ix 8)) + 1), .int 8, .ref (sh_r a0 1)] (by decide +kernel) rfl ?_
  refine i_as (y := ((m3 (sh_r a0 1) (ix 8)) + 1)) (pc' := 139) (by decide +kernel) (o_11_1 hN h0) (fun m4 => ?_)
  refine i_bl (pc' := 141) [(.iload 4, 2)] [some (.ref a0), some (.int x1), some (.int x2), some (.int x3), some (.int x4), o5] [.int x4] (by decide +kernel) rfl ?_
  exact i_ri (by decide +kernel) rfl

noncomputable def E_241_30 (L nx b z : Nat) (a0 : Nat) (x1 : Int32) (x2 : Int32) (x3 : Int32) (x4 : Int32) (d : Unit) (s : (Int32 × Mm)) : ev_Q := ev_dn b z 241 30 [some (.ref a0), some (.int x1), some (.int x2), some (.int x3), some (.int x4), some (.int s.1)] [] (nx, mem L nx s.2)
noncomputable def d_241_68 (a0 : Nat) (x1 : Int32) (x2 : Int32) (x3 : Int32) (x4 : Int32) (m : Mm) : Option ((Int32 × Mm) ⊕ (Int32 × Mm)) := wb (x4 - 1) fun y6 => some (.inl (y6, m))
theorem t_241_68 {L nx : Nat} (hN : okn nx) {b z : Nat} {m : Mm} {a0 : Nat} (h0 : ok nx a0 11) {x1 : Int32} {x2 : Int32} {x3 : Int32} {x4 : Int32} {o5 : Option Value} : Im (d_241_68 a0 x1 x2 x3 x4 m) (kL (wI L nx) (E_241_9 L nx b z a0 x1 x2 x3)) (ev_dn b z 241 68 [some (.ref a0), some (.int x1), some (.int x2), some (.int x3), some (.int x4), o5] [] (nx, mem L nx m)) := by
  unfold d_241_68
  refine i_bl (pc' := 74) [(.iload 4, 2), (.iconst 1, 1), (.isub, 1), (.istore 4, 2)] [some (.ref a0), some (.int x1), some (.int x2), some (.int x3), some (.int (x4 - 1)), o5] [] (by decide +kernel) rfl ?_
  refine i_wb (fun y6 => ev_dn b z 241 74 [some (.ref a0), some (.int x1), some (.int x2), some (.int x3), some (.int y6), o5] [] (nx, mem L nx m)) (fun y6 => ?_)
  refine i_go (t := 9) (off := -65) (by decide +kernel) ?_
  exact i_co (o5) rfl

noncomputable def s_241_30 (a0 : Nat) (x1 : Int32) (x2 : Int32) (x3 : Int32) (x4 : Int32) (x5 : Int32) (m : Mm) : Option ((Int32 × Mm) ⊕ ((Int32 × Mm) ⊕ (Int32 × Mm))) := if 3 ≤ x5 then ((d_241_68 a0 x1 x2 x3 x4 m).map Sum.inr) else ((d_231 a0 (x4 - 1) x5 m).bind fun v7 => if ev_in ((280 + (3 * x4)) + x5) (sh_n (sh_r a0 1)) = true then (wb (wr m (sh_r a0 1) (ix ((280 + (3 * x4)) + x5)) v7) fun m8 => wb (x5 + 1) fun y9 => some (.inl (y9, m8))) else none)
noncomputable def d_241_30 (a0 : Nat) (x1 : Int32) (x2 : Int32) (x3 : Int32) (x4 : Int32) (x5 : Int32) (m : Mm) : Option ((Int32 × Mm) ⊕ (Int32 × Mm)) := it (fun s => s_241_30 a0 x1 x2 x3 x4 s.1 s.2) (x5, m)
theorem e_241_30 (a0 : Nat) (x1 : Int32) (x2 : Int32) (x3 : Int32) (x4 : Int32) (x5 : Int32) (m : Mm) : d_241_30 a0 x1 x2 x3 x4 x5 m = oi (s_241_30 a0 x1 x2 x3 x4 x5 m) (fun s => d_241_30 a0 x1 x2 x3 x4 s.1 s.2) := it_eq _
theorem u_241_30 {L nx : Nat} (hN : okn nx) {b z : Nat} {m : Mm} {a0 : Nat} (h0 : ok nx a0 11) {x1 : Int32} {x2 : Int32} {x3 : Int32} {x4 : Int32} {x5 : Int32}  : Im (s_241_30 a0 x1 x2 x3 x4 x5 m) (kL (kL (wI L nx) (E_241_9 L nx b z a0 x1 x2 x3)) (E_241_30 L nx b z a0 x1 x2 x3 x4)) (ev_dn b z 241 30 [some (.ref a0), some (.int x1), some (.int x2), some (.int x3), some (.int x4), some (.int x5)] [] (nx, mem L nx m)) := by
  unfold s_241_30
  refine i_bl (pc' := 33) [(.iload 5, 2), (.iconst 3, 1)] [some (.ref a0), some (.int x1), some (.int x2), some (.int x3), some (.int x4), some (.int x5)] [.int 3, .int x5] (by decide +kernel) rfl ?_
  refine i_ic (c := .ge) (off := 35) (t := 68) (pc' := 36) (p := 3 ≤ x5) (by decide +kernel) rfl ?_ ?_
  · exact i_mr (t_241_68 hN (h0 := h0))
  · refine i_bl (pc' := 37) [(.aload_n 0, 1)] [some (.ref a0), some (.int x1), some (.int x2), some (.int x3), some (.int x4), some (.int x5)] [.ref a0] (by decide +kernel) rfl ?_
    refine i_gr (idx := 7) (ci := 11) (k := 1) (t := 2) (p := 16234) (pc' := 40) (by decide +kernel) h0 ?_
    refine i_bl (pc' := 58) [(.sipush (280), 3), (.iconst 3, 1), (.iload 4, 2), (.imul, 1), (.iadd, 1), (.iload 5, 2), (.iadd, 1), (.aload_n 0, 1), (.iload 4, 2), (.iconst 1, 1), (.isub, 1), (.iload 5, 2)] [some (.ref a0), some (.int x1), some (.int x2), some (.int x3), some (.int x4), some (.int x5)] [.int x5, .int (x4 - 1), .ref a0, .int ((280 + (3 * x4)) + x5), .ref (sh_r a0 1)] (by decide +kernel) rfl ?_
    refine i_cv (ci := 11) (t := 231) (na := 3) (ml := 3) (idx := 191) (pc' := 61) (st' := [.int ((280 + (3 * x4)) + x5), .ref (sh_r a0 1)]) (en := [some (.ref a0), some (.int (x4 - 1)), some (.int x5)]) (av := [.int (x4 - 1), .int x5]) (vo := fun v => some (.int v)) (mo := fun _ => m) (s2 := fun v => .int v :: [.int ((280 + (3 * x4)) + x5), .ref (sh_r a0 1)]) (by decide +kernel) (by decide +kernel) h0 ⟨rfl, rfl, rfl, rfl, rfl, rfl⟩ (fun _ => rfl) (t_231 hN (h0 := h0)) (fun v7 => ?_)
    refine i_as (y := v7) (pc' := 62) (by decide +kernel) (o_11_1 hN h0) (fun m8 => ?_)
    refine i_bl (pc' := 65) [(.iinc 5 (1), 3)] [some (.ref a0), some (.int x1), some (.int x2), some (.int x3), some (.int x4), some (.int (x5 + 1))] [] (by decide +kernel) rfl ?_
    refine i_wb (fun y9 => ev_dn b z 241 65 [some (.ref a0), some (.int x1), some (.int x2), some (.int x3), some (.int x4), some (.int y9)] [] (nx, mem L nx m8)) (fun y9 => ?_)
    refine i_go (t := 30) (off := -35) (by decide +kernel) ?_
    exact i_co () rfl

theorem t_241_30 {L nx : Nat} (hN : okn nx) {b z : Nat} {m : Mm} {a0 : Nat} (h0 : ok nx a0 11) {x1 : Int32} {x2 : Int32} {x3 : Int32} {x4 : Int32} {x5 : Int32}  : Im (d_241_30 a0 x1 x2 x3 x4 x5 m) (kL (wI L nx) (E_241_9 L nx b z a0 x1 x2 x3)) (ev_dn b z 241 30 [some (.ref a0), some (.int x1), some (.int x2), some (.int x3), some (.int x4), some (.int x5)] [] (nx, mem L nx m)) := by
  exact i_it (f := fun s => s_241_30 a0 x1 x2 x3 x4 s.1 s.2) (E := E_241_30 L nx b z a0 x1 x2 x3 x4) (K := (kL (wI L nx) (E_241_9 L nx b z a0 x1 x2 x3))) (fun d s => u_241_30 hN (h0 := h0)) () (x5, m)
noncomputable def s_241_9 (a0 : Nat) (x1 : Int32) (x2 : Int32) (x3 : Int32) (x4 : Int32) (m : Mm) : Option ((Int32 × Mm) ⊕ (Int32 × Mm)) := if x4 ≤ 0 then ((d_241_77 a0 x1 x2 x3 x4 m).map Sum.inr) else ((d_231 a0 (x4 - 1) 0 m).bind fun v5 => if v5 ≤ x1 then ((d_241_77 a0 x1 x2 x3 x4 m).map Sum.inr) else (d_241_30 a0 x1 x2 x3 x4 0 m))
noncomputable def d_241_9 (a0 : Nat) (x1 : Int32) (x2 : Int32) (x3 : Int32) (x4 : Int32) (m : Mm) : Option (Int32 × Mm) := it (fun s => s_241_9 a0 x1 x2 x3 s.1 s.2) (x4, m)
theorem e_241_9 (a0 : Nat) (x1 : Int32) (x2 : Int32) (x3 : Int32) (x4 : Int32) (m : Mm) : d_241_9 a0 x1 x2 x3 x4 m = oi (s_241_9 a0 x1 x2 x3 x4 m) (fun s => d_241_9 a0 x1 x2 x3 s.1 s.2) := it_eq _
theorem u_241_9 {L nx : Nat} (hN : okn nx) {b z : Nat} {m : Mm} {a0 : Nat} (h0 : ok nx a0 11) {x1 : Int32} {x2 : Int32} {x3 : Int32} {x4 : Int32} {o5 : Option Value} : Im (s_241_9 a0 x1 x2 x3 x4 m) (kL (wI L nx) (E_241_9 L nx b z a0 x1 x2 x3)) (ev_dn b z 241 9 [some (.ref a0), some (.int x1), some (.int x2), some (.int x3), some (.int x4), o5] [] (nx, mem L nx m)) := by
  unfold s_241_9
  refine i_bl (pc' := 11) [(.iload 4, 2)] [some (.ref a0), some (.int x1), some (.int x2), some (.int x3), some (.int x4), o5] [.int x4] (by decide +kernel) rfl ?_
  refine i_if (c := .le) (off := 66) (t := 77) (pc' := 14) (p := x4 ≤ 0) (by decide +kernel) rfl ?_ ?_
  · exact i_mr (t_241_77 hN (h0 := h0))
  · refine i_bl (pc' := 20) [(.aload_n 0, 1), (.iload 4, 2), (.iconst 1, 1), (.isub, 1), (.iconst 0, 1)] [some (.ref a0), some (.int x1), some (.int x2), some (.int x3), some (.int x4), o5] [.int 0, .int (x4 - 1), .ref a0] (by decide +kernel) rfl ?_
    refine i_cv (ci := 11) (t := 231) (na := 3) (ml := 3) (idx := 191) (pc' := 23) (st' := []) (en := [some (.ref a0), some (.int (x4 - 1)), some (.int 0)]) (av := [.int (x4 - 1), .int 0]) (vo := fun v => some (.int v)) (mo := fun _ => m) (s2 := fun v => .int v :: []) (by decide +kernel) (by decide +kernel) h0 ⟨rfl, rfl, rfl, rfl, rfl, rfl⟩ (fun _ => rfl) (t_231 hN (h0 := h0)) (fun v5 => ?_)
    refine i_bl (pc' := 24) [(.iload_n 1, 1)] [some (.ref a0), some (.int x1), some (.int x2), some (.int x3), some (.int x4), o5] [.int x1, .int v5] (by decide +kernel) rfl ?_
    refine i_ic (c := .le) (off := 53) (t := 77) (pc' := 27) (p := v5 ≤ x1) (by decide +kernel) rfl ?_ ?_
    · exact i_mr (t_241_77 hN (h0 := h0))
    · refine i_bl (pc' := 30) [(.iconst 0, 1), (.istore 5, 2)] [some (.ref a0), some (.int x1), some (.int x2), some (.int x3), some (.int x4), some (.int 0)] [] (by decide +kernel) rfl ?_
      exact t_241_30 hN (h0 := h0)

theorem t_241_9 {L nx : Nat} (hN : okn nx) {b z : Nat} {m : Mm} {a0 : Nat} (h0 : ok nx a0 11) {x1 : Int32} {x2 : Int32} {x3 : Int32} {x4 : Int32} {o5 : Option Value} : Im (d_241_9 a0 x1 x2 x3 x4 m) (wI L nx) (ev_dn b z 241 9 [some (.ref a0), some (.int x1), some (.int x2), some (.int x3), some (.int x4), o5] [] (nx, mem L nx m)) := by
  exact i_it (f := fun s => s_241_9 a0 x1 x2 x3 s.1 s.2) (E := E_241_9 L nx b z a0 x1 x2 x3) (K := (wI L nx)) (fun d s => u_241_9 hN (h0 := h0)) (o5) (x4, m)
noncomputable def d_241 (a0 : Nat) (x1 : Int32) (x2 : Int32) (x3 : Int32) (m : Mm) : Option (Int32 × Mm) := if ev_in 8 (sh_n (sh_r a0 1)) = true then (d_241_9 a0 x1 x2 x3 (m (sh_r a0 1) (ix 8)) m) else none
theorem t_241 {L nx : Nat} (hN : okn nx) {b z : Nat} {m : Mm} {a0 : Nat} (h0 : ok nx a0 11) {x1 : Int32} {x2 : Int32} {x3 : Int32}  : Im (d_241 a0 x1 x2 x3 m) (wI L nx) (ev_dn b z 241 0 [some (.ref a0), some (.int x1), some (.int x2), some (.int x3), none, none] [] (nx, mem L nx m)) := by
  unfold d_241
  refine i_bl (pc' := 1) [(.aload_n 0, 1)] [some (.ref a0), some (.int x1), some (.int x2), some (.int x3), none, none] [.ref a0] (by decide +kernel) rfl ?_
  refine i_gr (idx := 7) (ci := 11) (k := 1) (t := 2) (p := 16234) (pc' := 4) (by decide +kernel) h0 ?_
  refine i_bl (pc' := 6) [(.bipush (8), 2)] [some (.ref a0), some (.int x1), some (.int x2), some (.int x3), none, none] [.int 8, .ref (sh_r a0 1)] (by decide +kernel) rfl ?_
  refine i_al (pc' := 7) (by decide +kernel) (o_11_1 hN h0) ?_
  refine i_bl (pc' := 9) [(.istore 4, 2)] [some (.ref a0), some (.int x1), some (.int x2), some (.int x3), some (.int (m (sh_r a0 1) (ix 8))), none] [] (by decide +kernel) rfl ?_
  exact t_241_9 hN (h0 := h0)

/-! 242 LanternChessModel.check([I)I -/
noncomputable def d_242 (a0 : Nat) (m : Mm) : Option Int32 := if ev_in 0 (sh_n a0) = true then (if ev_in 1 (sh_n a0) = true then (if ev_in 2 (sh_n a0) = true then (if ev_in 3 (sh_n a0) = true then (if ev_in 4 (sh_n a0) = true then (some (1 + ((((((m a0 (ix 0)) + (m a0 (ix 1))) + (m a0 (ix 2))) + (m a0 (ix 3))) + (m a0 (ix 4))) - (((((m a0 (ix 0)) + (m a0 (ix 1))) + (m a0 (ix 2))) + (m a0 (ix 3))) + (m a0 (ix 4))) / 7 * 7))) else none) else none) else none) else none) else none
theorem t_242 {L nx : Nat} (hN : okn nx) {b z : Nat} {m : Mm} {a0 : Nat} (h0 : ok nx a0 100)   : Im (d_242 a0 m) (kI L nx m) (ev_dn b z 242 0 [some (.ref a0)] [] (nx, mem L nx m)) := by
  unfold d_242
  refine i_bl (pc' := 3) [(.iconst 1, 1), (.aload_n 0, 1), (.iconst 0, 1)] [some (.ref a0)] [.int 0, .ref a0, .int 1] (by decide +kernel) rfl ?_
  refine i_al (pc' := 4) (by decide +kernel) h0 ?_
  refine i_bl (pc' := 6) [(.aload_n 0, 1), (.iconst 1, 1)] [some (.ref a0)] [.int 1, .ref a0, .int (m a0 (ix 0)), .int 1] (by decide +kernel) rfl ?_
  refine i_al (pc' := 7) (by decide +kernel) h0 ?_
  refine i_bl (pc' := 10) [(.iadd, 1), (.aload_n 0, 1), (.iconst 2, 1)] [some (.ref a0)] [.int 2, .ref a0, .int ((m a0 (ix 0)) + (m a0 (ix 1))), .int 1] (by decide +kernel) rfl ?_
  refine i_al (pc' := 11) (by decide +kernel) h0 ?_
  refine i_bl (pc' := 14) [(.iadd, 1), (.aload_n 0, 1), (.iconst 3, 1)] [some (.ref a0)] [.int 3, .ref a0, .int (((m a0 (ix 0)) + (m a0 (ix 1))) + (m a0 (ix 2))), .int 1] (by decide +kernel) rfl ?_
  refine i_al (pc' := 15) (by decide +kernel) h0 ?_
  refine i_bl (pc' := 18) [(.iadd, 1), (.aload_n 0, 1), (.iconst 4, 1)] [some (.ref a0)] [.int 4, .ref a0, .int ((((m a0 (ix 0)) + (m a0 (ix 1))) + (m a0 (ix 2))) + (m a0 (ix 3))), .int 1] (by decide +kernel) rfl ?_
  refine i_al (pc' := 19) (by decide +kernel) h0 ?_
  refine i_bl (pc' := 22) [(.iadd, 1), (.bipush (7), 2)] [some (.ref a0)] [.int 7, .int (((((m a0 (ix 0)) + (m a0 (ix 1))) + (m a0 (ix 2))) + (m a0 (ix 3))) + (m a0 (ix 4))), .int 1] (by decide +kernel) rfl ?_
  refine i_rem0 (pc' := 23) (by decide +kernel) (by decide) ?_
  refine i_bl (pc' := 24) [(.iadd, 1)] [some (.ref a0)] [.int (1 + ((((((m a0 (ix 0)) + (m a0 (ix 1))) + (m a0 (ix 2))) + (m a0 (ix 3))) + (m a0 (ix 4))) - (((((m a0 (ix 0)) + (m a0 (ix 1))) + (m a0 (ix 2))) + (m a0 (ix 3))) + (m a0 (ix 4))) / 7 * 7))] (by decide +kernel) rfl ?_
  exact i_ri (by decide +kernel) rfl

/-! 243 LanternChessModel.laysGroups(II)V -/
noncomputable def d_243 (a0 : Nat) (x1 : Int32) (x2 : Int32) (m : Mm) : Option Mm := if ev_in 3 (sh_n (sh_r a0 1)) = true then (if ev_in (9 + (m (sh_r a0 1) (ix 3))) (sh_n (sh_r a0 1)) = true then (if ev_in 0 (sh_n (sh_r a0 15)) = true then (wb (wr m (sh_r a0 15) (ix 0) (1 + ((m (sh_r a0 1) (ix (9 + (m (sh_r a0 1) (ix 3))))) - (m (sh_r a0 1) (ix (9 + (m (sh_r a0 1) (ix 3))))) / 2 * 2))) fun m1 => (d_198 a0 x1 m1).bind fun v2 => if ev_in 1 (sh_n (sh_r a0 15)) = true then (wb (wr m1 (sh_r a0 15) (ix 1) (v2 + 1)) fun m3 => (d_199 a0 x1 m3).bind fun v4 => if ev_in 2 (sh_n (sh_r a0 15)) = true then (wb (wr m3 (sh_r a0 15) (ix 2) (v4 + 1)) fun m5 => (d_198 a0 x2 m5).bind fun v6 => if ev_in 3 (sh_n (sh_r a0 15)) = true then (wb (wr m5 (sh_r a0 15) (ix 3) (v6 + 1)) fun m7 => (d_199 a0 x2 m7).bind fun v8 => if ev_in 4 (sh_n (sh_r a0 15)) = true then (wb (wr m7 (sh_r a0 15) (ix 4) (v8 + 1)) fun m9 => (d_242 (sh_r a0 15) m9).bind fun v10 => if ev_in 5 (sh_n (sh_r a0 15)) = true then (wb (wr m9 (sh_r a0 15) (ix 5) v10) fun m11 => some m11) else none) else none) else none) else none) else none) else none) else none) else none
theorem t_243 {L nx : Nat} (hN : okn nx) {b z : Nat} {m : Mm} {a0 : Nat} (h0 : ok nx a0 11) {x1 : Int32} {x2 : Int32}  : Im (d_243 a0 x1 x2 m) (wV L nx) (ev_dn b z 243 0 [some (.ref a0), some (.int x1), some (.int x2)] [] (nx, mem L nx m)) := by
  unfold d_243
  refine i_bl (pc' := 1) [(.aload_n 0, 1)] [some (.ref a0), some (.int x1), some (.int x2)] [.ref a0] (by decide +kernel) rfl ?_
  refine i_gr (idx := 46) (ci := 11) (k := 15) (t := 2) (p := 17008) (pc' := 4) (by decide +kernel) h0 ?_
  refine i_bl (pc' := 7) [(.iconst 0, 1), (.iconst 1, 1), (.aload_n 0, 1)] [some (.ref a0), some (.int x1), some (.int x2)] [.ref a0, .int 1, .int 0, .ref (sh_r a0 15)] (by decide +kernel) rfl ?_
  refine i_gr (idx := 7) (ci := 11) (k := 1) (t := 2) (p := 16234) (pc' := 10) (by decide +kernel) h0 ?_
  refine i_bl (pc' := 13) [(.bipush (9), 2), (.aload_n 0, 1)] [some (.ref a0), some (.int x1), some (.int x2)] [.ref a0, .int 9, .ref (sh_r a0 1), .int 1, .int 0, .ref (sh_r a0 15)] (by decide +kernel) rfl ?_
  refine i_gr (idx := 7) (ci := 11) (k := 1) (t := 2) (p := 16234) (pc' := 16) (by decide +kernel) h0 ?_
  refine i_bl (pc' := 17) [(.iconst 3, 1)] [some (.ref a0), some (.int x1), some (.int x2)] [.int 3, .ref (sh_r a0 1), .int 9, .ref (sh_r a0 1), .int 1, .int 0, .ref (sh_r a0 15)] (by decide +kernel) rfl ?_
  refine i_al (pc' := 18) (by decide +kernel) (o_11_1 hN h0) ?_
  refine i_bl (pc' := 19) [(.iadd, 1)] [some (.ref a0), some (.int x1), some (.int x2)] [.int (9 + (m (sh_r a0 1) (ix 3))), .ref (sh_r a0 1), .int 1, .int 0, .ref (sh_r a0 15)] (by decide +kernel) rfl ?_
  refine i_al (pc' := 20) (by decide +kernel) (o_11_1 hN h0) ?_
  refine i_bl (pc' := 21) [(.iconst 2, 1)] [some (.ref a0), some (.int x1), some (.int x2)] [.int 2, .int (m (sh_r a0 1) (ix (9 + (m (sh_r a0 1) (ix 3))))), .int 1, .int 0, .ref (sh_r a0 15)] (by decide +kernel) rfl ?_
  refine i_rem0 (pc' := 22) (by decide +kernel) (by decide) ?_
  refine i_bl (pc' := 23) [(.iadd, 1)] [some (.ref a0), some (.int x1), some (.int x2)] [.int (1 + ((m (sh_r a0 1) (ix (9 + (m (sh_r a0 1) (ix 3))))) - (m (sh_r a0 1) (ix (9 + (m (sh_r a0 1) (ix 3))))) / 2 * 2)), .int 0, .ref (sh_r a0 15)] (by decide +kernel) rfl ?_
  refine i_as (y := (1 + ((m (sh_r a0 1) (ix (9 + (m (sh_r a0 1) (ix 3))))) - (m (sh_r a0 1) (ix (9 + (m (sh_r a0 1) (ix 3))))) / 2 * 2))) (pc' := 24) (by decide +kernel) (o_11_15 hN h0) (fun m1 => ?_)
  refine i_bl (pc' := 25) [(.aload_n 0, 1)] [some (.ref a0), some (.int x1), some (.int x2)] [.ref a0] (by decide +kernel) rfl ?_
  refine i_gr (idx := 46) (ci := 11) (k := 15) (t := 2) (p := 17008) (pc' := 28) (by decide +kernel) h0 ?_
  refine i_bl (pc' := 31) [(.iconst 1, 1), (.aload_n 0, 1), (.iload_n 1, 1)] [some (.ref a0), some (.int x1), some (.int x2)] [.int x1, .ref a0, .int 1, .ref (sh_r a0 15)] (by decide +kernel) rfl ?_
  refine i_cv (ci := 11) (t := 198) (na := 2) (ml := 2) (idx := 85) (pc' := 34) (st' := [.int 1, .ref (sh_r a0 15)]) (en := [some (.ref a0), some (.int x1)]) (av := [.int x1]) (vo := fun v => some (.int v)) (mo := fun _ => m1) (s2 := fun v => .int v :: [.int 1, .ref (sh_r a0 15)]) (by decide +kernel) (by decide +kernel) h0 ⟨rfl, rfl, rfl, rfl, rfl, rfl⟩ (fun _ => rfl) (t_198 hN (h0 := h0)) (fun v2 => ?_)
  refine i_bl (pc' := 36) [(.iconst 1, 1), (.iadd, 1)] [some (.ref a0), some (.int x1), some (.int x2)] [.int (v2 + 1), .int 1, .ref (sh_r a0 15)] (by decide +kernel) rfl ?_
  refine i_as (y := (v2 + 1)) (pc' := 37) (by decide +kernel) (o_11_15 hN h0) (fun m3 => ?_)
  refine i_bl (pc' := 38) [(.aload_n 0, 1)] [some (.ref a0), some (.int x1), some (.int x2)] [.ref a0] (by decide +kernel) rfl ?_
  refine i_gr (idx := 46) (ci := 11) (k := 15) (t := 2) (p := 17008) (pc' := 41) (by decide +kernel) h0 ?_
  refine i_bl (pc' := 44) [(.iconst 2, 1), (.aload_n 0, 1), (.iload_n 1, 1)] [some (.ref a0), some (.int x1), some (.int x2)] [.int x1, .ref a0, .int 2, .ref (sh_r a0 15)] (by decide +kernel) rfl ?_
  refine i_cv (ci := 11) (t := 199) (na := 2) (ml := 2) (idx := 92) (pc' := 47) (st' := [.int 2, .ref (sh_r a0 15)]) (en := [some (.ref a0), some (.int x1)]) (av := [.int x1]) (vo := fun v => some (.int v)) (mo := fun _ => m3) (s2 := fun v => .int v :: [.int 2, .ref (sh_r a0 15)]) (by decide +kernel) (by decide +kernel) h0 ⟨rfl, rfl, rfl, rfl, rfl, rfl⟩ (fun _ => rfl) (t_199 hN (h0 := h0)) (fun v4 => ?_)
  refine i_bl (pc' := 49) [(.iconst 1, 1), (.iadd, 1)] [some (.ref a0), some (.int x1), some (.int x2)] [.int (v4 + 1), .int 2, .ref (sh_r a0 15)] (by decide +kernel) rfl ?_
  refine i_as (y := (v4 + 1)) (pc' := 50) (by decide +kernel) (o_11_15 hN h0) (fun m5 => ?_)
  refine i_bl (pc' := 51) [(.aload_n 0, 1)] [some (.ref a0), some (.int x1), some (.int x2)] [.ref a0] (by decide +kernel) rfl ?_
  refine i_gr (idx := 46) (ci := 11) (k := 15) (t := 2) (p := 17008) (pc' := 54) (by decide +kernel) h0 ?_
  refine i_bl (pc' := 57) [(.iconst 3, 1), (.aload_n 0, 1), (.iload_n 2, 1)] [some (.ref a0), some (.int x1), some (.int x2)] [.int x2, .ref a0, .int 3, .ref (sh_r a0 15)] (by decide +kernel) rfl ?_
  refine i_cv (ci := 11) (t := 198) (na := 2) (ml := 2) (idx := 85) (pc' := 60) (st' := [.int 3, .ref (sh_r a0 15)]) (en := [some (.ref a0), some (.int x2)]) (av := [.int x2]) (vo := fun v => some (.int v)) (mo := fun _ => m5) (s2 := fun v => .int v :: [.int 3, .ref (sh_r a0 15)]) (by decide +kernel) (by decide +kernel) h0 ⟨rfl, rfl, rfl, rfl, rfl, rfl⟩ (fun _ => rfl) (t_198 hN (h0 := h0)) (fun v6 => ?_)
  refine i_bl (pc' := 62) [(.iconst 1, 1), (.iadd, 1)] [some (.ref a0), some (.int x1), some (.int x2)] [.int (v6 + 1), .int 3, .ref (sh_r a0 15)] (by decide +kernel) rfl ?_
  refine i_as (y := (v6 + 1)) (pc' := 63) (by decide +kernel) (o_11_15 hN h0) (fun m7 => ?_)
  refine i_bl (pc' := 64) [(.aload_n 0, 1)] [some (.ref a0), some (.int x1), some (.int x2)] [.ref a0] (by decide +kernel) rfl ?_
  refine i_gr (idx := 46) (ci := 11) (k := 15) (t := 2) (p := 17008) (pc' := 67) (by decide +kernel) h0 ?_
  refine i_bl (pc' := 70) [(.iconst 4, 1), (.aload_n 0, 1), (.iload_n 2, 1)] [some (.ref a0), some (.int x1), some (.int x2)] [.int x2, .ref a0, .int 4, .ref (sh_r a0 15)] (by decide +kernel) rfl ?_
  refine i_cv (ci := 11) (t := 199) (na := 2) (ml := 2) (idx := 92) (pc' := 73) (st' := [.int 4, .ref (sh_r a0 15)]) (en := [some (.ref a0), some (.int x2)]) (av := [.int x2]) (vo := fun v => some (.int v)) (mo := fun _ => m7) (s2 := fun v => .int v :: [.int 4, .ref (sh_r a0 15)]) (by decide +kernel) (by decide +kernel) h0 ⟨rfl, rfl, rfl, rfl, rfl, rfl⟩ (fun _ => rfl) (t_199 hN (h0 := h0)) (fun v8 => ?_)
  refine i_bl (pc' := 75) [(.iconst 1, 1), (.iadd, 1)] [some (.ref a0), some (.int x1), some (.int x2)] [.int (v8 + 1), .int 4, .ref (sh_r a0 15)] (by decide +kernel) rfl ?_
  refine i_as (y := (v8 + 1)) (pc' := 76) (by decide +kernel) (o_11_15 hN h0) (fun m9 => ?_)
  refine i_bl (pc' := 77) [(.aload_n 0, 1)] [some (.ref a0), some (.int x1), some (.int x2)] [.ref a0] (by decide +kernel) rfl ?_
  refine i_gr (idx := 46) (ci := 11) (k := 15) (t := 2) (p := 17008) (pc' := 80) (by decide +kernel) h0 ?_
  refine i_bl (pc' := 82) [(.iconst 5, 1), (.aload_n 0, 1)] [some (.ref a0), some (.int x1), some (.int x2)] [.ref a0, .int 5, .ref (sh_r a0 15)] (by decide +kernel) rfl ?_
  refine i_gr (idx := 46) (ci := 11) (k := 15) (t := 2) (p := 17008) (pc' := 85) (by decide +kernel) h0 ?_
  refine i_cs (t := 242) (na := 1) (ml := 1) (idx := 212) (pc' := 88) (st' := [.int 5, .ref (sh_r a0 15)]) (en := [some (.ref (sh_r a0 15))]) (av := [.ref (sh_r a0 15)]) (vo := fun v => some (.int v)) (mo := fun _ => m9) (s2 := fun v => .int v :: [.int 5, .ref (sh_r a0 15)]) (by decide +kernel) ⟨rfl, rfl, rfl, rfl, rfl, rfl⟩ (fun _ => rfl) (t_242 hN (h0 := (o_11_15 hN h0))) (fun v10 => ?_)
  refine i_as (y := v10) (pc' := 89) (by decide +kernel) (o_11_15 hN h0) (fun m11 => ?_)
  exact i_rv (by decide +kernel) rfl

/-! 244 LanternChessModel.flashes()I -/
noncomputable def E_244_4 (L nx b z : Nat) (a0 : Nat) (m : Mm) (d : Unit) (s : (Int32 × Int32)) : ev_Q := ev_dn b z 244 4 [some (.ref a0), some (.int s.1), some (.int s.2)] [] (nx, mem L nx m)
noncomputable def s_244_4 (a0 : Nat) (m : Mm) (x1 : Int32) (x2 : Int32) : Option ((Int32 × Int32) ⊕ Int32) := if 6 ≤ x2 then (some (.inr x1)) else (if ev_in x2 (sh_n (sh_r a0 15)) = true then (wb (x1 + (m (sh_r a0 15) (ix x2))) fun y1 => wb (x2 + 1) fun y2 => some (.inl (y1, y2))) else none)
noncomputable def d_244_4 (a0 : Nat) (m : Mm) (x1 : Int32) (x2 : Int32) : Option Int32 := it (fun s => s_244_4 a0 m s.1 s.2) (x1, x2)
theorem e_244_4 (a0 : Nat) (m : Mm) (x1 : Int32) (x2 : Int32) : d_244_4 a0 m x1 x2 = oi (s_244_4 a0 m x1 x2) (fun s => d_244_4 a0 m s.1 s.2) := it_eq _
theorem u_244_4 {L nx : Nat} (hN : okn nx) {b z : Nat} {m : Mm} {a0 : Nat} (h0 : ok nx a0 11) {x1 : Int32} {x2 : Int32}  : Im (s_244_4 a0 m x1 x2) (kL (kI L nx m) (E_244_4 L nx b z a0 m)) (ev_dn b z 244 4 [some (.ref a0), some (.int x1), some (.int x2)] [] (nx, mem L nx m)) := by
  unfold s_244_4
  refine i_bl (pc' := 7) [(.iload_n 2, 1), (.bipush (6), 2)] [some (.ref a0), some (.int x1), some (.int x2)] [.int 6, .int x2] (by decide +kernel) rfl ?_
  refine i_ic (c := .ge) (off := 18) (t := 25) (pc' := 10) (p := 6 ≤ x2) (by decide +kernel) rfl ?_ ?_
  · refine i_bl (pc' := 26) [(.iload_n 1, 1)] [some (.ref a0), some (.int x1), some (.int x2)] [.int x1] (by decide +kernel) rfl ?_
    exact i_ir (i_ri (by decide +kernel) rfl)
  · refine i_bl (pc' := 12) [(.iload_n 1, 1), (.aload_n 0, 1)] [some (.ref a0), some (.int x1), some (.int x2)] [.ref a0, .int x1] (by decide +kernel) rfl ?_
    refine i_gr (idx := 46) (ci := 11) (k := 15) (t := 2) (p := 17008) (pc' := 15) (by decide +kernel) h0 ?_
    refine i_bl (pc' := 16) [(.iload_n 2, 1)] [some (.ref a0), some (.int x1), some (.int x2)] [.int x2, .ref (sh_r a0 15), .int x1] (by decide +kernel) rfl ?_
    refine i_al (pc' := 17) (by decide +kernel) (o_11_15 hN h0) ?_
    refine i_bl (pc' := 19) [(.iadd, 1), (.istore_n 1, 1)] [some (.ref a0), some (.int (x1 + (m (sh_r a0 15) (ix x2)))), some (.int x2)] [] (by decide +kernel) rfl ?_
    refine i_wb (fun y1 => ev_dn b z 244 19 [some (.ref a0), some (.int y1), some (.int x2)] [] (nx, mem L nx m)) (fun y1 => ?_)
    refine i_bl (pc' := 22) [(.iinc 2 (1), 3)] [some (.ref a0), some (.int y1), some (.int (x2 + 1))] [] (by decide +kernel) rfl ?_
    refine i_wb (fun y2 => ev_dn b z 244 22 [some (.ref a0), some (.int y1), some (.int y2)] [] (nx, mem L nx m)) (fun y2 => ?_)
    refine i_go (t := 4) (off := -18) (by decide +kernel) ?_
    exact i_co () rfl

theorem t_244_4 {L nx : Nat} (hN : okn nx) {b z : Nat} {m : Mm} {a0 : Nat} (h0 : ok nx a0 11) {x1 : Int32} {x2 : Int32}  : Im (d_244_4 a0 m x1 x2) (kI L nx m) (ev_dn b z 244 4 [some (.ref a0), some (.int x1), some (.int x2)] [] (nx, mem L nx m)) := by
  exact i_it (f := fun s => s_244_4 a0 m s.1 s.2) (E := E_244_4 L nx b z a0 m) (K := (kI L nx m)) (fun d s => u_244_4 hN (h0 := h0)) () (x1, x2)
noncomputable def d_244 (a0 : Nat) (m : Mm) : Option Int32 := d_244_4 a0 m 0 0
theorem t_244 {L nx : Nat} (hN : okn nx) {b z : Nat} {m : Mm} {a0 : Nat} (h0 : ok nx a0 11)   : Im (d_244 a0 m) (kI L nx m) (ev_dn b z 244 0 [some (.ref a0), none, none] [] (nx, mem L nx m)) := by
  unfold d_244
  refine i_bl (pc' := 4) [(.iconst 0, 1), (.istore_n 1, 1), (.iconst 0, 1), (.istore_n 2, 1)] [some (.ref a0), some (.int 0), some (.int 0)] [] (by decide +kernel) rfl ?_
  exact t_244_4 hN (h0 := h0)

/-! 245 LanternChessModel.ticks()I -/
noncomputable def d_245 (a0 : Nat) (m : Mm) : Option Int32 := (d_244 a0 m).bind fun v1 => if ev_in 5 (sh_n (sh_r a0 1)) = true then (some (v1 + (6 * (m (sh_r a0 1) (ix 5))))) else none
theorem t_245 {L nx : Nat} (hN : okn nx) {b z : Nat} {m : Mm} {a0 : Nat} (h0 : ok nx a0 11)   : Im (d_245 a0 m) (kI L nx m) (ev_dn b z 245 0 [some (.ref a0)] [] (nx, mem L nx m)) := by
  unfold d_245
  refine i_bl (pc' := 1) [(.aload_n 0, 1)] [some (.ref a0)] [.ref a0] (by decide +kernel) rfl ?_
  refine i_cv (ci := 11) (t := 244) (na := 1) (ml := 3) (idx := 216) (pc' := 4) (st' := []) (en := [some (.ref a0), none, none]) (av := []) (vo := fun v => some (.int v)) (mo := fun _ => m) (s2 := fun v => .int v :: []) (by decide +kernel) (by decide +kernel) h0 ⟨rfl, rfl, rfl, rfl, rfl, rfl⟩ (fun _ => rfl) (t_244 hN (h0 := h0)) (fun v1 => ?_)
  refine i_bl (pc' := 7) [(.bipush (6), 2), (.aload_n 0, 1)] [some (.ref a0)] [.ref a0, .int 6, .int v1] (by decide +kernel) rfl ?_
  refine i_gr (idx := 7) (ci := 11) (k := 1) (t := 2) (p := 16234) (pc' := 10) (by decide +kernel) h0 ?_
  refine i_bl (pc' := 11) [(.iconst 5, 1)] [some (.ref a0)] [.int 5, .ref (sh_r a0 1), .int 6, .int v1] (by decide +kernel) rfl ?_
  refine i_al (pc' := 12) (by decide +kernel) (o_11_1 hN h0) ?_
  refine i_bl (pc' := 14) [(.imul, 1), (.iadd, 1)] [some (.ref a0)] [.int (v1 + (6 * (m (sh_r a0 1) (ix 5))))] (by decide +kernel) rfl ?_
  exact i_ri (by decide +kernel) rfl

/-! 246 LanternChessModel.glimpses(I)I -/
noncomputable def E_246_7 (L nx b z : Nat) (a0 : Nat) (d : Option Value) (s : (Int32 × Int32 × Int32 × Mm)) : ev_Q := ev_dn b z 246 7 [some (.ref a0), d, some (.int s.1), some (.int s.2.1), some (.int s.2.2.1)] [] (nx, mem L nx s.2.2.2)
noncomputable def s_246_7 (a0 : Nat) (x2 : Int32) (x3 : Int32) (x4 : Int32) (m : Mm) : Option ((Int32 × Int32 × Int32 × Mm) ⊕ (Int32 × Mm)) := if 6 ≤ x4 then (some (.inr (x3, m))) else (if ev_in x4 (sh_n (sh_r a0 15)) = true then ((d_234 a0 x2 (m (sh_r a0 15) (ix x4)) m).bind fun v1 => if ev_in x4 (sh_n (sh_r a0 16)) = true then (wb (wr m (sh_r a0 16) (ix x4) v1) fun m2 => if ev_in x4 (sh_n (sh_r a0 15)) = true then (if ev_in 5 (sh_n (sh_r a0 1)) = true then (wb ((x2 + (m2 (sh_r a0 15) (ix x4))) + (m2 (sh_r a0 1) (ix 5))) fun y3 => if ev_in x4 (sh_n (sh_r a0 16)) = true then (wb (x3 + (m2 (sh_r a0 16) (ix x4))) fun y4 => wb (x4 + 1) fun y5 => some (.inl (y3, y4, y5, m2))) else none) else none) else none) else none) else none)
noncomputable def d_246_7 (a0 : Nat) (x2 : Int32) (x3 : Int32) (x4 : Int32) (m : Mm) : Option (Int32 × Mm) := it (fun s => s_246_7 a0 s.1 s.2.1 s.2.2.1 s.2.2.2) (x2, x3, x4, m)
theorem e_246_7 (a0 : Nat) (x2 : Int32) (x3 : Int32) (x4 : Int32) (m : Mm) : d_246_7 a0 x2 x3 x4 m = oi (s_246_7 a0 x2 x3 x4 m) (fun s => d_246_7 a0 s.1 s.2.1 s.2.2.1 s.2.2.2) := it_eq _
theorem u_246_7 {L nx : Nat} (hN : okn nx) {b z : Nat} {m : Mm} {a0 : Nat} (h0 : ok nx a0 11) {x2 : Int32} {x3 : Int32} {x4 : Int32} {o1 : Option Value} : Im (s_246_7 a0 x2 x3 x4 m) (kL (wI L nx) (E_246_7 L nx b z a0)) (ev_dn b z 246 7 [some (.ref a0), o1, some (.int x2), some (.int x3), some (.int x4)] [] (nx, mem L nx m)) := by
  unfold s_246_7
  refine i_bl (pc' := 11) [(.iload 4, 2), (.bipush (6), 2)] [some (.ref a0), o1, some (.int x2), some (.int x3), some (.int x4)] [.int 6, .int x4] (by decide +kernel) rfl ?_
  refine i_ic (c := .ge) (off := 55) (t := 66) (pc' := 14) (p := 6 ≤ x4) (by decide +kernel) rfl ?_ ?_
  · refine i_bl (pc' := 67) [(.iload_n 3, 1)] [some (.ref a0), o1, some (.int x2), some (.int x3), some (.int x4)] [.int x3] (by decide +kernel) rfl ?_
    exact i_ir (i_ri (by decide +kernel) rfl)
  · refine i_bl (pc' := 15) [(.aload_n 0, 1)] [some (.ref a0), o1, some (.int x2), some (.int x3), some (.int x4)] [.ref a0] (by decide +kernel) rfl ?_
    refine i_gr (idx := 49) (ci := 11) (k := 16) (t := 2) (p := 17009) (pc' := 18) (by decide +kernel) h0 ?_
    refine i_bl (pc' := 23) [(.iload 4, 2), (.aload_n 0, 1), (.iload_n 2, 1), (.aload_n 0, 1)] [some (.ref a0), o1, some (.int x2), some (.int x3), some (.int x4)] [.ref a0, .int x2, .ref a0, .int x4, .ref (sh_r a0 16)] (by decide +kernel) rfl ?_
    refine i_gr (idx := 46) (ci := 11) (k := 15) (t := 2) (p := 17008) (pc' := 26) (by decide +kernel) h0 ?_
    refine i_bl (pc' := 28) [(.iload 4, 2)] [some (.ref a0), o1, some (.int x2), some (.int x3), some (.int x4)] [.int x4, .ref (sh_r a0 15), .int x2, .ref a0, .int x4, .ref (sh_r a0 16)] (by decide +kernel) rfl ?_
    refine i_al (pc' := 29) (by decide +kernel) (o_11_15 hN h0) ?_
    refine i_cv (ci := 11) (t := 234) (na := 3) (ml := 5) (idx := 204) (pc' := 32) (st' := [.int x4, .ref (sh_r a0 16)]) (en := [some (.ref a0), some (.int x2), some (.int (m (sh_r a0 15) (ix x4))), none, none]) (av := [.int x2, .int (m (sh_r a0 15) (ix x4))]) (vo := fun v => some (.int v)) (mo := fun _ => m) (s2 := fun v => .int v :: [.int x4, .ref (sh_r a0 16)]) (by decide +kernel) (by decide +kernel) h0 ⟨rfl, rfl, rfl, rfl, rfl, rfl⟩ (fun _ => rfl) (t_234 hN (h0 := h0)) (fun v1 => ?_)
    refine i_as (y := v1) (pc' := 33) (by decide +kernel) (o_11_16 hN h0) (fun m2 => ?_)
    refine i_bl (pc' := 35) [(.iload_n 2, 1), (.aload_n 0, 1)] [some (.ref a0), o1, some (.int x2), some (.int x3), some (.int x4)] [.ref a0, .int x2] (by decide +kernel) rfl ?_
    refine i_gr (idx := 46) (ci := 11) (k := 15) (t := 2) (p := 17008) (pc' := 38) (by decide +kernel) h0 ?_
    refine i_bl (pc' := 40) [(.iload 4, 2)] [some (.ref a0), o1, some (.int x2), some (.int x3), some (.int x4)] [.int x4, .ref (sh_r a0 15), .int x2] (by decide +kernel) rfl ?_
    refine i_al (pc' := 41) (by decide +kernel) (o_11_15 hN h0) ?_
    refine i_bl (pc' := 43) [(.iadd, 1), (.aload_n 0, 1)] [some (.ref a0), o1, some (.int x2), some (.int x3), some (.int x4)] [.ref a0, .int (x2 + (m2 (sh_r a0 15) (ix x4)))] (by decide +kernel) rfl ?_
    refine i_gr (idx := 7) (ci := 11) (k := 1) (t := 2) (p := 16234) (pc' := 46) (by decide +kernel) h0 ?_
    refine i_bl (pc' := 47) [(.iconst 5, 1)] [some (.ref a0), o1, some (.int x2), some (.int x3), some (.int x4)] [.int 5, .ref (sh_r a0 1), .int (x2 + (m2 (sh_r a0 15) (ix x4)))] (by decide +kernel) rfl ?_
    refine i_al (pc' := 48) (by decide +kernel) (o_11_1 hN h0) ?_
    refine i_bl (pc' := 50) [(.iadd, 1), (.istore_n 2, 1)] [some (.ref a0), (ev_kl o1), some (.int ((x2 + (m2 (sh_r a0 15) (ix x4))) + (m2 (sh_r a0 1) (ix 5)))), some (.int x3), some (.int x4)] [] (by decide +kernel) rfl ?_
    refine i_wb (fun y3 => ev_dn b z 246 50 [some (.ref a0), (ev_kl o1), some (.int y3), some (.int x3), some (.int x4)] [] (nx, mem L nx m2)) (fun y3 => ?_)
    refine i_bl (pc' := 52) [(.iload_n 3, 1), (.aload_n 0, 1)] [some (.ref a0), (ev_kl o1), some (.int y3), some (.int x3), some (.int x4)] [.ref a0, .int x3] (by decide +kernel) rfl ?_
    refine i_gr (idx := 49) (ci := 11) (k := 16) (t := 2) (p := 17009) (pc' := 55) (by decide +kernel) h0 ?_
    refine i_bl (pc' := 57) [(.iload 4, 2)] [some (.ref a0), (ev_kl o1), some (.int y3), some (.int x3), some (.int x4)] [.int x4, .ref (sh_r a0 16), .int x3] (by decide +kernel) rfl ?_
    refine i_al (pc' := 58) (by decide +kernel) (o_11_16 hN h0) ?_
    refine i_bl (pc' := 60) [(.iadd, 1), (.istore_n 3, 1)] [some (.ref a0), (ev_kl o1), some (.int y3), some (.int (x3 + (m2 (sh_r a0 16) (ix x4)))), some (.int x4)] [] (by decide +kernel) rfl ?_
    refine i_wb (fun y4 => ev_dn b z 246 60 [some (.ref a0), (ev_kl o1), some (.int y3), some (.int y4), some (.int x4)] [] (nx, mem L nx m2)) (fun y4 => ?_)
    refine i_bl (pc' := 63) [(.iinc 4 (1), 3)] [some (.ref a0), (ev_kl o1), some (.int y3), some (.int y4), some (.int (x4 + 1))] [] (by decide +kernel) rfl ?_
    refine i_wb (fun y5 => ev_dn b z 246 63 [some (.ref a0), (ev_kl o1), some (.int y3), some (.int y4), some (.int y5)] [] (nx, mem L nx m2)) (fun y5 => ?_)
    refine i_go (t := 7) (off := -56) (by decide +kernel) ?_
    exact i_co ((ev_kl o1)) rfl

theorem t_246_7 {L nx : Nat} (hN : okn nx) {b z : Nat} {m : Mm} {a0 : Nat} (h0 : ok nx a0 11) {x2 : Int32} {x3 : Int32} {x4 : Int32} {o1 : Option Value} : Im (d_246_7 a0 x2 x3 x4 m) (wI L nx) (ev_dn b z 246 7 [some (.ref a0), o1, some (.int x2), some (.int x3), some (.int x4)] [] (nx, mem L nx m)) := by
  exact i_it (f := fun s => s_246_7 a0 s.1 s.2.1 s.2.2.1 s.2.2.2) (E := E_246_7 L nx b z a0) (K := (wI L nx)) (fun d s => u_246_7 hN (h0 := h0)) (o1) (x2, x3, x4, m)
noncomputable def d_246 (a0 : Nat) (x1 : Int32) (m : Mm) : Option (Int32 × Mm) := d_246_7 a0 x1 0 0 m
theorem t_246 {L nx : Nat} (hN : okn nx) {b z : Nat} {m : Mm} {a0 : Nat} (h0 : ok nx a0 11) {x1 : Int32}  : Im (d_246 a0 x1 m) (wI L nx) (ev_dn b z 246 0 [some (.ref a0), some (.int x1), none, none, none] [] (nx, mem L nx m)) := by
  unfold d_246
  refine i_bl (pc' := 7) [(.iload_n 1, 1), (.istore_n 2, 1), (.iconst 0, 1), (.istore_n 3, 1), (.iconst 0, 1), (.istore 4, 2)] [some (.ref a0), some (.int x1), some (.int x1), some (.int 0), some (.int 0)] [] (by decide +kernel) rfl ?_
  exact t_246_7 hN (h0 := h0)

/-! 247 LanternChessModel.areCells()Z -/
noncomputable def d_247 (a0 : Nat) (m : Mm) : Option Bool := if ev_in 1 (sh_n (sh_r a0 16)) = true then (if ev_in 0 (sh_n (sh_r a0 1)) = true then ((d_185 (m (sh_r a0 16) (ix 1)) 1 (m (sh_r a0 1) (ix 0))).bind fun v1 => if v1 = true then (if ev_in 2 (sh_n (sh_r a0 16)) = true then (if ev_in 1 (sh_n (sh_r a0 1)) = true then ((d_185 (m (sh_r a0 16) (ix 2)) 1 (m (sh_r a0 1) (ix 1))).bind fun v2 => if v2 = true then (if ev_in 3 (sh_n (sh_r a0 16)) = true then (if ev_in 0 (sh_n (sh_r a0 1)) = true then ((d_185 (m (sh_r a0 16) (ix 3)) 1 (m (sh_r a0 1) (ix 0))).bind fun v3 => if v3 = true then (if ev_in 4 (sh_n (sh_r a0 16)) = true then (if ev_in 1 (sh_n (sh_r a0 1)) = true then ((d_185 (m (sh_r a0 16) (ix 4)) 1 (m (sh_r a0 1) (ix 1))).bind fun v4 => if v4 = true then (some true) else (some false)) else none) else none) else (some false)) else none) else none) else (some false)) else none) else none) else (some false)) else none) else none
theorem t_247 {L nx : Nat} (hN : okn nx) {b z : Nat} {m : Mm} {a0 : Nat} (h0 : ok nx a0 11)   : Im (d_247 a0 m) (kZ L nx m) (ev_dn b z 247 0 [some (.ref a0)] [] (nx, mem L nx m)) := by
  unfold d_247
  refine i_bl (pc' := 1) [(.aload_n 0, 1)] [some (.ref a0)] [.ref a0] (by decide +kernel) rfl ?_
  refine i_gr (idx := 49) (ci := 11) (k := 16) (t := 2) (p := 17009) (pc' := 4) (by decide +kernel) h0 ?_
  refine i_bl (pc' := 5) [(.iconst 1, 1)] [some (.ref a0)] [.int 1, .ref (sh_r a0 16)] (by decide +kernel) rfl ?_
  refine i_al (pc' := 6) (by decide +kernel) (o_11_16 hN h0) ?_
  refine i_bl (pc' := 9) [(.i2l, 1), (.lconst 1, 1), (.aload_n 0, 1)] [some (.ref a0)] [.ref a0, .long (1 : Int32).toInt64, .long (m (sh_r a0 16) (ix 1)).toInt64] (by decide +kernel) rfl ?_
  refine i_gr (idx := 7) (ci := 11) (k := 1) (t := 2) (p := 16234) (pc' := 12) (by decide +kernel) h0 ?_
  refine i_bl (pc' := 13) [(.iconst 0, 1)] [some (.ref a0)] [.int 0, .ref (sh_r a0 1), .long (1 : Int32).toInt64, .long (m (sh_r a0 16) (ix 1)).toInt64] (by decide +kernel) rfl ?_
  refine i_al (pc' := 14) (by decide +kernel) (o_11_1 hN h0) ?_
  refine i_bl (pc' := 15) [(.i2l, 1)] [some (.ref a0)] [.long (m (sh_r a0 1) (ix 0)).toInt64, .long (1 : Int32).toInt64, .long (m (sh_r a0 16) (ix 1)).toInt64] (by decide +kernel) rfl ?_
  refine i_cs (t := 185) (na := 3) (ml := 6) (idx := 148) (pc' := 18) (st' := []) (en := [some (.long (m (sh_r a0 16) (ix 1)).toInt64), none, some (.long (1 : Int32).toInt64), none, some (.long (m (sh_r a0 1) (ix 0)).toInt64), none]) (av := [.long (m (sh_r a0 16) (ix 1)).toInt64, .long (1 : Int32).toInt64, .long (m (sh_r a0 1) (ix 0)).toInt64]) (vo := fun v => some (.int (bi v))) (mo := fun _ => m) (s2 := fun v => .int (bi v) :: []) (by decide +kernel) ⟨rfl, rfl, rfl, rfl, rfl, rfl⟩ (fun _ => rfl) (t_185 hN ) (fun v1 => ?_)
  refine i_bz (off := 70) (t := 88) (pc' := 21) (by decide +kernel) ?_ ?_
  · refine i_bl (pc' := 22) [(.aload_n 0, 1)] [some (.ref a0)] [.ref a0] (by decide +kernel) rfl ?_
    refine i_gr (idx := 49) (ci := 11) (k := 16) (t := 2) (p := 17009) (pc' := 25) (by decide +kernel) h0 ?_
    refine i_bl (pc' := 26) [(.iconst 2, 1)] [some (.ref a0)] [.int 2, .ref (sh_r a0 16)] (by decide +kernel) rfl ?_
    refine i_al (pc' := 27) (by decide +kernel) (o_11_16 hN h0) ?_
    refine i_bl (pc' := 30) [(.i2l, 1), (.lconst 1, 1), (.aload_n 0, 1)] [some (.ref a0)] [.ref a0, .long (1 : Int32).toInt64, .long (m (sh_r a0 16) (ix 2)).toInt64] (by decide +kernel) rfl ?_
    refine i_gr (idx := 7) (ci := 11) (k := 1) (t := 2) (p := 16234) (pc' := 33) (by decide +kernel) h0 ?_
    refine i_bl (pc' := 34) [(.iconst 1, 1)] [some (.ref a0)] [.int 1, .ref (sh_r a0 1), .long (1 : Int32).toInt64, .long (m (sh_r a0 16) (ix 2)).toInt64] (by decide +kernel) rfl ?_
    refine i_al (pc' := 35) (by decide +kernel) (o_11_1 hN h0) ?_
    refine i_bl (pc' := 36) [(.i2l, 1)] [some (.ref a0)] [.long (m (sh_r a0 1) (ix 1)).toInt64, .long (1 : Int32).toInt64, .long (m (sh_r a0 16) (ix 2)).toInt64] (by decide +kernel) rfl ?_
    refine i_cs (t := 185) (na := 3) (ml := 6) (idx := 148) (pc' := 39) (st' := []) (en := [some (.long (m (sh_r a0 16) (ix 2)).toInt64), none, some (.long (1 : Int32).toInt64), none, some (.long (m (sh_r a0 1) (ix 1)).toInt64), none]) (av := [.long (m (sh_r a0 16) (ix 2)).toInt64, .long (1 : Int32).toInt64, .long (m (sh_r a0 1) (ix 1)).toInt64]) (vo := fun v => some (.int (bi v))) (mo := fun _ => m) (s2 := fun v => .int (bi v) :: []) (by decide +kernel) ⟨rfl, rfl, rfl, rfl, rfl, rfl⟩ (fun _ => rfl) (t_185 hN ) (fun v2 => ?_)
    refine i_bz (off := 49) (t := 88) (pc' := 42) (by decide +kernel) ?_ ?_
    · refine i_bl (pc' := 43) [(.aload_n 0, 1)] [some (.ref a0)] [.ref a0] (by decide +kernel) rfl ?_
      refine i_gr (idx := 49) (ci := 11) (k := 16) (t := 2) (p := 17009) (pc' := 46) (by decide +kernel) h0 ?_
      refine i_bl (pc' := 47) [(.iconst 3, 1)] [some (.ref a0)] [.int 3, .ref (sh_r a0 16)] (by decide +kernel) rfl ?_
      refine i_al (pc' := 48) (by decide +kernel) (o_11_16 hN h0) ?_
      refine i_bl (pc' := 51) [(.i2l, 1), (.lconst 1, 1), (.aload_n 0, 1)] [some (.ref a0)] [.ref a0, .long (1 : Int32).toInt64, .long (m (sh_r a0 16) (ix 3)).toInt64] (by decide +kernel) rfl ?_
      refine i_gr (idx := 7) (ci := 11) (k := 1) (t := 2) (p := 16234) (pc' := 54) (by decide +kernel) h0 ?_
      refine i_bl (pc' := 55) [(.iconst 0, 1)] [some (.ref a0)] [.int 0, .ref (sh_r a0 1), .long (1 : Int32).toInt64, .long (m (sh_r a0 16) (ix 3)).toInt64] (by decide +kernel) rfl ?_
      refine i_al (pc' := 56) (by decide +kernel) (o_11_1 hN h0) ?_
      refine i_bl (pc' := 57) [(.i2l, 1)] [some (.ref a0)] [.long (m (sh_r a0 1) (ix 0)).toInt64, .long (1 : Int32).toInt64, .long (m (sh_r a0 16) (ix 3)).toInt64] (by decide +kernel) rfl ?_
      refine i_cs (t := 185) (na := 3) (ml := 6) (idx := 148) (pc' := 60) (st' := []) (en := [some (.long (m (sh_r a0 16) (ix 3)).toInt64), none, some (.long (1 : Int32).toInt64), none, some (.long (m (sh_r a0 1) (ix 0)).toInt64), none]) (av := [.long (m (sh_r a0 16) (ix 3)).toInt64, .long (1 : Int32).toInt64, .long (m (sh_r a0 1) (ix 0)).toInt64]) (vo := fun v => some (.int (bi v))) (mo := fun _ => m) (s2 := fun v => .int (bi v) :: []) (by decide +kernel) ⟨rfl, rfl, rfl, rfl, rfl, rfl⟩ (fun _ => rfl) (t_185 hN ) (fun v3 => ?_)
      refine i_bz (off := 28) (t := 88) (pc' := 63) (by decide +kernel) ?_ ?_
      · refine i_bl (pc' := 64) [(.aload_n 0, 1)] [some (.ref a0)] [.ref a0] (by decide +kernel) rfl ?_
        refine i_gr (idx := 49) (ci := 11) (k := 16) (t := 2) (p := 17009) (pc' := 67) (by decide +kernel) h0 ?_
        refine i_bl (pc' := 68) [(.iconst 4, 1)] [some (.ref a0)] [.int 4, .ref (sh_r a0 16)] (by decide +kernel) rfl ?_
        refine i_al (pc' := 69) (by decide +kernel) (o_11_16 hN h0) ?_
        refine i_bl (pc' := 72) [(.i2l, 1), (.lconst 1, 1), (.aload_n 0, 1)] [some (.ref a0)] [.ref a0, .long (1 : Int32).toInt64, .long (m (sh_r a0 16) (ix 4)).toInt64] (by decide +kernel) rfl ?_
        refine i_gr (idx := 7) (ci := 11) (k := 1) (t := 2) (p := 16234) (pc' := 75) (by decide +kernel) h0 ?_
        refine i_bl (pc' := 76) [(.iconst 1, 1)] [some (.ref a0)] [.int 1, .ref (sh_r a0 1), .long (1 : Int32).toInt64, .long (m (sh_r a0 16) (ix 4)).toInt64] (by decide +kernel) rfl ?_
        refine i_al (pc' := 77) (by decide +kernel) (o_11_1 hN h0) ?_
        refine i_bl (pc' := 78) [(.i2l, 1)] [some (.ref a0)] [.long (m (sh_r a0 1) (ix 1)).toInt64, .long (1 : Int32).toInt64, .long (m (sh_r a0 16) (ix 4)).toInt64] (by decide +kernel) rfl ?_
        refine i_cs (t := 185) (na := 3) (ml := 6) (idx := 148) (pc' := 81) (st' := []) (en := [some (.long (m (sh_r a0 16) (ix 4)).toInt64), none, some (.long (1 : Int32).toInt64), none, some (.long (m (sh_r a0 1) (ix 1)).toInt64), none]) (av := [.long (m (sh_r a0 16) (ix 4)).toInt64, .long (1 : Int32).toInt64, .long (m (sh_r a0 1) (ix 1)).toInt64]) (vo := fun v => some (.int (bi v))) (mo := fun _ => m) (s2 := fun v => .int (bi v) :: []) (by decide +kernel) ⟨rfl, rfl, rfl, rfl, rfl, rfl⟩ (fun _ => rfl) (t_185 hN ) (fun v4 => ?_)
        refine i_bz (off := 7) (t := 88) (pc' := 84) (by decide +kernel) ?_ ?_
        · refine i_bl (pc' := 85) [(.iconst 1, 1)] [some (.ref a0)] [.int 1] (by decide +kernel) rfl ?_
          refine i_go (t := 89) (off := 4) (by decide +kernel) ?_
          exact i_rz (B := true) (by decide +kernel) rfl
        · refine i_bl (pc' := 89) [(.iconst 0, 1)] [some (.ref a0)] [.int 0] (by decide +kernel) rfl ?_
          exact i_rz (B := false) (by decide +kernel) rfl
      · refine i_bl (pc' := 89) [(.iconst 0, 1)] [some (.ref a0)] [.int 0] (by decide +kernel) rfl ?_
        exact i_rz (B := false) (by decide +kernel) rfl
    · refine i_bl (pc' := 89) [(.iconst 0, 1)] [some (.ref a0)] [.int 0] (by decide +kernel) rfl ?_
      exact i_rz (B := false) (by decide +kernel) rfl
  · refine i_bl (pc' := 89) [(.iconst 0, 1)] [some (.ref a0)] [.int 0] (by decide +kernel) rfl ?_
    exact i_rz (B := false) (by decide +kernel) rfl

/-! 248 LanternChessModel.glimpsedFrom()I -/
noncomputable def d_248 (a0 : Nat) (m : Mm) : Option Int32 := if ev_in 1 (sh_n (sh_r a0 16)) = true then (if ev_in 2 (sh_n (sh_r a0 16)) = true then ((d_214 a0 ((m (sh_r a0 16) (ix 1)) - 1) ((m (sh_r a0 16) (ix 2)) - 1) m).bind fun v1 => some v1) else none) else none
theorem t_248 {L nx : Nat} (hN : okn nx) {b z : Nat} {m : Mm} {a0 : Nat} (h0 : ok nx a0 11)   : Im (d_248 a0 m) (kI L nx m) (ev_dn b z 248 0 [some (.ref a0)] [] (nx, mem L nx m)) := by
  unfold d_248
  refine i_bl (pc' := 2) [(.aload_n 0, 1), (.aload_n 0, 1)] [some (.ref a0)] [.ref a0, .ref a0] (by decide +kernel) rfl ?_
  refine i_gr (idx := 49) (ci := 11) (k := 16) (t := 2) (p := 17009) (pc' := 5) (by decide +kernel) h0 ?_
  refine i_bl (pc' := 6) [(.iconst 1, 1)] [some (.ref a0)] [.int 1, .ref (sh_r a0 16), .ref a0] (by decide +kernel) rfl ?_
  refine i_al (pc' := 7) (by decide +kernel) (o_11_16 hN h0) ?_
  refine i_bl (pc' := 10) [(.iconst 1, 1), (.isub, 1), (.aload_n 0, 1)] [some (.ref a0)] [.ref a0, .int ((m (sh_r a0 16) (ix 1)) - 1), .ref a0] (by decide +kernel) rfl ?_
  refine i_gr (idx := 49) (ci := 11) (k := 16) (t := 2) (p := 17009) (pc' := 13) (by decide +kernel) h0 ?_
  refine i_bl (pc' := 14) [(.iconst 2, 1)] [some (.ref a0)] [.int 2, .ref (sh_r a0 16), .int ((m (sh_r a0 16) (ix 1)) - 1), .ref a0] (by decide +kernel) rfl ?_
  refine i_al (pc' := 15) (by decide +kernel) (o_11_16 hN h0) ?_
  refine i_bl (pc' := 17) [(.iconst 1, 1), (.isub, 1)] [some (.ref a0)] [.int ((m (sh_r a0 16) (ix 2)) - 1), .int ((m (sh_r a0 16) (ix 1)) - 1), .ref a0] (by decide +kernel) rfl ?_
  refine i_cv (ci := 11) (t := 214) (na := 3) (ml := 3) (idx := 168) (pc' := 20) (st' := []) (en := [some (.ref a0), some (.int ((m (sh_r a0 16) (ix 1)) - 1)), some (.int ((m (sh_r a0 16) (ix 2)) - 1))]) (av := [.int ((m (sh_r a0 16) (ix 1)) - 1), .int ((m (sh_r a0 16) (ix 2)) - 1)]) (vo := fun v => some (.int v)) (mo := fun _ => m) (s2 := fun v => .int v :: []) (by decide +kernel) (by decide +kernel) h0 ⟨rfl, rfl, rfl, rfl, rfl, rfl⟩ (fun _ => rfl) (t_214 hN (h0 := h0)) (fun v1 => ?_)
  exact i_ri (by decide +kernel) rfl

/-! 249 LanternChessModel.glimpsedTo()I -/
noncomputable def d_249 (a0 : Nat) (m : Mm) : Option Int32 := if ev_in 3 (sh_n (sh_r a0 16)) = true then (if ev_in 4 (sh_n (sh_r a0 16)) = true then ((d_214 a0 ((m (sh_r a0 16) (ix 3)) - 1) ((m (sh_r a0 16) (ix 4)) - 1) m).bind fun v1 => some v1) else none) else none
theorem t_249 {L nx : Nat} (hN : okn nx) {b z : Nat} {m : Mm} {a0 : Nat} (h0 : ok nx a0 11)   : Im (d_249 a0 m) (kI L nx m) (ev_dn b z 249 0 [some (.ref a0)] [] (nx, mem L nx m)) := by
  unfold d_249
  refine i_bl (pc' := 2) [(.aload_n 0, 1), (.aload_n 0, 1)] [some (.ref a0)] [.ref a0, .ref a0] (by decide +kernel) rfl ?_
  refine i_gr (idx := 49) (ci := 11) (k := 16) (t := 2) (p := 17009) (pc' := 5) (by decide +kernel) h0 ?_
  refine i_bl (pc' := 6) [(.iconst 3, 1)] [some (.ref a0)] [.int 3, .ref (sh_r a0 16), .ref a0] (by decide +kernel) rfl ?_
  refine i_al (pc' := 7) (by decide +kernel) (o_11_16 hN h0) ?_
  refine i_bl (pc' := 10) [(.iconst 1, 1), (.isub, 1), (.aload_n 0, 1)] [some (.ref a0)] [.ref a0, .int ((m (sh_r a0 16) (ix 3)) - 1), .ref a0] (by decide +kernel) rfl ?_
  refine i_gr (idx := 49) (ci := 11) (k := 16) (t := 2) (p := 17009) (pc' := 13) (by decide +kernel) h0 ?_
  refine i_bl (pc' := 14) [(.iconst 4, 1)] [some (.ref a0)] [.int 4, .ref (sh_r a0 16), .int ((m (sh_r a0 16) (ix 3)) - 1), .ref a0] (by decide +kernel) rfl ?_
  refine i_al (pc' := 15) (by decide +kernel) (o_11_16 hN h0) ?_
  refine i_bl (pc' := 17) [(.iconst 1, 1), (.isub, 1)] [some (.ref a0)] [.int ((m (sh_r a0 16) (ix 4)) - 1), .int ((m (sh_r a0 16) (ix 3)) - 1), .ref a0] (by decide +kernel) rfl ?_
  refine i_cv (ci := 11) (t := 214) (na := 3) (ml := 3) (idx := 168) (pc' := 20) (st' := []) (en := [some (.ref a0), some (.int ((m (sh_r a0 16) (ix 3)) - 1)), some (.int ((m (sh_r a0 16) (ix 4)) - 1))]) (av := [.int ((m (sh_r a0 16) (ix 3)) - 1), .int ((m (sh_r a0 16) (ix 4)) - 1)]) (vo := fun v => some (.int v)) (mo := fun _ => m) (s2 := fun v => .int v :: []) (by decide +kernel) (by decide +kernel) h0 ⟨rfl, rfl, rfl, rfl, rfl, rfl⟩ (fun _ => rfl) (t_214 hN (h0 := h0)) (fun v1 => ?_)
  exact i_ri (by decide +kernel) rfl

/-! 250 LanternChessModel.reading()I -/
noncomputable def d_250_163 (a0 : Nat) (x1 : Int32) (x2 : Int32) (x3 : Int32) (x4 : Int32) (m : Mm) : Option Int32 := (d_195 x2).bind fun v8 => (d_203 a0 v8 x1 x3 x4 m).bind fun v9 => if v9 = true then (some 3) else (some 0)
theorem t_250_163 {L nx : Nat} (hN : okn nx) {b z : Nat} {m : Mm} {a0 : Nat} (h0 : ok nx a0 11) {x1 : Int32} {x2 : Int32} {x3 : Int32} {x4 : Int32}  : Im (d_250_163 a0 x1 x2 x3 x4 m) (kI L nx m) (ev_dn b z 250 163 [some (.ref a0), some (.int x1), some (.int x2), some (.int x3), some (.int x4)] [] (nx, mem L nx m)) := by
  unfold d_250_163
  refine i_bl (pc' := 165) [(.aload_n 0, 1), (.iload_n 2, 1)] [some (.ref a0), some (.int x1), some (.int x2), some (.int x3), some (.int x4)] [.int x2, .ref a0] (by decide +kernel) rfl ?_
  refine i_cs (t := 195) (na := 1) (ml := 1) (idx := 231) (pc' := 168) (st' := [.ref a0]) (en := [some (.int x2)]) (av := [.int x2]) (vo := fun v => some (.int v)) (mo := fun _ => m) (s2 := fun v => .int v :: [.ref a0]) (by decide +kernel) ⟨rfl, rfl, rfl, rfl, rfl, rfl⟩ (fun _ => rfl) (t_195 hN ) (fun v8 => ?_)
  refine i_bl (pc' := 172) [(.iload_n 1, 1), (.iload_n 3, 1), (.iload 4, 2)] [some (.ref a0), some (.int x1), some (.int x2), some (.int x3), some (.int x4)] [.int x4, .int x3, .int x1, .int v8, .ref a0] (by decide +kernel) rfl ?_
  refine i_cv (ci := 11) (t := 203) (na := 5) (ml := 7) (idx := 129) (pc' := 175) (st' := []) (en := [some (.ref a0), some (.int v8), some (.int x1), some (.int x3), some (.int x4), none, none]) (av := [.int v8, .int x1, .int x3, .int x4]) (vo := fun v => some (.int (bi v))) (mo := fun _ => m) (s2 := fun v => .int (bi v) :: []) (by decide +kernel) (by decide +kernel) h0 ⟨rfl, rfl, rfl, rfl, rfl, rfl⟩ (fun _ => rfl) (t_203 hN (h0 := h0)) (fun v9 => ?_)
  refine i_bz (off := 7) (t := 182) (pc' := 178) (by decide +kernel) ?_ ?_
  · refine i_bl (pc' := 179) [(.iconst 3, 1)] [some (.ref a0), some (.int x1), some (.int x2), some (.int x3), some (.int x4)] [.int 3] (by decide +kernel) rfl ?_
    refine i_go (t := 183) (off := 4) (by decide +kernel) ?_
    exact i_ri (by decide +kernel) rfl
  · refine i_bl (pc' := 183) [(.iconst 0, 1)] [some (.ref a0), some (.int x1), some (.int x2), some (.int x3), some (.int x4)] [.int 0] (by decide +kernel) rfl ?_
    exact i_ri (by decide +kernel) rfl

noncomputable def d_250 (a0 : Nat) (m : Mm) : Option Int32 := if ev_in 3 (sh_n (sh_r a0 1)) = true then (wb (m (sh_r a0 1) (ix 3)) fun y1 => wb (1 - y1) fun y2 => if ev_in 0 (sh_n (sh_r a0 16)) = true then ((d_185 (m (sh_r a0 16) (ix 0)) 1 2).bind fun v3 => if v3 = true then ((d_247 a0 m).bind fun v4 => if v4 = true then (if ev_in 5 (sh_n (sh_r a0 16)) = true then ((d_242 (sh_r a0 16) m).bind fun v5 => if (m (sh_r a0 16) (ix 5)) = v5 then ((d_248 a0 m).bind fun v6 => (d_249 a0 m).bind fun v7 => if ev_in 0 (sh_n (sh_r a0 16)) = true then (if ev_in (9 + y2) (sh_n (sh_r a0 1)) = true then (if ¬ (m (sh_r a0 16) (ix 0)) = (1 + ((m (sh_r a0 1) (ix (9 + y2))) - (m (sh_r a0 1) (ix (9 + y2))) / 2 * 2)) then (if ev_in (9 + y2) (sh_n (sh_r a0 1)) = true then (if (m (sh_r a0 1) (ix (9 + y2))) = 0 then (some 0) else (if ev_in (17 + y2) (sh_n (sh_r a0 1)) = true then (if (m (sh_r a0 1) (ix (17 + y2))) = y1 then (if ev_in (19 + y2) (sh_n (sh_r a0 1)) = true then (if ¬ (m (sh_r a0 1) (ix (19 + y2))) = v6 then (d_250_163 a0 y1 y2 v6 v7 m) else (if ev_in (21 + y2) (sh_n (sh_r a0 1)) = true then (if ¬ (m (sh_r a0 1) (ix (21 + y2))) = v7 then (d_250_163 a0 y1 y2 v6 v7 m) else (some 2)) else none)) else none) else (some 0)) else none)) else none) else ((d_194 y2).bind fun v10 => (d_203 a0 v10 y1 v6 v7 m).bind fun v11 => if v11 = true then (some 1) else (some 0))) else none) else none) else (some 0)) else none) else (some 0)) else (some 0)) else none) else none
theorem t_250 {L nx : Nat} (hN : okn nx) {b z : Nat} {m : Mm} {a0 : Nat} (h0 : ok nx a0 11)   : Im (d_250 a0 m) (kI L nx m) (ev_dn b z 250 0 [some (.ref a0), none, none, none, none] [] (nx, mem L nx m)) := by
  unfold d_250
  refine i_bl (pc' := 1) [(.aload_n 0, 1)] [some (.ref a0), none, none, none, none] [.ref a0] (by decide +kernel) rfl ?_
  refine i_gr (idx := 7) (ci := 11) (k := 1) (t := 2) (p := 16234) (pc' := 4) (by decide +kernel) h0 ?_
  refine i_bl (pc' := 5) [(.iconst 3, 1)] [some (.ref a0), none, none, none, none] [.int 3, .ref (sh_r a0 1)] (by decide +kernel) rfl ?_
  refine i_al (pc' := 6) (by decide +kernel) (o_11_1 hN h0) ?_
  refine i_bl (pc' := 7) [(.istore_n 1, 1)] [some (.ref a0), some (.int (m (sh_r a0 1) (ix 3))), none, none, none] [] (by decide +kernel) rfl ?_
  refine i_wb (fun y1 => ev_dn b z 250 7 [some (.ref a0), some (.int y1), none, none, none] [] (nx, mem L nx m)) (fun y1 => ?_)
  refine i_bl (pc' := 11) [(.iconst 1, 1), (.iload_n 1, 1), (.isub, 1), (.istore_n 2, 1)] [some (.ref a0), some (.int y1), some (.int (1 - y1)), none, none] [] (by decide +kernel) rfl ?_
  refine i_wb (fun y2 => ev_dn b z 250 11 [some (.ref a0), some (.int y1), some (.int y2), none, none] [] (nx, mem L nx m)) (fun y2 => ?_)
  refine i_bl (pc' := 12) [(.aload_n 0, 1)] [some (.ref a0), some (.int y1), some (.int y2), none, none] [.ref a0] (by decide +kernel) rfl ?_
  refine i_gr (idx := 49) (ci := 11) (k := 16) (t := 2) (p := 17009) (pc' := 15) (by decide +kernel) h0 ?_
  refine i_bl (pc' := 16) [(.iconst 0, 1)] [some (.ref a0), some (.int y1), some (.int y2), none, none] [.int 0, .ref (sh_r a0 16)] (by decide +kernel) rfl ?_
  refine i_al (pc' := 17) (by decide +kernel) (o_11_16 hN h0) ?_
  refine i_bl (pc' := 19) [(.i2l, 1), (.lconst 1, 1)] [some (.ref a0), some (.int y1), some (.int y2), none, none] [.long (1 : Int32).toInt64, .long (m (sh_r a0 16) (ix 0)).toInt64] (by decide +kernel) rfl ?_
  refine i_l2 (idx := 219) (p := 18113) (x := 2) (pc' := 22) (by decide +kernel) ?_
  refine i_cs (t := 185) (na := 3) (ml := 6) (idx := 148) (pc' := 25) (st' := []) (en := [some (.long (m (sh_r a0 16) (ix 0)).toInt64), none, some (.long (1 : Int32).toInt64), none, some (.long (2 : Int32).toInt64), none]) (av := [.long (m (sh_r a0 16) (ix 0)).toInt64, .long (1 : Int32).toInt64, .long (2 : Int32).toInt64]) (vo := fun v => some (.int (bi v))) (mo := fun _ => m) (s2 := fun v => .int (bi v) :: []) (by decide +kernel) ⟨rfl, rfl, rfl, rfl, rfl, rfl⟩ (fun _ => rfl) (t_185 hN ) (fun v3 => ?_)
  refine i_bz (off := 26) (t := 51) (pc' := 28) (by decide +kernel) ?_ ?_
  · refine i_bl (pc' := 29) [(.aload_n 0, 1)] [some (.ref a0), some (.int y1), some (.int y2), none, none] [.ref a0] (by decide +kernel) rfl ?_
    refine i_cv (ci := 11) (t := 247) (na := 1) (ml := 1) (idx := 221) (pc' := 32) (st' := []) (en := [some (.ref a0)]) (av := []) (vo := fun v => some (.int (bi v))) (mo := fun _ => m) (s2 := fun v => .int (bi v) :: []) (by decide +kernel) (by decide +kernel) h0 ⟨rfl, rfl, rfl, rfl, rfl, rfl⟩ (fun _ => rfl) (t_247 hN (h0 := h0)) (fun v4 => ?_)
    refine i_bz (off := 19) (t := 51) (pc' := 35) (by decide +kernel) ?_ ?_
    · refine i_bl (pc' := 36) [(.aload_n 0, 1)] [some (.ref a0), some (.int y1), some (.int y2), none, none] [.ref a0] (by decide +kernel) rfl ?_
      refine i_gr (idx := 49) (ci := 11) (k := 16) (t := 2) (p := 17009) (pc' := 39) (by decide +kernel) h0 ?_
      refine i_bl (pc' := 40) [(.iconst 5, 1)] [some (.ref a0), some (.int y1), some (.int y2), none, none] [.int 5, .ref (sh_r a0 16)] (by decide +kernel) rfl ?_
      refine i_al (pc' := 41) (by decide +kernel) (o_11_16 hN h0) ?_
      refine i_bl (pc' := 42) [(.aload_n 0, 1)] [some (.ref a0), some (.int y1), some (.int y2), none, none] [.ref a0, .int (m (sh_r a0 16) (ix 5))] (by decide +kernel) rfl ?_
      refine i_gr (idx := 49) (ci := 11) (k := 16) (t := 2) (p := 17009) (pc' := 45) (by decide +kernel) h0 ?_
      refine i_cs (t := 242) (na := 1) (ml := 1) (idx := 212) (pc' := 48) (st' := [.int (m (sh_r a0 16) (ix 5))]) (en := [some (.ref (sh_r a0 16))]) (av := [.ref (sh_r a0 16)]) (vo := fun v => some (.int v)) (mo := fun _ => m) (s2 := fun v => .int v :: [.int (m (sh_r a0 16) (ix 5))]) (by decide +kernel) ⟨rfl, rfl, rfl, rfl, rfl, rfl⟩ (fun _ => rfl) (t_242 hN (h0 := (o_11_16 hN h0))) (fun v5 => ?_)
      refine i_ic (c := .eq) (off := 5) (t := 53) (pc' := 51) (p := (m (sh_r a0 16) (ix 5)) = v5) (by decide +kernel) rfl ?_ ?_
      · refine i_bl (pc' := 54) [(.aload_n 0, 1)] [some (.ref a0), some (.int y1), some (.int y2), none, none] [.ref a0] (by decide +kernel) rfl ?_
        refine i_cv (ci := 11) (t := 248) (na := 1) (ml := 1) (idx := 225) (pc' := 57) (st' := []) (en := [some (.ref a0)]) (av := []) (vo := fun v => some (.int v)) (mo := fun _ => m) (s2 := fun v => .int v :: []) (by decide +kernel) (by decide +kernel) h0 ⟨rfl, rfl, rfl, rfl, rfl, rfl⟩ (fun _ => rfl) (t_248 hN (h0 := h0)) (fun v6 => ?_)
        refine i_bl (pc' := 59) [(.istore_n 3, 1), (.aload_n 0, 1)] [some (.ref a0), some (.int y1), some (.int y2), some (.int v6), none] [.ref a0] (by decide +kernel) rfl ?_
        refine i_cv (ci := 11) (t := 249) (na := 1) (ml := 1) (idx := 228) (pc' := 62) (st' := []) (en := [some (.ref a0)]) (av := []) (vo := fun v => some (.int v)) (mo := fun _ => m) (s2 := fun v => .int v :: []) (by decide +kernel) (by decide +kernel) h0 ⟨rfl, rfl, rfl, rfl, rfl, rfl⟩ (fun _ => rfl) (t_249 hN (h0 := h0)) (fun v7 => ?_)
        refine i_bl (pc' := 65) [(.istore 4, 2), (.aload_n 0, 1)] [some (.ref a0), some (.int y1), some (.int y2), some (.int v6), some (.int v7)] [.ref a0] (by decide +kernel) rfl ?_
        refine i_gr (idx := 49) (ci := 11) (k := 16) (t := 2) (p := 17009) (pc' := 68) (by decide +kernel) h0 ?_
        refine i_bl (pc' := 69) [(.iconst 0, 1)] [some (.ref a0), some (.int y1), some (.int y2), some (.int v6), some (.int v7)] [.int 0, .ref (sh_r a0 16)] (by decide +kernel) rfl ?_
        refine i_al (pc' := 70) (by decide +kernel) (o_11_16 hN h0) ?_
        refine i_bl (pc' := 72) [(.iconst 1, 1), (.aload_n 0, 1)] [some (.ref a0), some (.int y1), some (.int y2), some (.int v6), some (.int v7)] [.ref a0, .int 1, .int (m (sh_r a0 16) (ix 0))] (by decide +kernel) rfl ?_
        refine i_gr (idx := 7) (ci := 11) (k := 1) (t := 2) (p := 16234) (pc' := 75) (by decide +kernel) h0 ?_
        refine i_bl (pc' := 79) [(.bipush (9), 2), (.iload_n 2, 1), (.iadd, 1)] [some (.ref a0), some (.int y1), some (.int y2), some (.int v6), some (.int v7)] [.int (9 + y2), .ref (sh_r a0 1), .int 1, .int (m (sh_r a0 16) (ix 0))] (by decide +kernel) rfl ?_
        refine i_al (pc' := 80) (by decide +kernel) (o_11_1 hN h0) ?_
        refine i_bl (pc' := 81) [(.iconst 2, 1)] [some (.ref a0), some (.int y1), some (.int y2), some (.int v6), some (.int v7)] [.int 2, .int (m (sh_r a0 1) (ix (9 + y2))), .int 1, .int (m (sh_r a0 16) (ix 0))] (by decide +kernel) rfl ?_
        refine i_rem0 (pc' := 82) (by decide +kernel) (by decide) ?_
        refine i_bl (pc' := 83) [(.iadd, 1)] [some (.ref a0), some (.int y1), some (.int y2), some (.int v6), some (.int v7)] [.int (1 + ((m (sh_r a0 1) (ix (9 + y2))) - (m (sh_r a0 1) (ix (9 + y2))) / 2 * 2)), .int (m (sh_r a0 16) (ix 0))] (by decide +kernel) rfl ?_
        refine i_ic (c := .ne) (off := 24) (t := 107) (pc' := 86) (p := ¬ (m (sh_r a0 16) (ix 0)) = (1 + ((m (sh_r a0 1) (ix (9 + y2))) - (m (sh_r a0 1) (ix (9 + y2))) / 2 * 2))) (by decide +kernel) rfl ?_ ?_
        · refine i_bl (pc' := 108) [(.aload_n 0, 1)] [some (.ref a0), some (.int y1), some (.int y2), some (.int v6), some (.int v7)] [.ref a0] (by decide +kernel) rfl ?_
          refine i_gr (idx := 7) (ci := 11) (k := 1) (t := 2) (p := 16234) (pc' := 111) (by decide +kernel) h0 ?_
          refine i_bl (pc' := 115) [(.bipush (9), 2), (.iload_n 2, 1), (.iadd, 1)] [some (.ref a0), some (.int y1), some (.int y2), some (.int v6), some (.int v7)] [.int (9 + y2), .ref (sh_r a0 1)] (by decide +kernel) rfl ?_
          refine i_al (pc' := 116) (by decide +kernel) (o_11_1 hN h0) ?_
          refine i_if (c := .eq) (off := 16) (t := 132) (pc' := 119) (p := (m (sh_r a0 1) (ix (9 + y2))) = 0) (by decide +kernel) rfl ?_ ?_
          · refine i_bl (pc' := 133) [(.iconst 0, 1)] [some (.ref a0), some (.int y1), some (.int y2), some (.int v6), some (.int v7)] [.int 0] (by decide +kernel) rfl ?_
            exact i_ri (by decide +kernel) rfl
          · refine i_bl (pc' := 120) [(.aload_n 0, 1)] [some (.ref a0), some (.int y1), some (.int y2), some (.int v6), some (.int v7)] [.ref a0] (by decide +kernel) rfl ?_
            refine i_gr (idx := 7) (ci := 11) (k := 1) (t := 2) (p := 16234) (pc' := 123) (by decide +kernel) h0 ?_
            refine i_bl (pc' := 127) [(.bipush (17), 2), (.iload_n 2, 1), (.iadd, 1)] [some (.ref a0), some (.int y1), some (.int y2), some (.int v6), some (.int v7)] [.int (17 + y2), .ref (sh_r a0 1)] (by decide +kernel) rfl ?_
            refine i_al (pc' := 128) (by decide +kernel) (o_11_1 hN h0) ?_
            refine i_bl (pc' := 129) [(.iload_n 1, 1)] [some (.ref a0), some (.int y1), some (.int y2), some (.int v6), some (.int v7)] [.int y1, .int (m (sh_r a0 1) (ix (17 + y2)))] (by decide +kernel) rfl ?_
            refine i_ic (c := .eq) (off := 5) (t := 134) (pc' := 132) (p := (m (sh_r a0 1) (ix (17 + y2))) = y1) (by decide +kernel) rfl ?_ ?_
            · refine i_bl (pc' := 135) [(.aload_n 0, 1)] [some (.ref a0), some (.int y1), some (.int y2), some (.int v6), some (.int v7)] [.ref a0] (by decide +kernel) rfl ?_
              refine i_gr (idx := 7) (ci := 11) (k := 1) (t := 2) (p := 16234) (pc' := 138) (by decide +kernel) h0 ?_
              refine i_bl (pc' := 142) [(.bipush (19), 2), (.iload_n 2, 1), (.iadd, 1)] [some (.ref a0), some (.int y1), some (.int y2), some (.int v6), some (.int v7)] [.int (19 + y2), .ref (sh_r a0 1)] (by decide +kernel) rfl ?_
              refine i_al (pc' := 143) (by decide +kernel) (o_11_1 hN h0) ?_
              refine i_bl (pc' := 144) [(.iload_n 3, 1)] [some (.ref a0), some (.int y1), some (.int y2), some (.int v6), some (.int v7)] [.int v6, .int (m (sh_r a0 1) (ix (19 + y2)))] (by decide +kernel) rfl ?_
              refine i_ic (c := .ne) (off := 19) (t := 163) (pc' := 147) (p := ¬ (m (sh_r a0 1) (ix (19 + y2))) = v6) (by decide +kernel) rfl ?_ ?_
              · exact t_250_163 hN (h0 := h0)
              · refine i_bl (pc' := 148) [(.aload_n 0, 1)] [some (.ref a0), some (.int y1), some (.int y2), some (.int v6), some (.int v7)] [.ref a0] (by decide +kernel) rfl ?_
                refine i_gr (idx := 7) (ci := 11) (k := 1) (t := 2) (p := 16234) (pc' := 151) (by decide +kernel) h0 ?_
                refine i_bl (pc' := 155) [(.bipush (21), 2), (.iload_n 2, 1), (.iadd, 1)] [some (.ref a0), some (.int y1), some (.int y2), some (.int v6), some (.int v7)] [.int (21 + y2), .ref (sh_r a0 1)] (by decide +kernel) rfl ?_
                refine i_al (pc' := 156) (by decide +kernel) (o_11_1 hN h0) ?_
                refine i_bl (pc' := 158) [(.iload 4, 2)] [some (.ref a0), some (.int y1), some (.int y2), some (.int v6), some (.int v7)] [.int v7, .int (m (sh_r a0 1) (ix (21 + y2)))] (by decide +kernel) rfl ?_
                refine i_ic (c := .ne) (off := 5) (t := 163) (pc' := 161) (p := ¬ (m (sh_r a0 1) (ix (21 + y2))) = v7) (by decide +kernel) rfl ?_ ?_
                · exact t_250_163 hN (h0 := h0)
                · refine i_bl (pc' := 162) [(.iconst 2, 1)] [some (.ref a0), some (.int y1), some (.int y2), some (.int v6), some (.int v7)] [.int 2] (by decide +kernel) rfl ?_
                  exact i_ri (by decide +kernel) rfl
            · refine i_bl (pc' := 133) [(.iconst 0, 1)] [some (.ref a0), some (.int y1), some (.int y2), some (.int v6), some (.int v7)] [.int 0] (by decide +kernel) rfl ?_
              exact i_ri (by decide +kernel) rfl
        · refine i_bl (pc' := 88) [(.aload_n 0, 1), (.iload_n 2, 1)] [some (.ref a0), some (.int y1), some (.int y2), some (.int v6), some (.int v7)] [.int y2, .ref a0] (by decide +kernel) rfl ?_
          refine i_cs (t := 194) (na := 1) (ml := 1) (idx := 165) (pc' := 91) (st' := [.ref a0]) (en := [some (.int y2)]) (av := [.int y2]) (vo := fun v => some (.int v)) (mo := fun _ => m) (s2 := fun v => .int v :: [.ref a0]) (by decide +kernel) ⟨rfl, rfl, rfl, rfl, rfl, rfl⟩ (fun _ => rfl) (t_194 hN ) (fun v10 => ?_)
          refine i_bl (pc' := 95) [(.iload_n 1, 1), (.iload_n 3, 1), (.iload 4, 2)] [some (.ref a0), some (.int y1), some (.int y2), some (.int v6), some (.int v7)] [.int v7, .int v6, .int y1, .int v10, .ref a0] (by decide +kernel) rfl ?_
          refine i_cv (ci := 11) (t := 203) (na := 5) (ml := 7) (idx := 129) (pc' := 98) (st' := []) (en := [some (.ref a0), some (.int v10), some (.int y1), some (.int v6), some (.int v7), none, none]) (av := [.int v10, .int y1, .int v6, .int v7]) (vo := fun v => some (.int (bi v))) (mo := fun _ => m) (s2 := fun v => .int (bi v) :: []) (by decide +kernel) (by decide +kernel) h0 ⟨rfl, rfl, rfl, rfl, rfl, rfl⟩ (fun _ => rfl) (t_203 hN (h0 := h0)) (fun v11 => ?_)
          refine i_bz (off := 7) (t := 105) (pc' := 101) (by decide +kernel) ?_ ?_
          · refine i_bl (pc' := 102) [(.iconst 1, 1)] [some (.ref a0), some (.int y1), some (.int y2), some (.int v6), some (.int v7)] [.int 1] (by decide +kernel) rfl ?_
            refine i_go (t := 106) (off := 4) (by decide +kernel) ?_
            exact i_ri (by decide +kernel) rfl
          · refine i_bl (pc' := 106) [(.iconst 0, 1)] [some (.ref a0), some (.int y1), some (.int y2), some (.int v6), some (.int v7)] [.int 0] (by decide +kernel) rfl ?_
            exact i_ri (by decide +kernel) rfl
      · refine i_bl (pc' := 52) [(.iconst 0, 1)] [some (.ref a0), some (.int y1), some (.int y2), none, none] [.int 0] (by decide +kernel) rfl ?_
        exact i_ri (by decide +kernel) rfl
    · refine i_bl (pc' := 52) [(.iconst 0, 1)] [some (.ref a0), some (.int y1), some (.int y2), none, none] [.int 0] (by decide +kernel) rfl ?_
      exact i_ri (by decide +kernel) rfl
  · refine i_bl (pc' := 52) [(.iconst 0, 1)] [some (.ref a0), some (.int y1), some (.int y2), none, none] [.int 0] (by decide +kernel) rfl ?_
    exact i_ri (by decide +kernel) rfl

/-! 251 LanternChessModel.makes(IIIIZ)V -/
noncomputable def E_251_15 (L nx b z : Nat) (a0 : Nat) (x1 : Int32) (x2 : Int32) (x3 : Int32) (x4 : Int32) (x5 : Bool) (x6 : Int32) (x7 : Int32) (d : Unit) (s : (Int32 × Mm)) : ev_Q := ev_dn b z 251 15 [some (.ref a0), some (.int x1), some (.int x2), some (.int x3), some (.int x4), some (.int (bi x5)), some (.int x6), some (.int x7), some (.int s.1)] [] (nx, mem L nx s.2)
noncomputable def d_251_76 (a0 : Nat) (x1 : Int32) (x2 : Int32) (x3 : Int32) (x4 : Int32) (x5 : Bool) (x6 : Int32) (m : Mm) : Option Mm := (d_206 a0 x6 x3 x4 m).bind fun m3 => if ev_in (17 + x1) (sh_n (sh_r a0 1)) = true then (wb (wr m3 (sh_r a0 1) (ix (17 + x1)) x2) fun m4 => if ev_in (19 + x1) (sh_n (sh_r a0 1)) = true then (wb (wr m4 (sh_r a0 1) (ix (19 + x1)) x3) fun m5 => if ev_in (21 + x1) (sh_n (sh_r a0 1)) = true then (wb (wr m5 (sh_r a0 1) (ix (21 + x1)) x4) fun m6 => if x5 = true then (if ev_in (9 + x1) (sh_n (sh_r a0 1)) = true then (if ev_in (9 + x1) (sh_n (sh_r a0 1)) = true then (wb (wr m6 (sh_r a0 1) (ix (9 + x1)) ((m6 (sh_r a0 1) (ix (9 + x1))) + 1)) fun m7 => some m7) else none) else none) else (some m6)) else none) else none) else none
theorem t_251_76 {L nx : Nat} (hN : okn nx) {b z : Nat} {m : Mm} {a0 : Nat} (h0 : ok nx a0 11) {x1 : Int32} {x2 : Int32} {x3 : Int32} {x4 : Int32} {x5 : Bool} {x6 : Int32} {o7 : Option Value} {o8 : Option Value} : Im (d_251_76 a0 x1 x2 x3 x4 x5 x6 m) (wV L nx) (ev_dn b z 251 76 [some (.ref a0), some (.int x1), some (.int x2), some (.int x3), some (.int x4), some (.int (bi x5)), some (.int x6), o7, o8] [] (nx, mem L nx m)) := by
  unfold d_251_76
  refine i_bl (pc' := 82) [(.aload_n 0, 1), (.iload 6, 2), (.iload_n 3, 1), (.iload 4, 2)] [some (.ref a0), some (.int x1), some (.int x2), some (.int x3), some (.int x4), some (.int (bi x5)), some (.int x6), o7, o8] [.int x4, .int x3, .int x6, .ref a0] (by decide +kernel) rfl ?_
  refine i_cv (ci := 11) (t := 206) (na := 4) (ml := 5) (idx := 137) (pc' := 85) (st' := []) (en := [some (.ref a0), some (.int x6), some (.int x3), some (.int x4), none]) (av := [.int x6, .int x3, .int x4]) (vo := fun _ => none) (mo := fun m => m) (s2 := fun _ => []) (by decide +kernel) (by decide +kernel) h0 ⟨rfl, rfl, rfl, rfl, rfl, rfl⟩ (fun _ => rfl) (t_206 hN (h0 := h0)) (fun m3 => ?_)
  refine i_bl (pc' := 86) [(.aload_n 0, 1)] [some (.ref a0), some (.int x1), some (.int x2), some (.int x3), some (.int x4), some (.int (bi x5)), some (.int x6), o7, o8] [.ref a0] (by decide +kernel) rfl ?_
  refine i_gr (idx := 7) (ci := 11) (k := 1) (t := 2) (p := 16234) (pc' := 89) (by decide +kernel) h0 ?_
  refine i_bl (pc' := 94) [(.bipush (17), 2), (.iload_n 1, 1), (.iadd, 1), (.iload_n 2, 1)] [some (.ref a0), some (.int x1), some (.int x2), some (.int x3), some (.int x4), some (.int (bi x5)), some (.int x6), o7, o8] [.int x2, .int (17 + x1), .ref (sh_r a0 1)] (by decide +kernel) rfl ?_
  refine i_as (y := x2) (pc' := 95) (by decide +kernel) (o_11_1 hN h0) (fun m4 => ?_)
  refine i_bl (pc' := 96) [(.aload_n 0, 1)] [some (.ref a0), some (.int x1), some (.int x2), some (.int x3), some (.int x4), some (.int (bi x5)), some (.int x6), o7, o8] [.ref a0] (by decide +kernel) rfl ?_
  refine i_gr (idx := 7) (ci := 11) (k := 1) (t := 2) (p := 16234) (pc' := 99) (by decide +kernel) h0 ?_
  refine i_bl (pc' := 104) [(.bipush (19), 2), (.iload_n 1, 1), (.iadd, 1), (.iload_n 3, 1)] [some (.ref a0), some (.int x1), some (.int x2), some (.int x3), some (.int x4), some (.int (bi x5)), some (.int x6), o7, o8] [.int x3, .int (19 + x1), .ref (sh_r a0 1)] (by decide +kernel) rfl ?_
  refine i_as (y := x3) (pc' := 105) (by decide +kernel) (o_11_1 hN h0) (fun m5 => ?_)
  refine i_bl (pc' := 106) [(.aload_n 0, 1)] [some (.ref a0), some (.int x1), some (.int x2), some (.int x3), some (.int x4), some (.int (bi x5)), some (.int x6), o7, o8] [.ref a0] (by decide +kernel) rfl ?_
  refine i_gr (idx := 7) (ci := 11) (k := 1) (t := 2) (p := 16234) (pc' := 109) (by decide +kernel) h0 ?_
  refine i_bl (pc' := 115) [(.bipush (21), 2), (.iload_n 1, 1), (.iadd, 1), (.iload 4, 2)] [some (.ref a0), some (.int x1), some (.int x2), some (.int x3), some (.int x4), some (.int (bi x5)), some (.int x6), o7, o8] [.int x4, .int (21 + x1), .ref (sh_r a0 1)] (by decide +kernel) rfl ?_
  refine i_as (y := x4) (pc' := 116) (by decide +kernel) (o_11_1 hN h0) (fun m6 => ?_)
  refine i_bl (pc' := 118) [(.iload 5, 2)] [some (.ref a0), some (.int x1), some (.int x2), some (.int x3), some (.int x4), some (.int (bi x5)), some (.int x6), o7, o8] [.int (bi x5)] (by decide +kernel) rfl ?_
  refine i_bz (off := 23) (t := 141) (pc' := 121) (by decide +kernel) ?_ ?_
  · refine i_bl (pc' := 122) [(.aload_n 0, 1)] [some (.ref a0), some (.int x1), some (.int x2), some (.int x3), some (.int x4), some (.int (bi x5)), some (.int x6), o7, o8] [.ref a0] (by decide +kernel) rfl ?_
    refine i_gr (idx := 7) (ci := 11) (k := 1) (t := 2) (p := 16234) (pc' := 125) (by decide +kernel) h0 ?_
    refine i_bl (pc' := 130) [(.bipush (9), 2), (.iload_n 1, 1), (.iadd, 1), (.aload_n 0, 1)] [some (.ref a0), some (.int x1), some (.int x2), some (.int x3), some (.int x4), some (.int (bi x5)), some (.int x6), o7, o8] [.ref a0, .int (9 + x1), .ref (sh_r a0 1)] (by decide +kernel) rfl ?_
    refine i_gr (idx := 7) (ci := 11) (k := 1) (t := 2) (p := 16234) (pc' := 133) (by decide +kernel) h0 ?_
    refine i_bl (pc' := 137) [(.bipush (9), 2), (.iload_n 1, 1), (.iadd, 1)] [some (.ref a0), some (.int x1), some (.int x2), some (.int x3), some (.int x4), some (.int (bi x5)), some (.int x6), o7, o8] [.int (9 + x1), .ref (sh_r a0 1), .int (9 + x1), .ref (sh_r a0 1)] (by decide +kernel) rfl ?_
    refine i_al (pc' := 138) (by decide +kernel) (o_11_1 hN h0) ?_
    refine i_bl (pc' := 140) [(.iconst 1, 1), (.iadd, 1)] [some (.ref a0), some (.int x1), some (.int x2), some (.int x3), some (.int x4), some (.int (bi x5)), some (.int x6), o7, o8] [.int ((m6 (sh_r a0 1) (ix (9 + x1))) + 1), .int (9 + x1), .ref (sh_r a0 1)] (by decide +kernel) rfl ?_
    refine i_as (y := ((m6 (sh_r a0 1) (ix (9 + x1))) + 1)) (pc' := 141) (by decide +kernel) (o_11_1 hN h0) (fun m7 => ?_)
    exact i_rv (by decide +kernel) rfl
  · exact i_rv (by decide +kernel) rfl

noncomputable def s_251_15 (a0 : Nat) (x1 : Int32) (x2 : Int32) (x3 : Int32) (x4 : Int32) (x5 : Bool) (x6 : Int32) (x7 : Int32) (x8 : Int32) (m : Mm) : Option ((Int32 × Mm) ⊕ Mm) := if 64 ≤ x8 then ((d_251_76 a0 x1 x2 x3 x4 x5 x6 m).map Sum.inr) else (if x5 = true then (if ev_in (x6 + x8) (sh_n (sh_r a0 1)) = true then (if ev_in (x7 + x8) (sh_n (sh_r a0 1)) = true then (wb (wr m (sh_r a0 1) (ix (x7 + x8)) (m (sh_r a0 1) (ix (x6 + x8)))) fun m10 => wb (x8 + 1) fun y11 => some (.inl (y11, m10))) else none) else none) else (if ev_in (x7 + x8) (sh_n (sh_r a0 1)) = true then (if ev_in (x6 + x8) (sh_n (sh_r a0 1)) = true then (wb (wr m (sh_r a0 1) (ix (x6 + x8)) (m (sh_r a0 1) (ix (x7 + x8)))) fun m8 => wb (x8 + 1) fun y9 => some (.inl (y9, m8))) else none) else none))
noncomputable def d_251_15 (a0 : Nat) (x1 : Int32) (x2 : Int32) (x3 : Int32) (x4 : Int32) (x5 : Bool) (x6 : Int32) (x7 : Int32) (x8 : Int32) (m : Mm) : Option Mm := it (fun s => s_251_15 a0 x1 x2 x3 x4 x5 x6 x7 s.1 s.2) (x8, m)
theorem e_251_15 (a0 : Nat) (x1 : Int32) (x2 : Int32) (x3 : Int32) (x4 : Int32) (x5 : Bool) (x6 : Int32) (x7 : Int32) (x8 : Int32) (m : Mm) : d_251_15 a0 x1 x2 x3 x4 x5 x6 x7 x8 m = oi (s_251_15 a0 x1 x2 x3 x4 x5 x6 x7 x8 m) (fun s => d_251_15 a0 x1 x2 x3 x4 x5 x6 x7 s.1 s.2) := it_eq _
theorem u_251_15 {L nx : Nat} (hN : okn nx) {b z : Nat} {m : Mm} {a0 : Nat} (h0 : ok nx a0 11) {x1 : Int32} {x2 : Int32} {x3 : Int32} {x4 : Int32} {x5 : Bool} {x6 : Int32} {x7 : Int32} {x8 : Int32}  : Im (s_251_15 a0 x1 x2 x3 x4 x5 x6 x7 x8 m) (kL (wV L nx) (E_251_15 L nx b z a0 x1 x2 x3 x4 x5 x6 x7)) (ev_dn b z 251 15 [some (.ref a0), some (.int x1), some (.int x2), some (.int x3), some (.int x4), some (.int (bi x5)), some (.int x6), some (.int x7), some (.int x8)] [] (nx, mem L nx m)) := by
  unfold s_251_15
  refine i_bl (pc' := 19) [(.iload 8, 2), (.bipush (64), 2)] [some (.ref a0), some (.int x1), some (.int x2), some (.int x3), some (.int x4), some (.int (bi x5)), some (.int x6), some (.int x7), some (.int x8)] [.int 64, .int x8] (by decide +kernel) rfl ?_
  refine i_ic (c := .ge) (off := 57) (t := 76) (pc' := 22) (p := 64 ≤ x8) (by decide +kernel) rfl ?_ ?_
  · exact i_mr (t_251_76 hN (h0 := h0))
  · refine i_bl (pc' := 24) [(.iload 5, 2)] [some (.ref a0), some (.int x1), some (.int x2), some (.int x3), some (.int x4), some (.int (bi x5)), some (.int x6), some (.int x7), some (.int x8)] [.int (bi x5)] (by decide +kernel) rfl ?_
    refine i_bz (off := 26) (t := 50) (pc' := 27) (by decide +kernel) ?_ ?_
    · refine i_bl (pc' := 28) [(.aload_n 0, 1)] [some (.ref a0), some (.int x1), some (.int x2), some (.int x3), some (.int x4), some (.int (bi x5)), some (.int x6), some (.int x7), some (.int x8)] [.ref a0] (by decide +kernel) rfl ?_
      refine i_gr (idx := 7) (ci := 11) (k := 1) (t := 2) (p := 16234) (pc' := 31) (by decide +kernel) h0 ?_
      refine i_bl (pc' := 37) [(.iload 7, 2), (.iload 8, 2), (.iadd, 1), (.aload_n 0, 1)] [some (.ref a0), some (.int x1), some (.int x2), some (.int x3), some (.int x4), some (.int (bi x5)), some (.int x6), some (.int x7), some (.int x8)] [.ref a0, .int (x7 + x8), .ref (sh_r a0 1)] (by decide +kernel) rfl ?_
      refine i_gr (idx := 7) (ci := 11) (k := 1) (t := 2) (p := 16234) (pc' := 40) (by decide +kernel) h0 ?_
      refine i_bl (pc' := 45) [(.iload 6, 2), (.iload 8, 2), (.iadd, 1)] [some (.ref a0), some (.int x1), some (.int x2), some (.int x3), some (.int x4), some (.int (bi x5)), some (.int x6), some (.int x7), some (.int x8)] [.int (x6 + x8), .ref (sh_r a0 1), .int (x7 + x8), .ref (sh_r a0 1)] (by decide +kernel) rfl ?_
      refine i_al (pc' := 46) (by decide +kernel) (o_11_1 hN h0) ?_
      refine i_as (y := (m (sh_r a0 1) (ix (x6 + x8)))) (pc' := 47) (by decide +kernel) (o_11_1 hN h0) (fun m10 => ?_)
      refine i_go (t := 70) (off := 23) (by decide +kernel) ?_
      refine i_bl (pc' := 73) [(.iinc 8 (1), 3)] [some (.ref a0), some (.int x1), some (.int x2), some (.int x3), some (.int x4), some (.int (bi x5)), some (.int x6), some (.int x7), some (.int (x8 + 1))] [] (by decide +kernel) rfl ?_
      refine i_wb (fun y11 => ev_dn b z 251 73 [some (.ref a0), some (.int x1), some (.int x2), some (.int x3), some (.int x4), some (.int (bi x5)), some (.int x6), some (.int x7), some (.int y11)] [] (nx, mem L nx m10)) (fun y11 => ?_)
      refine i_go (t := 15) (off := -58) (by decide +kernel) ?_
      exact i_co () rfl
    · refine i_bl (pc' := 51) [(.aload_n 0, 1)] [some (.ref a0), some (.int x1), some (.int x2), some (.int x3), some (.int x4), some (.int (bi x5)), some (.int x6), some (.int x7), some (.int x8)] [.ref a0] (by decide +kernel) rfl ?_
      refine i_gr (idx := 7) (ci := 11) (k := 1) (t := 2) (p := 16234) (pc' := 54) (by decide +kernel) h0 ?_
      refine i_bl (pc' := 60) [(.iload 6, 2), (.iload 8, 2), (.iadd, 1), (.aload_n 0, 1)] [some (.ref a0), some (.int x1), some (.int x2), some (.int x3), some (.int x4), some (.int (bi x5)), some (.int x6), some (.int x7), some (.int x8)] [.ref a0, .int (x6 + x8), .ref (sh_r a0 1)] (by decide +kernel) rfl ?_
      refine i_gr (idx := 7) (ci := 11) (k := 1) (t := 2) (p := 16234) (pc' := 63) (by decide +kernel) h0 ?_
      refine i_bl (pc' := 68) [(.iload 7, 2), (.iload 8, 2), (.iadd, 1)] [some (.ref a0), some (.int x1), some (.int x2), some (.int x3), some (.int x4), some (.int (bi x5)), some (.int x6), some (.int x7), some (.int x8)] [.int (x7 + x8), .ref (sh_r a0 1), .int (x6 + x8), .ref (sh_r a0 1)] (by decide +kernel) rfl ?_
      refine i_al (pc' := 69) (by decide +kernel) (o_11_1 hN h0) ?_
      refine i_as (y := (m (sh_r a0 1) (ix (x7 + x8)))) (pc' := 70) (by decide +kernel) (o_11_1 hN h0) (fun m8 => ?_)
      refine i_bl (pc' := 73) [(.iinc 8 (1), 3)] [some (.ref a0), some (.int x1), some (.int x2), some (.int x3), some (.int x4), some (.int (bi x5)), some (.int x6), some (.int x7), some (.int (x8 + 1))] [] (by decide +kernel) rfl ?_
      refine i_wb (fun y9 => ev_dn b z 251 73 [some (.ref a0), some (.int x1), some (.int x2), some (.int x3), some (.int x4), some (.int (bi x5)), some (.int x6), some (.int x7), some (.int y9)] [] (nx, mem L nx m8)) (fun y9 => ?_)
      refine i_go (t := 15) (off := -58) (by decide +kernel) ?_
      exact i_co () rfl

theorem t_251_15 {L nx : Nat} (hN : okn nx) {b z : Nat} {m : Mm} {a0 : Nat} (h0 : ok nx a0 11) {x1 : Int32} {x2 : Int32} {x3 : Int32} {x4 : Int32} {x5 : Bool} {x6 : Int32} {x7 : Int32} {x8 : Int32}  : Im (d_251_15 a0 x1 x2 x3 x4 x5 x6 x7 x8 m) (wV L nx) (ev_dn b z 251 15 [some (.ref a0), some (.int x1), some (.int x2), some (.int x3), some (.int x4), some (.int (bi x5)), some (.int x6), some (.int x7), some (.int x8)] [] (nx, mem L nx m)) := by
  exact i_it (f := fun s => s_251_15 a0 x1 x2 x3 x4 x5 x6 x7 s.1 s.2) (E := E_251_15 L nx b z a0 x1 x2 x3 x4 x5 x6 x7) (K := (wV L nx)) (fun d s => u_251_15 hN (h0 := h0)) () (x8, m)
noncomputable def d_251 (a0 : Nat) (x1 : Int32) (x2 : Int32) (x3 : Int32) (x4 : Int32) (x5 : Bool) (m : Mm) : Option Mm := (d_194 x1).bind fun v1 => (d_195 x1).bind fun v2 => d_251_15 a0 x1 x2 x3 x4 x5 v1 v2 0 m
theorem t_251 {L nx : Nat} (hN : okn nx) {b z : Nat} {m : Mm} {a0 : Nat} (h0 : ok nx a0 11) {x1 : Int32} {x2 : Int32} {x3 : Int32} {x4 : Int32} {x5 : Bool}  : Im (d_251 a0 x1 x2 x3 x4 x5 m) (wV L nx) (ev_dn b z 251 0 [some (.ref a0), some (.int x1), some (.int x2), some (.int x3), some (.int x4), some (.int (bi x5)), none, none, none] [] (nx, mem L nx m)) := by
  unfold d_251
  refine i_bl (pc' := 1) [(.iload_n 1, 1)] [some (.ref a0), some (.int x1), some (.int x2), some (.int x3), some (.int x4), some (.int (bi x5)), none, none, none] [.int x1] (by decide +kernel) rfl ?_
  refine i_cs (t := 194) (na := 1) (ml := 1) (idx := 165) (pc' := 4) (st' := []) (en := [some (.int x1)]) (av := [.int x1]) (vo := fun v => some (.int v)) (mo := fun _ => m) (s2 := fun v => .int v :: []) (by decide +kernel) ⟨rfl, rfl, rfl, rfl, rfl, rfl⟩ (fun _ => rfl) (t_194 hN ) (fun v1 => ?_)
  refine i_bl (pc' := 7) [(.istore 6, 2), (.iload_n 1, 1)] [some (.ref a0), some (.int x1), some (.int x2), some (.int x3), some (.int x4), some (.int (bi x5)), some (.int v1), none, none] [.int x1] (by decide +kernel) rfl ?_
  refine i_cs (t := 195) (na := 1) (ml := 1) (idx := 231) (pc' := 10) (st' := []) (en := [some (.int x1)]) (av := [.int x1]) (vo := fun v => some (.int v)) (mo := fun _ => m) (s2 := fun v => .int v :: []) (by decide +kernel) ⟨rfl, rfl, rfl, rfl, rfl, rfl⟩ (fun _ => rfl) (t_195 hN ) (fun v2 => ?_)
  refine i_bl (pc' := 15) [(.istore 7, 2), (.iconst 0, 1), (.istore 8, 2)] [some (.ref a0), some (.int x1), some (.int x2), some (.int x3), some (.int x4), some (.int (bi x5)), some (.int v1), some (.int v2), some (.int 0)] [] (by decide +kernel) rfl ?_
  exact t_251_15 hN (h0 := h0)

/-! 252 LanternChessModel.isGroup(I)Z -/
noncomputable def d_252 (a0 : Nat) (x1 : Int32) : Option Bool := (d_185 x1 0 5).bind fun v1 => some v1
theorem t_252 {L nx : Nat} (hN : okn nx) {b z : Nat} {m : Mm} {a0 : Nat} (h0 : ok nx a0 11) {x1 : Int32}  : Im (d_252 a0 x1) (kZ L nx m) (ev_dn b z 252 0 [some (.ref a0), some (.int x1)] [] (nx, mem L nx m)) := by
  unfold d_252
  refine i_bl (pc' := 3) [(.iload_n 1, 1), (.i2l, 1), (.lconst 0, 1)] [some (.ref a0), some (.int x1)] [.long (0 : Int32).toInt64, .long x1.toInt64] (by decide +kernel) rfl ?_
  refine i_l2 (idx := 234) (p := 18073) (x := 5) (pc' := 6) (by decide +kernel) ?_
  refine i_cs (t := 185) (na := 3) (ml := 6) (idx := 148) (pc' := 9) (st' := []) (en := [some (.long x1.toInt64), none, some (.long (0 : Int32).toInt64), none, some (.long (5 : Int32).toInt64), none]) (av := [.long x1.toInt64, .long (0 : Int32).toInt64, .long (5 : Int32).toInt64]) (vo := fun v => some (.int (bi v))) (mo := fun _ => m) (s2 := fun v => .int (bi v) :: []) (by decide +kernel) ⟨rfl, rfl, rfl, rfl, rfl, rfl⟩ (fun _ => rfl) (t_185 hN ) (fun v1 => ?_)
  exact i_rz (B := v1) (by decide +kernel) rfl

/-! 253 LanternChessModel.areOn(IIII)Z -/
noncomputable def d_253 (a0 : Nat) (x1 : Int32) (x2 : Int32) (x3 : Int32) (x4 : Int32) (m : Mm) : Option Bool := (d_213 a0 x1 x2 m).bind fun v1 => if v1 = true then ((d_213 a0 x3 x4 m).bind fun v2 => if v2 = true then (some true) else (some false)) else (some false)
theorem t_253 {L nx : Nat} (hN : okn nx) {b z : Nat} {m : Mm} {a0 : Nat} (h0 : ok nx a0 11) {x1 : Int32} {x2 : Int32} {x3 : Int32} {x4 : Int32}  : Im (d_253 a0 x1 x2 x3 x4 m) (kZ L nx m) (ev_dn b z 253 0 [some (.ref a0), some (.int x1), some (.int x2), some (.int x3), some (.int x4)] [] (nx, mem L nx m)) := by
  unfold d_253
  refine i_bl (pc' := 3) [(.aload_n 0, 1), (.iload_n 1, 1), (.iload_n 2, 1)] [some (.ref a0), some (.int x1), some (.int x2), some (.int x3), some (.int x4)] [.int x2, .int x1, .ref a0] (by decide +kernel) rfl ?_
  refine i_cv (ci := 11) (t := 213) (na := 3) (ml := 3) (idx := 158) (pc' := 6) (st' := []) (en := [some (.ref a0), some (.int x1), some (.int x2)]) (av := [.int x1, .int x2]) (vo := fun v => some (.int (bi v))) (mo := fun _ => m) (s2 := fun v => .int (bi v) :: []) (by decide +kernel) (by decide +kernel) h0 ⟨rfl, rfl, rfl, rfl, rfl, rfl⟩ (fun _ => rfl) (t_213 hN (h0 := h0)) (fun v1 => ?_)
  refine i_bz (off := 17) (t := 23) (pc' := 9) (by decide +kernel) ?_ ?_
  · refine i_bl (pc' := 13) [(.aload_n 0, 1), (.iload_n 3, 1), (.iload 4, 2)] [some (.ref a0), some (.int x1), some (.int x2), some (.int x3), some (.int x4)] [.int x4, .int x3, .ref a0] (by decide +kernel) rfl ?_
    refine i_cv (ci := 11) (t := 213) (na := 3) (ml := 3) (idx := 158) (pc' := 16) (st' := []) (en := [some (.ref a0), some (.int x3), some (.int x4)]) (av := [.int x3, .int x4]) (vo := fun v => some (.int (bi v))) (mo := fun _ => m) (s2 := fun v => .int (bi v) :: []) (by decide +kernel) (by decide +kernel) h0 ⟨rfl, rfl, rfl, rfl, rfl, rfl⟩ (fun _ => rfl) (t_213 hN (h0 := h0)) (fun v2 => ?_)
    refine i_bz (off := 7) (t := 23) (pc' := 19) (by decide +kernel) ?_ ?_
    · refine i_bl (pc' := 20) [(.iconst 1, 1)] [some (.ref a0), some (.int x1), some (.int x2), some (.int x3), some (.int x4)] [.int 1] (by decide +kernel) rfl ?_
      refine i_go (t := 24) (off := 4) (by decide +kernel) ?_
      exact i_rz (B := true) (by decide +kernel) rfl
    · refine i_bl (pc' := 24) [(.iconst 0, 1)] [some (.ref a0), some (.int x1), some (.int x2), some (.int x3), some (.int x4)] [.int 0] (by decide +kernel) rfl ?_
      exact i_rz (B := false) (by decide +kernel) rfl
  · refine i_bl (pc' := 24) [(.iconst 0, 1)] [some (.ref a0), some (.int x1), some (.int x2), some (.int x3), some (.int x4)] [.int 0] (by decide +kernel) rfl ?_
    exact i_rz (B := false) (by decide +kernel) rfl

/-! 254 LanternChessModel.group(IIIII)I -/
noncomputable def d_254 (a0 : Nat) (x1 : Int32) (x2 : Int32) (x3 : Int32) (x4 : Int32) (x5 : Int32) (m : Mm) : Option (Int32 × Mm) := (d_252 a0 x5).bind fun v1 => (d_183 a0 v1 m).bind fun r2 => if r2.1 = true then ((d_253 a0 x1 x2 x3 x4 r2.2).bind fun v3 => (d_184 a0 v3 2 r2.2).bind fun r4 => if r4.1 = true then ((d_214 a0 x1 x2 r4.2).bind fun v5 => (d_214 a0 x3 x4 r4.2).bind fun v6 => (d_243 a0 v5 v6 r4.2).bind fun m7 => if ev_in x5 (sh_n (sh_r a0 15)) = true then (some (m7 (sh_r a0 15) (ix x5), m7)) else none) else (some (0, r4.2))) else (some (0, r2.2))
theorem t_254 {L nx : Nat} (hN : okn nx) {b z : Nat} {m : Mm} {a0 : Nat} (h0 : ok nx a0 11) {x1 : Int32} {x2 : Int32} {x3 : Int32} {x4 : Int32} {x5 : Int32}  : Im (d_254 a0 x1 x2 x3 x4 x5 m) (wI L nx) (ev_dn b z 254 0 [some (.ref a0), some (.int x1), some (.int x2), some (.int x3), some (.int x4), some (.int x5)] [] (nx, mem L nx m)) := by
  unfold d_254
  refine i_bl (pc' := 4) [(.aload_n 0, 1), (.aload_n 0, 1), (.iload 5, 2)] [some (.ref a0), some (.int x1), some (.int x2), some (.int x3), some (.int x4), some (.int x5)] [.int x5, .ref a0, .ref a0] (by decide +kernel) rfl ?_
  refine i_cv (ci := 11) (t := 252) (na := 2) (ml := 2) (idx := 236) (pc' := 7) (st' := [.ref a0]) (en := [some (.ref a0), some (.int x5)]) (av := [.int x5]) (vo := fun v => some (.int (bi v))) (mo := fun _ => m) (s2 := fun v => .int (bi v) :: [.ref a0]) (by decide +kernel) (by decide +kernel) h0 ⟨rfl, rfl, rfl, rfl, rfl, rfl⟩ (fun _ => rfl) (t_252 hN (h0 := h0)) (fun v1 => ?_)
  refine i_cv (ci := 11) (t := 183) (na := 2) (ml := 2) (idx := 77) (pc' := 10) (st' := []) (en := [some (.ref a0), some (.int (bi v1))]) (av := [.int (bi v1)]) (vo := fun v => some (.int (bi v.1))) (mo := fun v => v.2) (s2 := fun v => .int (bi v.1) :: []) (by decide +kernel) (by decide +kernel) h0 ⟨rfl, rfl, rfl, rfl, rfl, rfl⟩ (fun _ => rfl) (t_183 hN (h0 := h0)) (fun r2 => ?_)
  refine i_bz (off := 20) (t := 30) (pc' := 13) (by decide +kernel) ?_ ?_
  · refine i_bl (pc' := 20) [(.aload_n 0, 1), (.aload_n 0, 1), (.iload_n 1, 1), (.iload_n 2, 1), (.iload_n 3, 1), (.iload 4, 2)] [some (.ref a0), some (.int x1), some (.int x2), some (.int x3), some (.int x4), some (.int x5)] [.int x4, .int x3, .int x2, .int x1, .ref a0, .ref a0] (by decide +kernel) rfl ?_
    refine i_cv (ci := 11) (t := 253) (na := 5) (ml := 5) (idx := 239) (pc' := 23) (st' := [.ref a0]) (en := [some (.ref a0), some (.int x1), some (.int x2), some (.int x3), some (.int x4)]) (av := [.int x1, .int x2, .int x3, .int x4]) (vo := fun v => some (.int (bi v))) (mo := fun _ => r2.2) (s2 := fun v => .int (bi v) :: [.ref a0]) (by decide +kernel) (by decide +kernel) h0 ⟨rfl, rfl, rfl, rfl, rfl, rfl⟩ (fun _ => rfl) (t_253 hN (h0 := h0)) (fun v3 => ?_)
    refine i_bl (pc' := 24) [(.iconst 2, 1)] [some (.ref a0), some (.int x1), some (.int x2), some (.int x3), some (.int x4), some (.int x5)] [.int 2, .int (bi v3), .ref a0] (by decide +kernel) rfl ?_
    refine i_cv (ci := 11) (t := 184) (na := 3) (ml := 3) (idx := 161) (pc' := 27) (st' := []) (en := [some (.ref a0), some (.int (bi v3)), some (.int 2)]) (av := [.int (bi v3), .int 2]) (vo := fun v => some (.int (bi v.1))) (mo := fun v => v.2) (s2 := fun v => .int (bi v.1) :: []) (by decide +kernel) (by decide +kernel) h0 ⟨rfl, rfl, rfl, rfl, rfl, rfl⟩ (fun _ => rfl) (t_184 hN (h0 := h0)) (fun r4 => ?_)
    refine i_bn (off := 5) (t := 32) (pc' := 30) (by decide +kernel) ?_ ?_
    · refine i_bl (pc' := 36) [(.aload_n 0, 1), (.aload_n 0, 1), (.iload_n 1, 1), (.iload_n 2, 1)] [some (.ref a0), some (.int x1), some (.int x2), some (.int x3), some (.int x4), some (.int x5)] [.int x2, .int x1, .ref a0, .ref a0] (by decide +kernel) rfl ?_
      refine i_cv (ci := 11) (t := 214) (na := 3) (ml := 3) (idx := 168) (pc' := 39) (st' := [.ref a0]) (en := [some (.ref a0), some (.int x1), some (.int x2)]) (av := [.int x1, .int x2]) (vo := fun v => some (.int v)) (mo := fun _ => r4.2) (s2 := fun v => .int v :: [.ref a0]) (by decide +kernel) (by decide +kernel) h0 ⟨rfl, rfl, rfl, rfl, rfl, rfl⟩ (fun _ => rfl) (t_214 hN (h0 := h0)) (fun v5 => ?_)
      refine i_bl (pc' := 43) [(.aload_n 0, 1), (.iload_n 3, 1), (.iload 4, 2)] [some (.ref a0), some (.int x1), some (.int x2), some (.int x3), some (.int x4), some (.int x5)] [.int x4, .int x3, .ref a0, .int v5, .ref a0] (by decide +kernel) rfl ?_
      refine i_cv (ci := 11) (t := 214) (na := 3) (ml := 3) (idx := 168) (pc' := 46) (st' := [.int v5, .ref a0]) (en := [some (.ref a0), some (.int x3), some (.int x4)]) (av := [.int x3, .int x4]) (vo := fun v => some (.int v)) (mo := fun _ => r4.2) (s2 := fun v => .int v :: [.int v5, .ref a0]) (by decide +kernel) (by decide +kernel) h0 ⟨rfl, rfl, rfl, rfl, rfl, rfl⟩ (fun _ => rfl) (t_214 hN (h0 := h0)) (fun v6 => ?_)
      refine i_cv (ci := 11) (t := 243) (na := 3) (ml := 3) (idx := 242) (pc' := 49) (st' := []) (en := [some (.ref a0), some (.int v5), some (.int v6)]) (av := [.int v5, .int v6]) (vo := fun _ => none) (mo := fun m => m) (s2 := fun _ => []) (by decide +kernel) (by decide +kernel) h0 ⟨rfl, rfl, rfl, rfl, rfl, rfl⟩ (fun _ => rfl) (t_243 hN (h0 := h0)) (fun m7 => ?_)
      refine i_bl (pc' := 50) [(.aload_n 0, 1)] [some (.ref a0), some (.int x1), some (.int x2), some (.int x3), some (.int x4), some (.int x5)] [.ref a0] (by decide +kernel) rfl ?_
      refine i_gr (idx := 46) (ci := 11) (k := 15) (t := 2) (p := 17008) (pc' := 53) (by decide +kernel) h0 ?_
      refine i_bl (pc' := 55) [(.iload 5, 2)] [some (.ref a0), some (.int x1), some (.int x2), some (.int x3), some (.int x4), some (.int x5)] [.int x5, .ref (sh_r a0 15)] (by decide +kernel) rfl ?_
      refine i_al (pc' := 56) (by decide +kernel) (o_11_15 hN h0) ?_
      exact i_ri (by decide +kernel) rfl
    · refine i_bl (pc' := 31) [(.iconst 0, 1)] [some (.ref a0), some (.int x1), some (.int x2), some (.int x3), some (.int x4), some (.int x5)] [.int 0] (by decide +kernel) rfl ?_
      exact i_ri (by decide +kernel) rfl
  · refine i_bl (pc' := 31) [(.iconst 0, 1)] [some (.ref a0), some (.int x1), some (.int x2), some (.int x3), some (.int x4), some (.int x5)] [.int 0] (by decide +kernel) rfl ?_
    exact i_ri (by decide +kernel) rfl

/-! 255 LanternChessModel.seenOf(IIIII)I -/
noncomputable def d_255 (a0 : Nat) (x1 : Int32) (x2 : Int32) (x3 : Int32) (x4 : Int32) (x5 : Int32) (m : Mm) : Option (Int32 × Mm) := (d_252 a0 x5).bind fun v1 => (d_183 a0 v1 m).bind fun r2 => if r2.1 = true then ((d_253 a0 x1 x2 x3 x4 r2.2).bind fun v3 => (d_184 a0 v3 2 r2.2).bind fun r4 => if r4.1 = true then ((d_214 a0 x1 x2 r4.2).bind fun v5 => (d_214 a0 x3 x4 r4.2).bind fun v6 => (d_243 a0 v5 v6 r4.2).bind fun m7 => if ev_in 2 (sh_n (sh_r a0 1)) = true then ((d_246 a0 (m7 (sh_r a0 1) (ix 2)) m7).bind fun r8 => if ev_in x5 (sh_n (sh_r a0 16)) = true then (some (r8.2 (sh_r a0 16) (ix x5), r8.2)) else none) else none) else (some (0, r4.2))) else (some (0, r2.2))
theorem t_255 {L nx : Nat} (hN : okn nx) {b z : Nat} {m : Mm} {a0 : Nat} (h0 : ok nx a0 11) {x1 : Int32} {x2 : Int32} {x3 : Int32} {x4 : Int32} {x5 : Int32}  : Im (d_255 a0 x1 x2 x3 x4 x5 m) (wI L nx) (ev_dn b z 255 0 [some (.ref a0), some (.int x1), some (.int x2), some (.int x3), some (.int x4), some (.int x5), none] [] (nx, mem L nx m)) := by
  unfold d_255
  refine i_bl (pc' := 4) [(.aload_n 0, 1), (.aload_n 0, 1), (.iload 5, 2)] [some (.ref a0), some (.int x1), some (.int x2), some (.int x3), some (.int x4), some (.int x5), none] [.int x5, .ref a0, .ref a0] (by decide +kernel) rfl ?_
  refine i_cv (ci := 11) (t := 252) (na := 2) (ml := 2) (idx := 236) (pc' := 7) (st' := [.ref a0]) (en := [some (.ref a0), some (.int x5)]) (av := [.int x5]) (vo := fun v => some (.int (bi v))) (mo := fun _ => m) (s2 := fun v => .int (bi v) :: [.ref a0]) (by decide +kernel) (by decide +kernel) h0 ⟨rfl, rfl, rfl, rfl, rfl, rfl⟩ (fun _ => rfl) (t_252 hN (h0 := h0)) (fun v1 => ?_)
  refine i_cv (ci := 11) (t := 183) (na := 2) (ml := 2) (idx := 77) (pc' := 10) (st' := []) (en := [some (.ref a0), some (.int (bi v1))]) (av := [.int (bi v1)]) (vo := fun v => some (.int (bi v.1))) (mo := fun v => v.2) (s2 := fun v => .int (bi v.1) :: []) (by decide +kernel) (by decide +kernel) h0 ⟨rfl, rfl, rfl, rfl, rfl, rfl⟩ (fun _ => rfl) (t_183 hN (h0 := h0)) (fun r2 => ?_)
  refine i_bz (off := 20) (t := 30) (pc' := 13) (by decide +kernel) ?_ ?_
  · refine i_bl (pc' := 20) [(.aload_n 0, 1), (.aload_n 0, 1), (.iload_n 1, 1), (.iload_n 2, 1), (.iload_n 3, 1), (.iload 4, 2)] [some (.ref a0), some (.int x1), some (.int x2), some (.int x3), some (.int x4), some (.int x5), none] [.int x4, .int x3, .int x2, .int x1, .ref a0, .ref a0] (by decide +kernel) rfl ?_
    refine i_cv (ci := 11) (t := 253) (na := 5) (ml := 5) (idx := 239) (pc' := 23) (st' := [.ref a0]) (en := [some (.ref a0), some (.int x1), some (.int x2), some (.int x3), some (.int x4)]) (av := [.int x1, .int x2, .int x3, .int x4]) (vo := fun v => some (.int (bi v))) (mo := fun _ => r2.2) (s2 := fun v => .int (bi v) :: [.ref a0]) (by decide +kernel) (by decide +kernel) h0 ⟨rfl, rfl, rfl, rfl, rfl, rfl⟩ (fun _ => rfl) (t_253 hN (h0 := h0)) (fun v3 => ?_)
    refine i_bl (pc' := 24) [(.iconst 2, 1)] [some (.ref a0), some (.int x1), some (.int x2), some (.int x3), some (.int x4), some (.int x5), none] [.int 2, .int (bi v3), .ref a0] (by decide +kernel) rfl ?_
    refine i_cv (ci := 11) (t := 184) (na := 3) (ml := 3) (idx := 161) (pc' := 27) (st' := []) (en := [some (.ref a0), some (.int (bi v3)), some (.int 2)]) (av := [.int (bi v3), .int 2]) (vo := fun v => some (.int (bi v.1))) (mo := fun v => v.2) (s2 := fun v => .int (bi v.1) :: []) (by decide +kernel) (by decide +kernel) h0 ⟨rfl, rfl, rfl, rfl, rfl, rfl⟩ (fun _ => rfl) (t_184 hN (h0 := h0)) (fun r4 => ?_)
    refine i_bn (off := 5) (t := 32) (pc' := 30) (by decide +kernel) ?_ ?_
    · refine i_bl (pc' := 36) [(.aload_n 0, 1), (.aload_n 0, 1), (.iload_n 1, 1), (.iload_n 2, 1)] [some (.ref a0), some (.int x1), some (.int x2), some (.int x3), some (.int x4), some (.int x5), none] [.int x2, .int x1, .ref a0, .ref a0] (by decide +kernel) rfl ?_
      refine i_cv (ci := 11) (t := 214) (na := 3) (ml := 3) (idx := 168) (pc' := 39) (st' := [.ref a0]) (en := [some (.ref a0), some (.int x1), some (.int x2)]) (av := [.int x1, .int x2]) (vo := fun v => some (.int v)) (mo := fun _ => r4.2) (s2 := fun v => .int v :: [.ref a0]) (by decide +kernel) (by decide +kernel) h0 ⟨rfl, rfl, rfl, rfl, rfl, rfl⟩ (fun _ => rfl) (t_214 hN (h0 := h0)) (fun v5 => ?_)
      refine i_bl (pc' := 43) [(.aload_n 0, 1), (.iload_n 3, 1), (.iload 4, 2)] [some (.ref a0), some (.int x1), some (.int x2), some (.int x3), some (.int x4), some (.int x5), none] [.int x4, .int x3, .ref a0, .int v5, .ref a0] (by decide +kernel) rfl ?_
      refine i_cv (ci := 11) (t := 214) (na := 3) (ml := 3) (idx := 168) (pc' := 46) (st' := [.int v5, .ref a0]) (en := [some (.ref a0), some (.int x3), some (.int x4)]) (av := [.int x3, .int x4]) (vo := fun v => some (.int v)) (mo := fun _ => r4.2) (s2 := fun v => .int v :: [.int v5, .ref a0]) (by decide +kernel) (by decide +kernel) h0 ⟨rfl, rfl, rfl, rfl, rfl, rfl⟩ (fun _ => rfl) (t_214 hN (h0 := h0)) (fun v6 => ?_)
      refine i_cv (ci := 11) (t := 243) (na := 3) (ml := 3) (idx := 242) (pc' := 49) (st' := []) (en := [some (.ref a0), some (.int v5), some (.int v6)]) (av := [.int v5, .int v6]) (vo := fun _ => none) (mo := fun m => m) (s2 := fun _ => []) (by decide +kernel) (by decide +kernel) h0 ⟨rfl, rfl, rfl, rfl, rfl, rfl⟩ (fun _ => rfl) (t_243 hN (h0 := h0)) (fun m7 => ?_)
      refine i_bl (pc' := 51) [(.aload_n 0, 1), (.aload_n 0, 1)] [some (.ref a0), some (.int x1), some (.int x2), some (.int x3), some (.int x4), some (.int x5), none] [.ref a0, .ref a0] (by decide +kernel) rfl ?_
      refine i_gr (idx := 7) (ci := 11) (k := 1) (t := 2) (p := 16234) (pc' := 54) (by decide +kernel) h0 ?_
      refine i_bl (pc' := 55) [(.iconst 2, 1)] [some (.ref a0), some (.int x1), some (.int x2), some (.int x3), some (.int x4), some (.int x5), none] [.int 2, .ref (sh_r a0 1), .ref a0] (by decide +kernel) rfl ?_
      refine i_al (pc' := 56) (by decide +kernel) (o_11_1 hN h0) ?_
      refine i_cv (ci := 11) (t := 246) (na := 2) (ml := 5) (idx := 245) (pc' := 59) (st' := []) (en := [some (.ref a0), some (.int (m7 (sh_r a0 1) (ix 2))), none, none, none]) (av := [.int (m7 (sh_r a0 1) (ix 2))]) (vo := fun v => some (.int v.1)) (mo := fun v => v.2) (s2 := fun v => .int v.1 :: []) (by decide +kernel) (by decide +kernel) h0 ⟨rfl, rfl, rfl, rfl, rfl, rfl⟩ (fun _ => rfl) (t_246 hN (h0 := h0)) (fun r8 => ?_)
      refine i_bl (pc' := 62) [(.istore 6, 2), (.aload_n 0, 1)] [some (.ref a0), some (.int x1), some (.int x2), some (.int x3), some (.int x4), some (.int x5), some (.int r8.1)] [.ref a0] (by decide +kernel) rfl ?_
      refine i_gr (idx := 49) (ci := 11) (k := 16) (t := 2) (p := 17009) (pc' := 65) (by decide +kernel) h0 ?_
      refine i_bl (pc' := 67) [(.iload 5, 2)] [some (.ref a0), some (.int x1), some (.int x2), some (.int x3), some (.int x4), some (.int x5), some (.int r8.1)] [.int x5, .ref (sh_r a0 16)] (by decide +kernel) rfl ?_
      refine i_al (pc' := 68) (by decide +kernel) (o_11_16 hN h0) ?_
      exact i_ri (by decide +kernel) rfl
    · refine i_bl (pc' := 31) [(.iconst 0, 1)] [some (.ref a0), some (.int x1), some (.int x2), some (.int x3), some (.int x4), some (.int x5), none] [.int 0] (by decide +kernel) rfl ?_
      exact i_ri (by decide +kernel) rfl
  · refine i_bl (pc' := 31) [(.iconst 0, 1)] [some (.ref a0), some (.int x1), some (.int x2), some (.int x3), some (.int x4), some (.int x5), none] [.int 0] (by decide +kernel) rfl ?_
    exact i_ri (by decide +kernel) rfl

/-! 256 LanternChessModel.messageTicks(IIII)I -/
noncomputable def d_256 (a0 : Nat) (x1 : Int32) (x2 : Int32) (x3 : Int32) (x4 : Int32) (m : Mm) : Option (Int32 × Mm) := (d_253 a0 x1 x2 x3 x4 m).bind fun v1 => (d_183 a0 v1 m).bind fun r2 => if r2.1 = true then ((d_214 a0 x1 x2 r2.2).bind fun v3 => (d_214 a0 x3 x4 r2.2).bind fun v4 => (d_243 a0 v3 v4 r2.2).bind fun m5 => (d_245 a0 m5).bind fun v6 => some (v6, m5)) else (some (0, r2.2))
theorem t_256 {L nx : Nat} (hN : okn nx) {b z : Nat} {m : Mm} {a0 : Nat} (h0 : ok nx a0 11) {x1 : Int32} {x2 : Int32} {x3 : Int32} {x4 : Int32}  : Im (d_256 a0 x1 x2 x3 x4 m) (wI L nx) (ev_dn b z 256 0 [some (.ref a0), some (.int x1), some (.int x2), some (.int x3), some (.int x4)] [] (nx, mem L nx m)) := by
  unfold d_256
  refine i_bl (pc' := 7) [(.aload_n 0, 1), (.aload_n 0, 1), (.iload_n 1, 1), (.iload_n 2, 1), (.iload_n 3, 1), (.iload 4, 2)] [some (.ref a0), some (.int x1), some (.int x2), some (.int x3), some (.int x4)] [.int x4, .int x3, .int x2, .int x1, .ref a0, .ref a0] (by decide +kernel) rfl ?_
  refine i_cv (ci := 11) (t := 253) (na := 5) (ml := 5) (idx := 239) (pc' := 10) (st' := [.ref a0]) (en := [some (.ref a0), some (.int x1), some (.int x2), some (.int x3), some (.int x4)]) (av := [.int x1, .int x2, .int x3, .int x4]) (vo := fun v => some (.int (bi v))) (mo := fun _ => m) (s2 := fun v => .int (bi v) :: [.ref a0]) (by decide +kernel) (by decide +kernel) h0 ⟨rfl, rfl, rfl, rfl, rfl, rfl⟩ (fun _ => rfl) (t_253 hN (h0 := h0)) (fun v1 => ?_)
  refine i_cv (ci := 11) (t := 183) (na := 2) (ml := 2) (idx := 77) (pc' := 13) (st' := []) (en := [some (.ref a0), some (.int (bi v1))]) (av := [.int (bi v1)]) (vo := fun v => some (.int (bi v.1))) (mo := fun v => v.2) (s2 := fun v => .int (bi v.1) :: []) (by decide +kernel) (by decide +kernel) h0 ⟨rfl, rfl, rfl, rfl, rfl, rfl⟩ (fun _ => rfl) (t_183 hN (h0 := h0)) (fun r2 => ?_)
  refine i_bn (off := 5) (t := 18) (pc' := 16) (by decide +kernel) ?_ ?_
  · refine i_bl (pc' := 22) [(.aload_n 0, 1), (.aload_n 0, 1), (.iload_n 1, 1), (.iload_n 2, 1)] [some (.ref a0), some (.int x1), some (.int x2), some (.int x3), some (.int x4)] [.int x2, .int x1, .ref a0, .ref a0] (by decide +kernel) rfl ?_
    refine i_cv (ci := 11) (t := 214) (na := 3) (ml := 3) (idx := 168) (pc' := 25) (st' := [.ref a0]) (en := [some (.ref a0), some (.int x1), some (.int x2)]) (av := [.int x1, .int x2]) (vo := fun v => some (.int v)) (mo := fun _ => r2.2) (s2 := fun v => .int v :: [.ref a0]) (by decide +kernel) (by decide +kernel) h0 ⟨rfl, rfl, rfl, rfl, rfl, rfl⟩ (fun _ => rfl) (t_214 hN (h0 := h0)) (fun v3 => ?_)
    refine i_bl (pc' := 29) [(.aload_n 0, 1), (.iload_n 3, 1), (.iload 4, 2)] [some (.ref a0), some (.int x1), some (.int x2), some (.int x3), some (.int x4)] [.int x4, .int x3, .ref a0, .int v3, .ref a0] (by decide +kernel) rfl ?_
    refine i_cv (ci := 11) (t := 214) (na := 3) (ml := 3) (idx := 168) (pc' := 32) (st' := [.int v3, .ref a0]) (en := [some (.ref a0), some (.int x3), some (.int x4)]) (av := [.int x3, .int x4]) (vo := fun v => some (.int v)) (mo := fun _ => r2.2) (s2 := fun v => .int v :: [.int v3, .ref a0]) (by decide +kernel) (by decide +kernel) h0 ⟨rfl, rfl, rfl, rfl, rfl, rfl⟩ (fun _ => rfl) (t_214 hN (h0 := h0)) (fun v4 => ?_)
    refine i_cv (ci := 11) (t := 243) (na := 3) (ml := 3) (idx := 242) (pc' := 35) (st' := []) (en := [some (.ref a0), some (.int v3), some (.int v4)]) (av := [.int v3, .int v4]) (vo := fun _ => none) (mo := fun m => m) (s2 := fun _ => []) (by decide +kernel) (by decide +kernel) h0 ⟨rfl, rfl, rfl, rfl, rfl, rfl⟩ (fun _ => rfl) (t_243 hN (h0 := h0)) (fun m5 => ?_)
    refine i_bl (pc' := 36) [(.aload_n 0, 1)] [some (.ref a0), some (.int x1), some (.int x2), some (.int x3), some (.int x4)] [.ref a0] (by decide +kernel) rfl ?_
    refine i_cv (ci := 11) (t := 245) (na := 1) (ml := 1) (idx := 248) (pc' := 39) (st' := []) (en := [some (.ref a0)]) (av := []) (vo := fun v => some (.int v)) (mo := fun _ => m5) (s2 := fun v => .int v :: []) (by decide +kernel) (by decide +kernel) h0 ⟨rfl, rfl, rfl, rfl, rfl, rfl⟩ (fun _ => rfl) (t_245 hN (h0 := h0)) (fun v6 => ?_)
    exact i_ri (by decide +kernel) rfl
  · refine i_bl (pc' := 17) [(.iconst 0, 1)] [some (.ref a0), some (.int x1), some (.int x2), some (.int x3), some (.int x4)] [.int 0] (by decide +kernel) rfl ?_
    exact i_ri (by decide +kernel) rfl

/-! 257 LanternChessModel.readsAs(IIII)I -/
noncomputable def d_257 (a0 : Nat) (x1 : Int32) (x2 : Int32) (x3 : Int32) (x4 : Int32) (m : Mm) : Option (Int32 × Mm) := (d_253 a0 x1 x2 x3 x4 m).bind fun v1 => (d_183 a0 v1 m).bind fun r2 => if r2.1 = true then ((d_214 a0 x1 x2 r2.2).bind fun v3 => (d_214 a0 x3 x4 r2.2).bind fun v4 => (d_243 a0 v3 v4 r2.2).bind fun m5 => if ev_in 2 (sh_n (sh_r a0 1)) = true then ((d_246 a0 (m5 (sh_r a0 1) (ix 2)) m5).bind fun r6 => (d_250 a0 r6.2).bind fun v7 => some (v7, r6.2)) else none) else (some (0, r2.2))
theorem t_257 {L nx : Nat} (hN : okn nx) {b z : Nat} {m : Mm} {a0 : Nat} (h0 : ok nx a0 11) {x1 : Int32} {x2 : Int32} {x3 : Int32} {x4 : Int32}  : Im (d_257 a0 x1 x2 x3 x4 m) (wI L nx) (ev_dn b z 257 0 [some (.ref a0), some (.int x1), some (.int x2), some (.int x3), some (.int x4), none] [] (nx, mem L nx m)) := by
  unfold d_257
  refine i_bl (pc' := 7) [(.aload_n 0, 1), (.aload_n 0, 1), (.iload_n 1, 1), (.iload_n 2, 1), (.iload_n 3, 1), (.iload 4, 2)] [some (.ref a0), some (.int x1), some (.int x2), some (.int x3), some (.int x4), none] [.int x4, .int x3, .int x2, .int x1, .ref a0, .ref a0] (by decide +kernel) rfl ?_
  refine i_cv (ci := 11) (t := 253) (na := 5) (ml := 5) (idx := 239) (pc' := 10) (st' := [.ref a0]) (en := [some (.ref a0), some (.int x1), some (.int x2), some (.int x3), some (.int x4)]) (av := [.int x1, .int x2, .int x3, .int x4]) (vo := fun v => some (.int (bi v))) (mo := fun _ => m) (s2 := fun v => .int (bi v) :: [.ref a0]) (by decide +kernel) (by decide +kernel) h0 ⟨rfl, rfl, rfl, rfl, rfl, rfl⟩ (fun _ => rfl) (t_253 hN (h0 := h0)) (fun v1 => ?_)
  refine i_cv (ci := 11) (t := 183) (na := 2) (ml := 2) (idx := 77) (pc' := 13) (st' := []) (en := [some (.ref a0), some (.int (bi v1))]) (av := [.int (bi v1)]) (vo := fun v => some (.int (bi v.1))) (mo := fun v => v.2) (s2 := fun v => .int (bi v.1) :: []) (by decide +kernel) (by decide +kernel) h0 ⟨rfl, rfl, rfl, rfl, rfl, rfl⟩ (fun _ => rfl) (t_183 hN (h0 := h0)) (fun r2 => ?_)
  refine i_bn (off := 5) (t := 18) (pc' := 16) (by decide +kernel) ?_ ?_
  · refine i_bl (pc' := 22) [(.aload_n 0, 1), (.aload_n 0, 1), (.iload_n 1, 1), (.iload_n 2, 1)] [some (.ref a0), some (.int x1), some (.int x2), some (.int x3), some (.int x4), none] [.int x2, .int x1, .ref a0, .ref a0] (by decide +kernel) rfl ?_
    refine i_cv (ci := 11) (t := 214) (na := 3) (ml := 3) (idx := 168) (pc' := 25) (st' := [.ref a0]) (en := [some (.ref a0), some (.int x1), some (.int x2)]) (av := [.int x1, .int x2]) (vo := fun v => some (.int v)) (mo := fun _ => r2.2) (s2 := fun v => .int v :: [.ref a0]) (by decide +kernel) (by decide +kernel) h0 ⟨rfl, rfl, rfl, rfl, rfl, rfl⟩ (fun _ => rfl) (t_214 hN (h0 := h0)) (fun v3 => ?_)
    refine i_bl (pc' := 29) [(.aload_n 0, 1), (.iload_n 3, 1), (.iload 4, 2)] [some (.ref a0), some (.int x1), some (.int x2), some (.int x3), some (.int x4), none] [.int x4, .int x3, .ref a0, .int v3, .ref a0] (by decide +kernel) rfl ?_
    refine i_cv (ci := 11) (t := 214) (na := 3) (ml := 3) (idx := 168) (pc' := 32) (st' := [.int v3, .ref a0]) (en := [some (.ref a0), some (.int x3), some (.int x4)]) (av := [.int x3, .int x4]) (vo := fun v => some (.int v)) (mo := fun _ => r2.2) (s2 := fun v => .int v :: [.int v3, .ref a0]) (by decide +kernel) (by decide +kernel) h0 ⟨rfl, rfl, rfl, rfl, rfl, rfl⟩ (fun _ => rfl) (t_214 hN (h0 := h0)) (fun v4 => ?_)
    refine i_cv (ci := 11) (t := 243) (na := 3) (ml := 3) (idx := 242) (pc' := 35) (st' := []) (en := [some (.ref a0), some (.int v3), some (.int v4)]) (av := [.int v3, .int v4]) (vo := fun _ => none) (mo := fun m => m) (s2 := fun _ => []) (by decide +kernel) (by decide +kernel) h0 ⟨rfl, rfl, rfl, rfl, rfl, rfl⟩ (fun _ => rfl) (t_243 hN (h0 := h0)) (fun m5 => ?_)
    refine i_bl (pc' := 37) [(.aload_n 0, 1), (.aload_n 0, 1)] [some (.ref a0), some (.int x1), some (.int x2), some (.int x3), some (.int x4), none] [.ref a0, .ref a0] (by decide +kernel) rfl ?_
    refine i_gr (idx := 7) (ci := 11) (k := 1) (t := 2) (p := 16234) (pc' := 40) (by decide +kernel) h0 ?_
    refine i_bl (pc' := 41) [(.iconst 2, 1)] [some (.ref a0), some (.int x1), some (.int x2), some (.int x3), some (.int x4), none] [.int 2, .ref (sh_r a0 1), .ref a0] (by decide +kernel) rfl ?_
    refine i_al (pc' := 42) (by decide +kernel) (o_11_1 hN h0) ?_
    refine i_cv (ci := 11) (t := 246) (na := 2) (ml := 5) (idx := 245) (pc' := 45) (st' := []) (en := [some (.ref a0), some (.int (m5 (sh_r a0 1) (ix 2))), none, none, none]) (av := [.int (m5 (sh_r a0 1) (ix 2))]) (vo := fun v => some (.int v.1)) (mo := fun v => v.2) (s2 := fun v => .int v.1 :: []) (by decide +kernel) (by decide +kernel) h0 ⟨rfl, rfl, rfl, rfl, rfl, rfl⟩ (fun _ => rfl) (t_246 hN (h0 := h0)) (fun r6 => ?_)
    refine i_bl (pc' := 48) [(.istore 5, 2), (.aload_n 0, 1)] [some (.ref a0), some (.int x1), some (.int x2), some (.int x3), some (.int x4), some (.int r6.1)] [.ref a0] (by decide +kernel) rfl ?_
    refine i_cv (ci := 11) (t := 250) (na := 1) (ml := 5) (idx := 251) (pc' := 51) (st' := []) (en := [some (.ref a0), none, none, none, none]) (av := []) (vo := fun v => some (.int v)) (mo := fun _ => r6.2) (s2 := fun v => .int v :: []) (by decide +kernel) (by decide +kernel) h0 ⟨rfl, rfl, rfl, rfl, rfl, rfl⟩ (fun _ => rfl) (t_250 hN (h0 := h0)) (fun v7 => ?_)
    exact i_ri (by decide +kernel) rfl
  · refine i_bl (pc' := 17) [(.iconst 0, 1)] [some (.ref a0), some (.int x1), some (.int x2), some (.int x3), some (.int x4), none] [.int 0] (by decide +kernel) rfl ?_
    exact i_ri (by decide +kernel) rfl

/-! 258 LanternChessModel.loses(I)V -/
noncomputable def d_258 (a0 : Nat) (x1 : Int32) (m : Mm) : Option Mm := if ev_in 2 (sh_n (sh_r a0 1)) = true then (if ev_in (15 + x1) (sh_n (sh_r a0 1)) = true then (if ev_in 2 (sh_n (sh_r a0 1)) = true then (wb (wr m (sh_r a0 1) (ix 2) ((m (sh_r a0 1) (ix 2)) + (m (sh_r a0 1) (ix (15 + x1))))) fun m1 => if ev_in (15 + x1) (sh_n (sh_r a0 1)) = true then (wb (wr m1 (sh_r a0 1) (ix (15 + x1)) (0 : Int32)) fun m2 => if ev_in 4 (sh_n (sh_r a0 1)) = true then (wb (wr m2 (sh_r a0 1) (ix 4) (2 - x1)) fun m3 => some m3) else none) else none) else none) else none) else none
theorem t_258 {L nx : Nat} (hN : okn nx) {b z : Nat} {m : Mm} {a0 : Nat} (h0 : ok nx a0 11) {x1 : Int32}  : Im (d_258 a0 x1 m) (wV L nx) (ev_dn b z 258 0 [some (.ref a0), some (.int x1)] [] (nx, mem L nx m)) := by
  unfold d_258
  refine i_bl (pc' := 1) [(.aload_n 0, 1)] [some (.ref a0), some (.int x1)] [.ref a0] (by decide +kernel) rfl ?_
  refine i_gr (idx := 7) (ci := 11) (k := 1) (t := 2) (p := 16234) (pc' := 4) (by decide +kernel) h0 ?_
  refine i_bl (pc' := 6) [(.iconst 2, 1), (.aload_n 0, 1)] [some (.ref a0), some (.int x1)] [.ref a0, .int 2, .ref (sh_r a0 1)] (by decide +kernel) rfl ?_
  refine i_gr (idx := 7) (ci := 11) (k := 1) (t := 2) (p := 16234) (pc' := 9) (by decide +kernel) h0 ?_
  refine i_bl (pc' := 10) [(.iconst 2, 1)] [some (.ref a0), some (.int x1)] [.int 2, .ref (sh_r a0 1), .int 2, .ref (sh_r a0 1)] (by decide +kernel) rfl ?_
  refine i_al (pc' := 11) (by decide +kernel) (o_11_1 hN h0) ?_
  refine i_bl (pc' := 12) [(.aload_n 0, 1)] [some (.ref a0), some (.int x1)] [.ref a0, .int (m (sh_r a0 1) (ix 2)), .int 2, .ref (sh_r a0 1)] (by decide +kernel) rfl ?_
  refine i_gr (idx := 7) (ci := 11) (k := 1) (t := 2) (p := 16234) (pc' := 15) (by decide +kernel) h0 ?_
  refine i_bl (pc' := 19) [(.bipush (15), 2), (.iload_n 1, 1), (.iadd, 1)] [some (.ref a0), some (.int x1)] [.int (15 + x1), .ref (sh_r a0 1), .int (m (sh_r a0 1) (ix 2)), .int 2, .ref (sh_r a0 1)] (by decide +kernel) rfl ?_
  refine i_al (pc' := 20) (by decide +kernel) (o_11_1 hN h0) ?_
  refine i_bl (pc' := 21) [(.iadd, 1)] [some (.ref a0), some (.int x1)] [.int ((m (sh_r a0 1) (ix 2)) + (m (sh_r a0 1) (ix (15 + x1)))), .int 2, .ref (sh_r a0 1)] (by decide +kernel) rfl ?_
  refine i_as (y := ((m (sh_r a0 1) (ix 2)) + (m (sh_r a0 1) (ix (15 + x1))))) (pc' := 22) (by decide +kernel) (o_11_1 hN h0) (fun m1 => ?_)
  refine i_bl (pc' := 23) [(.aload_n 0, 1)] [some (.ref a0), some (.int x1)] [.ref a0] (by decide +kernel) rfl ?_
  refine i_gr (idx := 7) (ci := 11) (k := 1) (t := 2) (p := 16234) (pc' := 26) (by decide +kernel) h0 ?_
  refine i_bl (pc' := 31) [(.bipush (15), 2), (.iload_n 1, 1), (.iadd, 1), (.iconst 0, 1)] [some (.ref a0), some (.int x1)] [.int 0, .int (15 + x1), .ref (sh_r a0 1)] (by decide +kernel) rfl ?_
  refine i_as (y := (0 : Int32)) (pc' := 32) (by decide +kernel) (o_11_1 hN h0) (fun m2 => ?_)
  refine i_bl (pc' := 33) [(.aload_n 0, 1)] [some (.ref a0), some (.int x1)] [.ref a0] (by decide +kernel) rfl ?_
  refine i_gr (idx := 7) (ci := 11) (k := 1) (t := 2) (p := 16234) (pc' := 36) (by decide +kernel) h0 ?_
  refine i_bl (pc' := 40) [(.iconst 4, 1), (.iconst 2, 1), (.iload_n 1, 1), (.isub, 1)] [some (.ref a0), some (.int x1)] [.int (2 - x1), .int 4, .ref (sh_r a0 1)] (by decide +kernel) rfl ?_
  refine i_as (y := (2 - x1)) (pc' := 41) (by decide +kernel) (o_11_1 hN h0) (fun m3 => ?_)
  exact i_rv (by decide +kernel) rfl

/-! 259 LanternChessModel.roomIn(III)I -/
noncomputable def d_259_55 (a0 : Nat) (x1 : Int32) (x2 : Int32) (x3 : Int32) (m : Mm) : Option (Int32 × Mm) := if ev_in x1 (sh_n (sh_r a0 1)) = true then (if ev_in x1 (sh_n (sh_r a0 1)) = true then (wb (wr m (sh_r a0 1) (ix x1) ((m (sh_r a0 1) (ix x1)) + 1)) fun m1 => if ev_in x1 (sh_n (sh_r a0 1)) = true then (some (x2 + (x3 * ((m1 (sh_r a0 1) (ix x1)) - 1)), m1)) else none) else none) else none
theorem t_259_55 {L nx : Nat} (hN : okn nx) {b z : Nat} {m : Mm} {a0 : Nat} (h0 : ok nx a0 11) {x1 : Int32} {x2 : Int32} {x3 : Int32} {o4 : Option Value} : Im (d_259_55 a0 x1 x2 x3 m) (wI L nx) (ev_dn b z 259 55 [some (.ref a0), some (.int x1), some (.int x2), some (.int x3), o4] [] (nx, mem L nx m)) := by
  unfold d_259_55
  refine i_bl (pc' := 56) [(.aload_n 0, 1)] [some (.ref a0), some (.int x1), some (.int x2), some (.int x3), o4] [.ref a0] (by decide +kernel) rfl ?_
  refine i_gr (idx := 7) (ci := 11) (k := 1) (t := 2) (p := 16234) (pc' := 59) (by decide +kernel) h0 ?_
  refine i_bl (pc' := 61) [(.iload_n 1, 1), (.aload_n 0, 1)] [some (.ref a0), some (.int x1), some (.int x2), some (.int x3), o4] [.ref a0, .int x1, .ref (sh_r a0 1)] (by decide +kernel) rfl ?_
  refine i_gr (idx := 7) (ci := 11) (k := 1) (t := 2) (p := 16234) (pc' := 64) (by decide +kernel) h0 ?_
  refine i_bl (pc' := 65) [(.iload_n 1, 1)] [some (.ref a0), some (.int x1), some (.int x2), some (.int x3), o4] [.int x1, .ref (sh_r a0 1), .int x1, .ref (sh_r a0 1)] (by decide +kernel) rfl ?_
  refine i_al (pc' := 66) (by decide +kernel) (o_11_1 hN h0) ?_
  refine i_bl (pc' := 68) [(.iconst 1, 1), (.iadd, 1)] [some (.ref a0), some (.int x1), some (.int x2), some (.int x3), o4] [.int ((m (sh_r a0 1) (ix x1)) + 1), .int x1, .ref (sh_r a0 1)] (by decide +kernel) rfl ?_
  refine i_as (y := ((m (sh_r a0 1) (ix x1)) + 1)) (pc' := 69) (by decide +kernel) (o_11_1 hN h0) (fun m1 => ?_)
  refine i_bl (pc' := 72) [(.iload_n 2, 1), (.iload_n 3, 1), (.aload_n 0, 1)] [some (.ref a0), some (.int x1), some (.int x2), some (.int x3), o4] [.ref a0, .int x3, .int x2] (by decide +kernel) rfl ?_
  refine i_gr (idx := 7) (ci := 11) (k := 1) (t := 2) (p := 16234) (pc' := 75) (by decide +kernel) h0 ?_
  refine i_bl (pc' := 76) [(.iload_n 1, 1)] [some (.ref a0), some (.int x1), some (.int x2), some (.int x3), o4] [.int x1, .ref (sh_r a0 1), .int x3, .int x2] (by decide +kernel) rfl ?_
  refine i_al (pc' := 77) (by decide +kernel) (o_11_1 hN h0) ?_
  refine i_bl (pc' := 81) [(.iconst 1, 1), (.isub, 1), (.imul, 1), (.iadd, 1)] [some (.ref a0), some (.int x1), some (.int x2), some (.int x3), o4] [.int (x2 + (x3 * ((m1 (sh_r a0 1) (ix x1)) - 1)))] (by decide +kernel) rfl ?_
  exact i_ri (by decide +kernel) rfl

noncomputable def E_259_14 (L nx b z : Nat) (a0 : Nat) (x1 : Int32) (x2 : Int32) (x3 : Int32) (d : Unit) (s : (Int32 × Mm)) : ev_Q := ev_dn b z 259 14 [some (.ref a0), some (.int x1), some (.int x2), some (.int x3), some (.int s.1)] [] (nx, mem L nx s.2)
noncomputable def d_259_47 (a0 : Nat) (x1 : Int32) (x2 : Int32) (x3 : Int32) (m : Mm) : Option (Int32 × Mm) := if ev_in x1 (sh_n (sh_r a0 1)) = true then (wb (wr m (sh_r a0 1) (ix x1) (19 : Int32)) fun m2 => d_259_55 a0 x1 x2 x3 m2) else none
theorem t_259_47 {L nx : Nat} (hN : okn nx) {b z : Nat} {m : Mm} {a0 : Nat} (h0 : ok nx a0 11) {x1 : Int32} {x2 : Int32} {x3 : Int32} {o4 : Option Value} : Im (d_259_47 a0 x1 x2 x3 m) (wI L nx) (ev_dn b z 259 47 [some (.ref a0), some (.int x1), some (.int x2), some (.int x3), o4] [] (nx, mem L nx m)) := by
  unfold d_259_47
  refine i_bl (pc' := 48) [(.aload_n 0, 1)] [some (.ref a0), some (.int x1), some (.int x2), some (.int x3), o4] [.ref a0] (by decide +kernel) rfl ?_
  refine i_gr (idx := 7) (ci := 11) (k := 1) (t := 2) (p := 16234) (pc' := 51) (by decide +kernel) h0 ?_
  refine i_bl (pc' := 54) [(.iload_n 1, 1), (.bipush (19), 2)] [some (.ref a0), some (.int x1), some (.int x2), some (.int x3), o4] [.int 19, .int x1, .ref (sh_r a0 1)] (by decide +kernel) rfl ?_
  refine i_as (y := (19 : Int32)) (pc' := 55) (by decide +kernel) (o_11_1 hN h0) (fun m2 => ?_)
  exact t_259_55 hN (h0 := h0)

noncomputable def s_259_14 (a0 : Nat) (x1 : Int32) (x2 : Int32) (x3 : Int32) (x4 : Int32) (m : Mm) : Option ((Int32 × Mm) ⊕ (Int32 × Mm)) := if (x2 + (x3 * 19)) ≤ x4 then ((d_259_47 a0 x1 x2 x3 m).map Sum.inr) else (if ev_in (x4 + x3) (sh_n (sh_r a0 1)) = true then (if ev_in x4 (sh_n (sh_r a0 1)) = true then (wb (wr m (sh_r a0 1) (ix x4) (m (sh_r a0 1) (ix (x4 + x3)))) fun m3 => wb (x4 + 1) fun y4 => some (.inl (y4, m3))) else none) else none)
noncomputable def d_259_14 (a0 : Nat) (x1 : Int32) (x2 : Int32) (x3 : Int32) (x4 : Int32) (m : Mm) : Option (Int32 × Mm) := it (fun s => s_259_14 a0 x1 x2 x3 s.1 s.2) (x4, m)
theorem e_259_14 (a0 : Nat) (x1 : Int32) (x2 : Int32) (x3 : Int32) (x4 : Int32) (m : Mm) : d_259_14 a0 x1 x2 x3 x4 m = oi (s_259_14 a0 x1 x2 x3 x4 m) (fun s => d_259_14 a0 x1 x2 x3 s.1 s.2) := it_eq _
theorem u_259_14 {L nx : Nat} (hN : okn nx) {b z : Nat} {m : Mm} {a0 : Nat} (h0 : ok nx a0 11) {x1 : Int32} {x2 : Int32} {x3 : Int32} {x4 : Int32}  : Im (s_259_14 a0 x1 x2 x3 x4 m) (kL (wI L nx) (E_259_14 L nx b z a0 x1 x2 x3)) (ev_dn b z 259 14 [some (.ref a0), some (.int x1), some (.int x2), some (.int x3), some (.int x4)] [] (nx, mem L nx m)) := by
  unfold s_259_14
  refine i_bl (pc' := 22) [(.iload 4, 2), (.iload_n 2, 1), (.iload_n 3, 1), (.bipush (19), 2), (.imul, 1), (.iadd, 1)] [some (.ref a0), some (.int x1), some (.int x2), some (.int x3), some (.int x4)] [.int (x2 + (x3 * 19)), .int x4] (by decide +kernel) rfl ?_
  refine i_ic (c := .ge) (off := 25) (t := 47) (pc' := 25) (p := (x2 + (x3 * 19)) ≤ x4) (by decide +kernel) rfl ?_ ?_
  · exact i_mr (t_259_47 hN (h0 := h0))
  · refine i_bl (pc' := 26) [(.aload_n 0, 1)] [some (.ref a0), some (.int x1), some (.int x2), some (.int x3), some (.int x4)] [.ref a0] (by decide +kernel) rfl ?_
    refine i_gr (idx := 7) (ci := 11) (k := 1) (t := 2) (p := 16234) (pc' := 29) (by decide +kernel) h0 ?_
    refine i_bl (pc' := 32) [(.iload 4, 2), (.aload_n 0, 1)] [some (.ref a0), some (.int x1), some (.int x2), some (.int x3), some (.int x4)] [.ref a0, .int x4, .ref (sh_r a0 1)] (by decide +kernel) rfl ?_
    refine i_gr (idx := 7) (ci := 11) (k := 1) (t := 2) (p := 16234) (pc' := 35) (by decide +kernel) h0 ?_
    refine i_bl (pc' := 39) [(.iload 4, 2), (.iload_n 3, 1), (.iadd, 1)] [some (.ref a0), some (.int x1), some (.int x2), some (.int x3), some (.int x4)] [.int (x4 + x3), .ref (sh_r a0 1), .int x4, .ref (sh_r a0 1)] (by decide +kernel) rfl ?_
    refine i_al (pc' := 40) (by decide +kernel) (o_11_1 hN h0) ?_
    refine i_as (y := (m (sh_r a0 1) (ix (x4 + x3)))) (pc' := 41) (by decide +kernel) (o_11_1 hN h0) (fun m3 => ?_)
    refine i_bl (pc' := 44) [(.iinc 4 (1), 3)] [some (.ref a0), some (.int x1), some (.int x2), some (.int x3), some (.int (x4 + 1))] [] (by decide +kernel) rfl ?_
    refine i_wb (fun y4 => ev_dn b z 259 44 [some (.ref a0), some (.int x1), some (.int x2), some (.int x3), some (.int y4)] [] (nx, mem L nx m3)) (fun y4 => ?_)
    refine i_go (t := 14) (off := -30) (by decide +kernel) ?_
    exact i_co () rfl

theorem t_259_14 {L nx : Nat} (hN : okn nx) {b z : Nat} {m : Mm} {a0 : Nat} (h0 : ok nx a0 11) {x1 : Int32} {x2 : Int32} {x3 : Int32} {x4 : Int32}  : Im (d_259_14 a0 x1 x2 x3 x4 m) (wI L nx) (ev_dn b z 259 14 [some (.ref a0), some (.int x1), some (.int x2), some (.int x3), some (.int x4)] [] (nx, mem L nx m)) := by
  exact i_it (f := fun s => s_259_14 a0 x1 x2 x3 s.1 s.2) (E := E_259_14 L nx b z a0 x1 x2 x3) (K := (wI L nx)) (fun d s => u_259_14 hN (h0 := h0)) () (x4, m)
noncomputable def d_259 (a0 : Nat) (x1 : Int32) (x2 : Int32) (x3 : Int32) (m : Mm) : Option (Int32 × Mm) := if ev_in x1 (sh_n (sh_r a0 1)) = true then (if ¬ (m (sh_r a0 1) (ix x1)) = 20 then (d_259_55 a0 x1 x2 x3 m) else (d_259_14 a0 x1 x2 x3 x2 m)) else none
theorem t_259 {L nx : Nat} (hN : okn nx) {b z : Nat} {m : Mm} {a0 : Nat} (h0 : ok nx a0 11) {x1 : Int32} {x2 : Int32} {x3 : Int32}  : Im (d_259 a0 x1 x2 x3 m) (wI L nx) (ev_dn b z 259 0 [some (.ref a0), some (.int x1), some (.int x2), some (.int x3), none] [] (nx, mem L nx m)) := by
  unfold d_259
  refine i_bl (pc' := 1) [(.aload_n 0, 1)] [some (.ref a0), some (.int x1), some (.int x2), some (.int x3), none] [.ref a0] (by decide +kernel) rfl ?_
  refine i_gr (idx := 7) (ci := 11) (k := 1) (t := 2) (p := 16234) (pc' := 4) (by decide +kernel) h0 ?_
  refine i_bl (pc' := 5) [(.iload_n 1, 1)] [some (.ref a0), some (.int x1), some (.int x2), some (.int x3), none] [.int x1, .ref (sh_r a0 1)] (by decide +kernel) rfl ?_
  refine i_al (pc' := 6) (by decide +kernel) (o_11_1 hN h0) ?_
  refine i_bl (pc' := 8) [(.bipush (20), 2)] [some (.ref a0), some (.int x1), some (.int x2), some (.int x3), none] [.int 20, .int (m (sh_r a0 1) (ix x1))] (by decide +kernel) rfl ?_
  refine i_ic (c := .ne) (off := 47) (t := 55) (pc' := 11) (p := ¬ (m (sh_r a0 1) (ix x1)) = 20) (by decide +kernel) rfl ?_ ?_
  · exact t_259_55 hN (h0 := h0)
  · refine i_bl (pc' := 14) [(.iload_n 2, 1), (.istore 4, 2)] [some (.ref a0), some (.int x1), some (.int x2), some (.int x3), some (.int x2)] [] (by decide +kernel) rfl ?_
    exact t_259_14 hN (h0 := h0)

/-! 260 LanternChessModel.awaited(III)I -/
noncomputable def d_260 (a0 : Nat) (x1 : Int32) (x2 : Int32) (x3 : Int32) (m : Mm) : Option (Int32 × Mm) := (d_194 x1).bind fun v1 => if ev_in (v1 + x2) (sh_n (sh_r a0 1)) = true then (wb (m (sh_r a0 1) (ix (v1 + x2))) fun y2 => if ev_in (v1 + x3) (sh_n (sh_r a0 1)) = true then (wb (m (sh_r a0 1) (ix (v1 + x3))) fun y3 => (d_206 a0 v1 x2 x3 m).bind fun m4 => (d_209 a0 v1 m4).bind fun v5 => if ev_in (v1 + x2) (sh_n (sh_r a0 1)) = true then (wb (wr m4 (sh_r a0 1) (ix (v1 + x2)) y2) fun m6 => if ev_in (v1 + x3) (sh_n (sh_r a0 1)) = true then (wb (wr m6 (sh_r a0 1) (ix (v1 + x3)) y3) fun m7 => some (2 + (v5 - v5 / 5 * 5), m7)) else none) else none) else none) else none
theorem t_260 {L nx : Nat} (hN : okn nx) {b z : Nat} {m : Mm} {a0 : Nat} (h0 : ok nx a0 11) {x1 : Int32} {x2 : Int32} {x3 : Int32}  : Im (d_260 a0 x1 x2 x3 m) (wI L nx) (ev_dn b z 260 0 [some (.ref a0), some (.int x1), some (.int x2), some (.int x3), none, none, none, none] [] (nx, mem L nx m)) := by
  unfold d_260
  refine i_bl (pc' := 1) [(.iload_n 1, 1)] [some (.ref a0), some (.int x1), some (.int x2), some (.int x3), none, none, none, none] [.int x1] (by decide +kernel) rfl ?_
  refine i_cs (t := 194) (na := 1) (ml := 1) (idx := 165) (pc' := 4) (st' := []) (en := [some (.int x1)]) (av := [.int x1]) (vo := fun v => some (.int v)) (mo := fun _ => m) (s2 := fun v => .int v :: []) (by decide +kernel) ⟨rfl, rfl, rfl, rfl, rfl, rfl⟩ (fun _ => rfl) (t_194 hN ) (fun v1 => ?_)
  refine i_bl (pc' := 7) [(.istore 4, 2), (.aload_n 0, 1)] [some (.ref a0), some (.int x1), some (.int x2), some (.int x3), some (.int v1), none, none, none] [.ref a0] (by decide +kernel) rfl ?_
  refine i_gr (idx := 7) (ci := 11) (k := 1) (t := 2) (p := 16234) (pc' := 10) (by decide +kernel) h0 ?_
  refine i_bl (pc' := 14) [(.iload 4, 2), (.iload_n 2, 1), (.iadd, 1)] [some (.ref a0), some (.int x1), some (.int x2), some (.int x3), some (.int v1), none, none, none] [.int (v1 + x2), .ref (sh_r a0 1)] (by decide +kernel) rfl ?_
  refine i_al (pc' := 15) (by decide +kernel) (o_11_1 hN h0) ?_
  refine i_bl (pc' := 17) [(.istore 5, 2)] [some (.ref a0), some (.int x1), some (.int x2), some (.int x3), some (.int v1), some (.int (m (sh_r a0 1) (ix (v1 + x2)))), none, none] [] (by decide +kernel) rfl ?_
  refine i_wb (fun y2 => ev_dn b z 260 17 [some (.ref a0), some (.int x1), some (.int x2), some (.int x3), some (.int v1), some (.int y2), none, none] [] (nx, mem L nx m)) (fun y2 => ?_)
  refine i_bl (pc' := 18) [(.aload_n 0, 1)] [some (.ref a0), some (.int x1), some (.int x2), some (.int x3), some (.int v1), some (.int y2), none, none] [.ref a0] (by decide +kernel) rfl ?_
  refine i_gr (idx := 7) (ci := 11) (k := 1) (t := 2) (p := 16234) (pc' := 21) (by decide +kernel) h0 ?_
  refine i_bl (pc' := 25) [(.iload 4, 2), (.iload_n 3, 1), (.iadd, 1)] [some (.ref a0), some (.int x1), some (.int x2), some (.int x3), some (.int v1), some (.int y2), none, none] [.int (v1 + x3), .ref (sh_r a0 1)] (by decide +kernel) rfl ?_
  refine i_al (pc' := 26) (by decide +kernel) (o_11_1 hN h0) ?_
  refine i_bl (pc' := 28) [(.istore 6, 2)] [some (.ref a0), some (.int x1), some (.int x2), some (.int x3), some (.int v1), some (.int y2), some (.int (m (sh_r a0 1) (ix (v1 + x3)))), none] [] (by decide +kernel) rfl ?_
  refine i_wb (fun y3 => ev_dn b z 260 28 [some (.ref a0), some (.int x1), some (.int x2), some (.int x3), some (.int v1), some (.int y2), some (.int y3), none] [] (nx, mem L nx m)) (fun y3 => ?_)
  refine i_bl (pc' := 33) [(.aload_n 0, 1), (.iload 4, 2), (.iload_n 2, 1), (.iload_n 3, 1)] [some (.ref a0), some (.int x1), some (.int x2), some (.int x3), some (.int v1), some (.int y2), some (.int y3), none] [.int x3, .int x2, .int v1, .ref a0] (by decide +kernel) rfl ?_
  refine i_cv (ci := 11) (t := 206) (na := 4) (ml := 5) (idx := 137) (pc' := 36) (st' := []) (en := [some (.ref a0), some (.int v1), some (.int x2), some (.int x3), none]) (av := [.int v1, .int x2, .int x3]) (vo := fun _ => none) (mo := fun m => m) (s2 := fun _ => []) (by decide +kernel) (by decide +kernel) h0 ⟨rfl, rfl, rfl, rfl, rfl, rfl⟩ (fun _ => rfl) (t_206 hN (h0 := h0)) (fun m4 => ?_)
  refine i_bl (pc' := 39) [(.aload_n 0, 1), (.iload 4, 2)] [some (.ref a0), some (.int x1), some (.int x2), some (.int x3), some (.int v1), some (.int y2), some (.int y3), none] [.int v1, .ref a0] (by decide +kernel) rfl ?_
  refine i_cv (ci := 11) (t := 209) (na := 2) (ml := 4) (idx := 182) (pc' := 42) (st' := []) (en := [some (.ref a0), some (.int v1), none, none]) (av := [.int v1]) (vo := fun v => some (.int v)) (mo := fun _ => m4) (s2 := fun v => .int v :: []) (by decide +kernel) (by decide +kernel) h0 ⟨rfl, rfl, rfl, rfl, rfl, rfl⟩ (fun _ => rfl) (t_209 hN (h0 := h0)) (fun v5 => ?_)
  refine i_bl (pc' := 45) [(.istore 7, 2), (.aload_n 0, 1)] [some (.ref a0), some (.int x1), some (.int x2), some (.int x3), some (.int v1), some (.int y2), some (.int y3), some (.int v5)] [.ref a0] (by decide +kernel) rfl ?_
  refine i_gr (idx := 7) (ci := 11) (k := 1) (t := 2) (p := 16234) (pc' := 48) (by decide +kernel) h0 ?_
  refine i_bl (pc' := 54) [(.iload 4, 2), (.iload_n 2, 1), (.iadd, 1), (.iload 5, 2)] [some (.ref a0), some (.int x1), some (.int x2), some (.int x3), some (.int v1), some (.int y2), some (.int y3), some (.int v5)] [.int y2, .int (v1 + x2), .ref (sh_r a0 1)] (by decide +kernel) rfl ?_
  refine i_as (y := y2) (pc' := 55) (by decide +kernel) (o_11_1 hN h0) (fun m6 => ?_)
  refine i_bl (pc' := 56) [(.aload_n 0, 1)] [some (.ref a0), some (.int x1), some (.int x2), some (.int x3), some (.int v1), some (.int y2), some (.int y3), some (.int v5)] [.ref a0] (by decide +kernel) rfl ?_
  refine i_gr (idx := 7) (ci := 11) (k := 1) (t := 2) (p := 16234) (pc' := 59) (by decide +kernel) h0 ?_
  refine i_bl (pc' := 65) [(.iload 4, 2), (.iload_n 3, 1), (.iadd, 1), (.iload 6, 2)] [some (.ref a0), some (.int x1), some (.int x2), some (.int x3), some (.int v1), some (.int y2), some (.int y3), some (.int v5)] [.int y3, .int (v1 + x3), .ref (sh_r a0 1)] (by decide +kernel) rfl ?_
  refine i_as (y := y3) (pc' := 66) (by decide +kernel) (o_11_1 hN h0) (fun m7 => ?_)
  refine i_bl (pc' := 70) [(.iconst 2, 1), (.iload 7, 2), (.iconst 5, 1)] [some (.ref a0), some (.int x1), some (.int x2), some (.int x3), some (.int v1), some (.int y2), some (.int y3), some (.int v5)] [.int 5, .int v5, .int 2] (by decide +kernel) rfl ?_
  refine i_rem0 (pc' := 71) (by decide +kernel) (by decide) ?_
  refine i_bl (pc' := 72) [(.iadd, 1)] [some (.ref a0), some (.int x1), some (.int x2), some (.int x3), some (.int v1), some (.int y2), some (.int y3), some (.int v5)] [.int (2 + (v5 - v5 / 5 * 5))] (by decide +kernel) rfl ?_
  exact i_ri (by decide +kernel) rfl

/-! 261 LanternChessModel.sends(IIZ)I -/
noncomputable def d_261_346 (a0 : Nat) (x4 : Int32) (x12 : Int32) (x14 : Bool) (s0 : Nat) (s1 : Int32) (s2 : Bool) (m : Mm) : Option (Int32 × Mm) := if ev_in s1 (sh_n s0) = true then (wb (wr m s0 (ix s1) (bi s2)) fun m26 => if ev_in 12 (sh_n (sh_r a0 1)) = true then (if ev_in 12 (sh_n (sh_r a0 1)) = true then (wb (wr m26 (sh_r a0 1) (ix 12) ((m26 (sh_r a0 1) (ix 12)) + 1)) fun m27 => if ev_in (15 + x4) (sh_n (sh_r a0 1)) = true then (if ev_in 2 (sh_n (sh_r a0 1)) = true then (if ev_in (15 + x4) (sh_n (sh_r a0 1)) = true then (wb (wr m27 (sh_r a0 1) (ix (15 + x4)) ((m27 (sh_r a0 1) (ix (15 + x4))) - (x12 - (m27 (sh_r a0 1) (ix 2))))) fun m28 => if ev_in 2 (sh_n (sh_r a0 1)) = true then (wb (wr m28 (sh_r a0 1) (ix 2) x12) fun m29 => if x14 = true then (some (1, m29)) else (some (0, m29))) else none) else none) else none) else none) else none) else none) else none
theorem t_261_346 {L nx : Nat} (hN : okn nx) {b z : Nat} {m : Mm} {a0 : Nat} (h0 : ok nx a0 11) {s0 : Nat} (hs0 : ok nx s0 100) {x4 : Int32} {x12 : Int32} {x14 : Bool} {s1 : Int32} {s2 : Bool} {o1 : Option Value} {o2 : Option Value} {o3 : Option Value} {o5 : Option Value} {o6 : Option Value} {o7 : Option Value} {o8 : Option Value} {o9 : Option Value} {o10 : Option Value} {o11 : Option Value} {o13 : Option Value} {o15 : Option Value} : Im (d_261_346 a0 x4 x12 x14 s0 s1 s2 m) (wI L nx) (ev_dn b z 261 346 [some (.ref a0), o1, o2, o3, some (.int x4), o5, o6, o7, o8, o9, o10, o11, some (.int x12), o13, some (.int (bi x14)), o15] [.int (bi s2), .int s1, .ref s0] (nx, mem L nx m)) := by
  unfold d_261_346
  refine i_as (y := (bi s2)) (pc' := 347) (by decide +kernel) hs0 (fun m26 => ?_)
  refine i_bl (pc' := 348) [(.aload_n 0, 1)] [some (.ref a0), o1, o2, o3, some (.int x4), o5, o6, o7, o8, o9, o10, o11, some (.int x12), o13, some (.int (bi x14)), o15] [.ref a0] (by decide +kernel) rfl ?_
  refine i_gr (idx := 7) (ci := 11) (k := 1) (t := 2) (p := 16234) (pc' := 351) (by decide +kernel) h0 ?_
  refine i_bl (pc' := 354) [(.bipush (12), 2), (.aload_n 0, 1)] [some (.ref a0), o1, o2, o3, some (.int x4), o5, o6, o7, o8, o9, o10, o11, some (.int x12), o13, some (.int (bi x14)), o15] [.ref a0, .int 12, .ref (sh_r a0 1)] (by decide +kernel) rfl ?_
  refine i_gr (idx := 7) (ci := 11) (k := 1) (t := 2) (p := 16234) (pc' := 357) (by decide +kernel) h0 ?_
  refine i_bl (pc' := 359) [(.bipush (12), 2)] [some (.ref a0), o1, o2, o3, some (.int x4), o5, o6, o7, o8, o9, o10, o11, some (.int x12), o13, some (.int (bi x14)), o15] [.int 12, .ref (sh_r a0 1), .int 12, .ref (sh_r a0 1)] (by decide +kernel) rfl ?_
  refine i_al (pc' := 360) (by decide +kernel) (o_11_1 hN h0) ?_
  refine i_bl (pc' := 362) [(.iconst 1, 1), (.iadd, 1)] [some (.ref a0), o1, o2, o3, some (.int x4), o5, o6, o7, o8, o9, o10, o11, some (.int x12), o13, some (.int (bi x14)), o15] [.int ((m26 (sh_r a0 1) (ix 12)) + 1), .int 12, .ref (sh_r a0 1)] (by decide +kernel) rfl ?_
  refine i_as (y := ((m26 (sh_r a0 1) (ix 12)) + 1)) (pc' := 363) (by decide +kernel) (o_11_1 hN h0) (fun m27 => ?_)
  refine i_bl (pc' := 364) [(.aload_n 0, 1)] [some (.ref a0), o1, o2, o3, some (.int x4), o5, o6, o7, o8, o9, o10, o11, some (.int x12), o13, some (.int (bi x14)), o15] [.ref a0] (by decide +kernel) rfl ?_
  refine i_gr (idx := 7) (ci := 11) (k := 1) (t := 2) (p := 16234) (pc' := 367) (by decide +kernel) h0 ?_
  refine i_bl (pc' := 373) [(.bipush (15), 2), (.iload 4, 2), (.iadd, 1), (.aload_n 0, 1)] [some (.ref a0), o1, o2, o3, some (.int x4), o5, o6, o7, o8, o9, o10, o11, some (.int x12), o13, some (.int (bi x14)), o15] [.ref a0, .int (15 + x4), .ref (sh_r a0 1)] (by decide +kernel) rfl ?_
  refine i_gr (idx := 7) (ci := 11) (k := 1) (t := 2) (p := 16234) (pc' := 376) (by decide +kernel) h0 ?_
  refine i_bl (pc' := 381) [(.bipush (15), 2), (.iload 4, 2), (.iadd, 1)] [some (.ref a0), o1, o2, o3, some (.int x4), o5, o6, o7, o8, o9, o10, o11, some (.int x12), o13, some (.int (bi x14)), o15] [.int (15 + x4), .ref (sh_r a0 1), .int (15 + x4), .ref (sh_r a0 1)] (by decide +kernel) rfl ?_
  refine i_al (pc' := 382) (by decide +kernel) (o_11_1 hN h0) ?_
  refine i_bl (pc' := 385) [(.iload 12, 2), (.aload_n 0, 1)] [some (.ref a0), o1, o2, o3, some (.int x4), o5, o6, o7, o8, o9, o10, o11, some (.int x12), o13, some (.int (bi x14)), o15] [.ref a0, .int x12, .int (m27 (sh_r a0 1) (ix (15 + x4))), .int (15 + x4), .ref (sh_r a0 1)] (by decide +kernel) rfl ?_
  refine i_gr (idx := 7) (ci := 11) (k := 1) (t := 2) (p := 16234) (pc' := 388) (by decide +kernel) h0 ?_
  refine i_bl (pc' := 389) [(.iconst 2, 1)] [some (.ref a0), o1, o2, o3, some (.int x4), o5, o6, o7, o8, o9, o10, o11, some (.int x12), o13, some (.int (bi x14)), o15] [.int 2, .ref (sh_r a0 1), .int x12, .int (m27 (sh_r a0 1) (ix (15 + x4))), .int (15 + x4), .ref (sh_r a0 1)] (by decide +kernel) rfl ?_
  refine i_al (pc' := 390) (by decide +kernel) (o_11_1 hN h0) ?_
  refine i_bl (pc' := 392) [(.isub, 1), (.isub, 1)] [some (.ref a0), o1, o2, o3, some (.int x4), o5, o6, o7, o8, o9, o10, o11, some (.int x12), o13, some (.int (bi x14)), o15] [.int ((m27 (sh_r a0 1) (ix (15 + x4))) - (x12 - (m27 (sh_r a0 1) (ix 2)))), .int (15 + x4), .ref (sh_r a0 1)] (by decide +kernel) rfl ?_
  refine i_as (y := ((m27 (sh_r a0 1) (ix (15 + x4))) - (x12 - (m27 (sh_r a0 1) (ix 2))))) (pc' := 393) (by decide +kernel) (o_11_1 hN h0) (fun m28 => ?_)
  refine i_bl (pc' := 394) [(.aload_n 0, 1)] [some (.ref a0), o1, o2, o3, some (.int x4), o5, o6, o7, o8, o9, o10, o11, some (.int x12), o13, some (.int (bi x14)), o15] [.ref a0] (by decide +kernel) rfl ?_
  refine i_gr (idx := 7) (ci := 11) (k := 1) (t := 2) (p := 16234) (pc' := 397) (by decide +kernel) h0 ?_
  refine i_bl (pc' := 400) [(.iconst 2, 1), (.iload 12, 2)] [some (.ref a0), o1, o2, o3, some (.int x4), o5, o6, o7, o8, o9, o10, o11, some (.int x12), o13, some (.int (bi x14)), o15] [.int x12, .int 2, .ref (sh_r a0 1)] (by decide +kernel) rfl ?_
  refine i_as (y := x12) (pc' := 401) (by decide +kernel) (o_11_1 hN h0) (fun m29 => ?_)
  refine i_bl (pc' := 403) [(.iload 14, 2)] [some (.ref a0), o1, o2, o3, some (.int x4), o5, o6, o7, o8, o9, o10, o11, some (.int x12), o13, some (.int (bi x14)), o15] [.int (bi x14)] (by decide +kernel) rfl ?_
  refine i_bz (off := 7) (t := 410) (pc' := 406) (by decide +kernel) ?_ ?_
  · refine i_bl (pc' := 407) [(.iconst 1, 1)] [some (.ref a0), o1, o2, o3, some (.int x4), o5, o6, o7, o8, o9, o10, o11, some (.int x12), o13, some (.int (bi x14)), o15] [.int 1] (by decide +kernel) rfl ?_
    refine i_go (t := 411) (off := 4) (by decide +kernel) ?_
    exact i_ri (by decide +kernel) rfl
  · refine i_bl (pc' := 411) [(.iconst 0, 1)] [some (.ref a0), o1, o2, o3, some (.int x4), o5, o6, o7, o8, o9, o10, o11, some (.int x12), o13, some (.int (bi x14)), o15] [.int 0] (by decide +kernel) rfl ?_
    exact i_ri (by decide +kernel) rfl

noncomputable def d_261_236 (a0 : Nat) (x4 : Int32) (x6 : Int32) (x7 : Int32) (x8 : Int32) (x9 : Int32) (x10 : Int32) (x12 : Int32) (x13 : Int32) (s0 : Bool) (m : Mm) : Option (Int32 × Mm) := (d_259 a0 13 304 8 m).bind fun r18 => if ev_in r18.1 (sh_n (sh_r a0 1)) = true then (wb (wr r18.2 (sh_r a0 1) (ix r18.1) x6) fun m19 => if ev_in (r18.1 + 1) (sh_n (sh_r a0 1)) = true then (wb (wr m19 (sh_r a0 1) (ix (r18.1 + 1)) x4) fun m20 => if ev_in (r18.1 + 2) (sh_n (sh_r a0 1)) = true then (wb (wr m20 (sh_r a0 1) (ix (r18.1 + 2)) x7) fun m21 => if ev_in (r18.1 + 3) (sh_n (sh_r a0 1)) = true then (wb (wr m21 (sh_r a0 1) (ix (r18.1 + 3)) x8) fun m22 => if ev_in (r18.1 + 4) (sh_n (sh_r a0 1)) = true then (wb (wr m22 (sh_r a0 1) (ix (r18.1 + 4)) x9) fun m23 => if ev_in (r18.1 + 5) (sh_n (sh_r a0 1)) = true then (wb (wr m23 (sh_r a0 1) (ix (r18.1 + 5)) x10) fun m24 => if ev_in (r18.1 + 6) (sh_n (sh_r a0 1)) = true then (wb (wr m24 (sh_r a0 1) (ix (r18.1 + 6)) x13) fun m25 => if s0 = true then (d_261_346 a0 x4 x12 s0 (sh_r a0 1) (r18.1 + 7) true m25) else (d_261_346 a0 x4 x12 s0 (sh_r a0 1) (r18.1 + 7) false m25)) else none) else none) else none) else none) else none) else none) else none
theorem t_261_236 {L nx : Nat} (hN : okn nx) {b z : Nat} {m : Mm} {a0 : Nat} (h0 : ok nx a0 11) {x4 : Int32} {x6 : Int32} {x7 : Int32} {x8 : Int32} {x9 : Int32} {x10 : Int32} {x12 : Int32} {x13 : Int32} {s0 : Bool} {o1 : Option Value} {o2 : Option Value} {o3 : Option Value} {o5 : Option Value} {o11 : Option Value} : Im (d_261_236 a0 x4 x6 x7 x8 x9 x10 x12 x13 s0 m) (wI L nx) (ev_dn b z 261 236 [some (.ref a0), o1, o2, o3, some (.int x4), o5, some (.int x6), some (.int x7), some (.int x8), some (.int x9), some (.int x10), o11, some (.int x12), some (.int x13), none, none] [.int (bi s0)] (nx, mem L nx m)) := by
  unfold d_261_236
  refine i_bl (pc' := 246) [(.istore 14, 2), (.aload_n 0, 1), (.bipush (13), 2), (.sipush (304), 3), (.bipush (8), 2)] [some (.ref a0), o1, o2, o3, some (.int x4), o5, some (.int x6), some (.int x7), some (.int x8), some (.int x9), some (.int x10), o11, some (.int x12), some (.int x13), some (.int (bi s0)), none] [.int 8, .int 304, .int 13, .ref a0] (by decide +kernel) rfl ?_
  refine i_cv (ci := 11) (t := 259) (na := 4) (ml := 5) (idx := 265) (pc' := 249) (st' := []) (en := [some (.ref a0), some (.int 13), some (.int 304), some (.int 8), none]) (av := [.int 13, .int 304, .int 8]) (vo := fun v => some (.int v.1)) (mo := fun v => v.2) (s2 := fun v => .int v.1 :: []) (by decide +kernel) (by decide +kernel) h0 ⟨rfl, rfl, rfl, rfl, rfl, rfl⟩ (fun _ => rfl) (t_259 hN (h0 := h0)) (fun r18 => ?_)
  refine i_bl (pc' := 252) [(.istore 15, 2), (.aload_n 0, 1)] [some (.ref a0), o1, o2, o3, some (.int x4), o5, some (.int x6), some (.int x7), some (.int x8), some (.int x9), some (.int x10), o11, some (.int x12), some (.int x13), some (.int (bi s0)), some (.int r18.1)] [.ref a0] (by decide +kernel) rfl ?_
  refine i_gr (idx := 7) (ci := 11) (k := 1) (t := 2) (p := 16234) (pc' := 255) (by decide +kernel) h0 ?_
  refine i_bl (pc' := 259) [(.iload 15, 2), (.iload 6, 2)] [some (.ref a0), o1, o2, o3, some (.int x4), o5, some (.int x6), some (.int x7), some (.int x8), some (.int x9), some (.int x10), o11, some (.int x12), some (.int x13), some (.int (bi s0)), some (.int r18.1)] [.int x6, .int r18.1, .ref (sh_r a0 1)] (by decide +kernel) rfl ?_
  refine i_as (y := x6) (pc' := 260) (by decide +kernel) (o_11_1 hN h0) (fun m19 => ?_)
  refine i_bl (pc' := 261) [(.aload_n 0, 1)] [some (.ref a0), o1, o2, o3, some (.int x4), o5, some (.int x6), some (.int x7), some (.int x8), some (.int x9), some (.int x10), o11, some (.int x12), some (.int x13), some (.int (bi s0)), some (.int r18.1)] [.ref a0] (by decide +kernel) rfl ?_
  refine i_gr (idx := 7) (ci := 11) (k := 1) (t := 2) (p := 16234) (pc' := 264) (by decide +kernel) h0 ?_
  refine i_bl (pc' := 270) [(.iload 15, 2), (.iconst 1, 1), (.iadd, 1), (.iload 4, 2)] [some (.ref a0), o1, o2, o3, some (.int x4), o5, some (.int x6), some (.int x7), some (.int x8), some (.int x9), some (.int x10), o11, some (.int x12), some (.int x13), some (.int (bi s0)), some (.int r18.1)] [.int x4, .int (r18.1 + 1), .ref (sh_r a0 1)] (by decide +kernel) rfl ?_
  refine i_as (y := x4) (pc' := 271) (by decide +kernel) (o_11_1 hN h0) (fun m20 => ?_)
  refine i_bl (pc' := 272) [(.aload_n 0, 1)] [some (.ref a0), o1, o2, o3, some (.int x4), o5, some (.int x6), some (.int x7), some (.int x8), some (.int x9), some (.int x10), o11, some (.int x12), some (.int x13), some (.int (bi s0)), some (.int r18.1)] [.ref a0] (by decide +kernel) rfl ?_
  refine i_gr (idx := 7) (ci := 11) (k := 1) (t := 2) (p := 16234) (pc' := 275) (by decide +kernel) h0 ?_
  refine i_bl (pc' := 281) [(.iload 15, 2), (.iconst 2, 1), (.iadd, 1), (.iload 7, 2)] [some (.ref a0), o1, o2, o3, some (.int x4), o5, some (.int x6), some (.int x7), some (.int x8), some (.int x9), some (.int x10), o11, some (.int x12), some (.int x13), some (.int (bi s0)), some (.int r18.1)] [.int x7, .int (r18.1 + 2), .ref (sh_r a0 1)] (by decide +kernel) rfl ?_
  refine i_as (y := x7) (pc' := 282) (by decide +kernel) (o_11_1 hN h0) (fun m21 => ?_)
  refine i_bl (pc' := 283) [(.aload_n 0, 1)] [some (.ref a0), o1, o2, o3, some (.int x4), o5, some (.int x6), some (.int x7), some (.int x8), some (.int x9), some (.int x10), o11, some (.int x12), some (.int x13), some (.int (bi s0)), some (.int r18.1)] [.ref a0] (by decide +kernel) rfl ?_
  refine i_gr (idx := 7) (ci := 11) (k := 1) (t := 2) (p := 16234) (pc' := 286) (by decide +kernel) h0 ?_
  refine i_bl (pc' := 292) [(.iload 15, 2), (.iconst 3, 1), (.iadd, 1), (.iload 8, 2)] [some (.ref a0), o1, o2, o3, some (.int x4), o5, some (.int x6), some (.int x7), some (.int x8), some (.int x9), some (.int x10), o11, some (.int x12), some (.int x13), some (.int (bi s0)), some (.int r18.1)] [.int x8, .int (r18.1 + 3), .ref (sh_r a0 1)] (by decide +kernel) rfl ?_
  refine i_as (y := x8) (pc' := 293) (by decide +kernel) (o_11_1 hN h0) (fun m22 => ?_)
  refine i_bl (pc' := 294) [(.aload_n 0, 1)] [some (.ref a0), o1, o2, o3, some (.int x4), o5, some (.int x6), some (.int x7), some (.int x8), some (.int x9), some (.int x10), o11, some (.int x12), some (.int x13), some (.int (bi s0)), some (.int r18.1)] [.ref a0] (by decide +kernel) rfl ?_
  refine i_gr (idx := 7) (ci := 11) (k := 1) (t := 2) (p := 16234) (pc' := 297) (by decide +kernel) h0 ?_
  refine i_bl (pc' := 303) [(.iload 15, 2), (.iconst 4, 1), (.iadd, 1), (.iload 9, 2)] [some (.ref a0), o1, o2, o3, some (.int x4), o5, some (.int x6), some (.int x7), some (.int x8), some (.int x9), some (.int x10), o11, some (.int x12), some (.int x13), some (.int (bi s0)), some (.int r18.1)] [.int x9, .int (r18.1 + 4), .ref (sh_r a0 1)] (by decide +kernel) rfl ?_
  refine i_as (y := x9) (pc' := 304) (by decide +kernel) (o_11_1 hN h0) (fun m23 => ?_)
  refine i_bl (pc' := 305) [(.aload_n 0, 1)] [some (.ref a0), o1, o2, o3, some (.int x4), o5, some (.int x6), some (.int x7), some (.int x8), some (.int x9), some (.int x10), o11, some (.int x12), some (.int x13), some (.int (bi s0)), some (.int r18.1)] [.ref a0] (by decide +kernel) rfl ?_
  refine i_gr (idx := 7) (ci := 11) (k := 1) (t := 2) (p := 16234) (pc' := 308) (by decide +kernel) h0 ?_
  refine i_bl (pc' := 314) [(.iload 15, 2), (.iconst 5, 1), (.iadd, 1), (.iload 10, 2)] [some (.ref a0), o1, o2, o3, some (.int x4), o5, some (.int x6), some (.int x7), some (.int x8), some (.int x9), some (.int x10), o11, some (.int x12), some (.int x13), some (.int (bi s0)), some (.int r18.1)] [.int x10, .int (r18.1 + 5), .ref (sh_r a0 1)] (by decide +kernel) rfl ?_
  refine i_as (y := x10) (pc' := 315) (by decide +kernel) (o_11_1 hN h0) (fun m24 => ?_)
  refine i_bl (pc' := 316) [(.aload_n 0, 1)] [some (.ref a0), o1, o2, o3, some (.int x4), o5, some (.int x6), some (.int x7), some (.int x8), some (.int x9), some (.int x10), o11, some (.int x12), some (.int x13), some (.int (bi s0)), some (.int r18.1)] [.ref a0] (by decide +kernel) rfl ?_
  refine i_gr (idx := 7) (ci := 11) (k := 1) (t := 2) (p := 16234) (pc' := 319) (by decide +kernel) h0 ?_
  refine i_bl (pc' := 326) [(.iload 15, 2), (.bipush (6), 2), (.iadd, 1), (.iload 13, 2)] [some (.ref a0), o1, o2, o3, some (.int x4), o5, some (.int x6), some (.int x7), some (.int x8), some (.int x9), some (.int x10), o11, some (.int x12), some (.int x13), some (.int (bi s0)), some (.int r18.1)] [.int x13, .int (r18.1 + 6), .ref (sh_r a0 1)] (by decide +kernel) rfl ?_
  refine i_as (y := x13) (pc' := 327) (by decide +kernel) (o_11_1 hN h0) (fun m25 => ?_)
  refine i_bl (pc' := 328) [(.aload_n 0, 1)] [some (.ref a0), o1, o2, o3, some (.int x4), o5, some (.int x6), some (.int x7), some (.int x8), some (.int x9), some (.int x10), o11, some (.int x12), some (.int x13), some (.int (bi s0)), some (.int r18.1)] [.ref a0] (by decide +kernel) rfl ?_
  refine i_gr (idx := 7) (ci := 11) (k := 1) (t := 2) (p := 16234) (pc' := 331) (by decide +kernel) h0 ?_
  refine i_bl (pc' := 338) [(.iload 15, 2), (.bipush (7), 2), (.iadd, 1), (.iload 14, 2)] [some (.ref a0), o1, o2, o3, some (.int x4), o5, some (.int x6), some (.int x7), some (.int x8), some (.int x9), some (.int x10), o11, some (.int x12), some (.int x13), some (.int (bi s0)), some (.int r18.1)] [.int (bi s0), .int (r18.1 + 7), .ref (sh_r a0 1)] (by decide +kernel) rfl ?_
  refine i_bz (off := 7) (t := 345) (pc' := 341) (by decide +kernel) ?_ ?_
  · refine i_bl (pc' := 342) [(.iconst 1, 1)] [some (.ref a0), o1, o2, o3, some (.int x4), o5, some (.int x6), some (.int x7), some (.int x8), some (.int x9), some (.int x10), o11, some (.int x12), some (.int x13), some (.int (bi s0)), some (.int r18.1)] [.int 1, .int (r18.1 + 7), .ref (sh_r a0 1)] (by decide +kernel) rfl ?_
    refine i_go (t := 346) (off := 4) (by decide +kernel) ?_
    exact t_261_346 hN (h0 := h0) (hs0 := (o_11_1 hN h0))
  · refine i_bl (pc' := 346) [(.iconst 0, 1)] [some (.ref a0), o1, o2, o3, some (.int x4), o5, some (.int x6), some (.int x7), some (.int x8), some (.int x9), some (.int x10), o11, some (.int x12), some (.int x13), some (.int (bi s0)), some (.int r18.1)] [.int 0, .int (r18.1 + 7), .ref (sh_r a0 1)] (by decide +kernel) rfl ?_
    exact t_261_346 hN (h0 := h0) (hs0 := (o_11_1 hN h0))

noncomputable def d_261_136 (a0 : Nat) (x1 : Int32) (x2 : Int32) (x4 : Int32) (x6 : Int32) (x7 : Int32) (x8 : Int32) (x9 : Int32) (s0 : Int32) (m : Mm) : Option (Int32 × Mm) := (d_245 a0 m).bind fun v14 => wb (x6 + v14) fun y15 => if ev_in 5 (sh_n (sh_r a0 1)) = true then (wb ((y15 + s0) + (m (sh_r a0 1) (ix 5))) fun y16 => if ev_in (15 + x4) (sh_n (sh_r a0 1)) = true then (if ev_in 2 (sh_n (sh_r a0 1)) = true then (if (y16 - (m (sh_r a0 1) (ix 2))) < (m (sh_r a0 1) (ix (15 + x4))) then ((d_234 a0 y15 s0 m).bind fun v17 => if v17 < 2 then (d_261_236 a0 x4 x6 x7 x8 x9 s0 y16 v17 false m) else ((d_260 a0 x4 x1 x2 m).bind fun r30 => if ¬ v17 = r30.1 then (d_261_236 a0 x4 x6 x7 x8 x9 s0 y16 v17 false r30.2) else (d_261_236 a0 x4 x6 x7 x8 x9 s0 y16 v17 true r30.2))) else ((d_186 (sh_r a0 4) (sh_r a0 1) m).bind fun m31 => (d_258 a0 x4 m31).bind fun m32 => some ((-1), m32))) else none) else none) else none
theorem t_261_136 {L nx : Nat} (hN : okn nx) {b z : Nat} {m : Mm} {a0 : Nat} (h0 : ok nx a0 11) {x1 : Int32} {x2 : Int32} {x4 : Int32} {x6 : Int32} {x7 : Int32} {x8 : Int32} {x9 : Int32} {s0 : Int32} {o3 : Option Value} {o5 : Option Value} : Im (d_261_136 a0 x1 x2 x4 x6 x7 x8 x9 s0 m) (wI L nx) (ev_dn b z 261 136 [some (.ref a0), some (.int x1), some (.int x2), o3, some (.int x4), o5, some (.int x6), some (.int x7), some (.int x8), some (.int x9), none, none, none, none, none, none] [.int s0] (nx, mem L nx m)) := by
  unfold d_261_136
  refine i_bl (pc' := 141) [(.istore 10, 2), (.iload 6, 2), (.aload_n 0, 1)] [some (.ref a0), some (.int x1), some (.int x2), o3, some (.int x4), o5, some (.int x6), some (.int x7), some (.int x8), some (.int x9), some (.int s0), none, none, none, none, none] [.ref a0, .int x6] (by decide +kernel) rfl ?_
  refine i_cv (ci := 11) (t := 245) (na := 1) (ml := 1) (idx := 248) (pc' := 144) (st' := [.int x6]) (en := [some (.ref a0)]) (av := []) (vo := fun v => some (.int v)) (mo := fun _ => m) (s2 := fun v => .int v :: [.int x6]) (by decide +kernel) (by decide +kernel) h0 ⟨rfl, rfl, rfl, rfl, rfl, rfl⟩ (fun _ => rfl) (t_245 hN (h0 := h0)) (fun v14 => ?_)
  refine i_bl (pc' := 147) [(.iadd, 1), (.istore 11, 2)] [some (.ref a0), some (.int x1), some (.int x2), o3, some (.int x4), o5, some (.int x6), some (.int x7), some (.int x8), some (.int x9), some (.int s0), some (.int (x6 + v14)), none, none, none, none] [] (by decide +kernel) rfl ?_
  refine i_wb (fun y15 => ev_dn b z 261 147 [some (.ref a0), some (.int x1), some (.int x2), o3, some (.int x4), o5, some (.int x6), some (.int x7), some (.int x8), some (.int x9), some (.int s0), some (.int y15), none, none, none, none] [] (nx, mem L nx m)) (fun y15 => ?_)
  refine i_bl (pc' := 153) [(.iload 11, 2), (.iload 10, 2), (.iadd, 1), (.aload_n 0, 1)] [some (.ref a0), some (.int x1), some (.int x2), o3, some (.int x4), o5, some (.int x6), some (.int x7), some (.int x8), some (.int x9), some (.int s0), some (.int y15), none, none, none, none] [.ref a0, .int (y15 + s0)] (by decide +kernel) rfl ?_
  refine i_gr (idx := 7) (ci := 11) (k := 1) (t := 2) (p := 16234) (pc' := 156) (by decide +kernel) h0 ?_
  refine i_bl (pc' := 157) [(.iconst 5, 1)] [some (.ref a0), some (.int x1), some (.int x2), o3, some (.int x4), o5, some (.int x6), some (.int x7), some (.int x8), some (.int x9), some (.int s0), some (.int y15), none, none, none, none] [.int 5, .ref (sh_r a0 1), .int (y15 + s0)] (by decide +kernel) rfl ?_
  refine i_al (pc' := 158) (by decide +kernel) (o_11_1 hN h0) ?_
  refine i_bl (pc' := 161) [(.iadd, 1), (.istore 12, 2)] [some (.ref a0), some (.int x1), some (.int x2), o3, some (.int x4), o5, some (.int x6), some (.int x7), some (.int x8), some (.int x9), some (.int s0), some (.int y15), some (.int ((y15 + s0) + (m (sh_r a0 1) (ix 5)))), none, none, none] [] (by decide +kernel) rfl ?_
  refine i_wb (fun y16 => ev_dn b z 261 161 [some (.ref a0), some (.int x1), some (.int x2), o3, some (.int x4), o5, some (.int x6), some (.int x7), some (.int x8), some (.int x9), some (.int s0), some (.int y15), some (.int y16), none, none, none] [] (nx, mem L nx m)) (fun y16 => ?_)
  refine i_bl (pc' := 162) [(.aload_n 0, 1)] [some (.ref a0), some (.int x1), some (.int x2), o3, some (.int x4), o5, some (.int x6), some (.int x7), some (.int x8), some (.int x9), some (.int s0), some (.int y15), some (.int y16), none, none, none] [.ref a0] (by decide +kernel) rfl ?_
  refine i_gr (idx := 7) (ci := 11) (k := 1) (t := 2) (p := 16234) (pc' := 165) (by decide +kernel) h0 ?_
  refine i_bl (pc' := 170) [(.bipush (15), 2), (.iload 4, 2), (.iadd, 1)] [some (.ref a0), some (.int x1), some (.int x2), o3, some (.int x4), o5, some (.int x6), some (.int x7), some (.int x8), some (.int x9), some (.int s0), some (.int y15), some (.int y16), none, none, none] [.int (15 + x4), .ref (sh_r a0 1)] (by decide +kernel) rfl ?_
  refine i_al (pc' := 171) (by decide +kernel) (o_11_1 hN h0) ?_
  refine i_bl (pc' := 174) [(.iload 12, 2), (.aload_n 0, 1)] [some (.ref a0), some (.int x1), some (.int x2), o3, some (.int x4), o5, some (.int x6), some (.int x7), some (.int x8), some (.int x9), some (.int s0), some (.int y15), some (.int y16), none, none, none] [.ref a0, .int y16, .int (m (sh_r a0 1) (ix (15 + x4)))] (by decide +kernel) rfl ?_
  refine i_gr (idx := 7) (ci := 11) (k := 1) (t := 2) (p := 16234) (pc' := 177) (by decide +kernel) h0 ?_
  refine i_bl (pc' := 178) [(.iconst 2, 1)] [some (.ref a0), some (.int x1), some (.int x2), o3, some (.int x4), o5, some (.int x6), some (.int x7), some (.int x8), some (.int x9), some (.int s0), some (.int y15), some (.int y16), none, none, none] [.int 2, .ref (sh_r a0 1), .int y16, .int (m (sh_r a0 1) (ix (15 + x4)))] (by decide +kernel) rfl ?_
  refine i_al (pc' := 179) (by decide +kernel) (o_11_1 hN h0) ?_
  refine i_bl (pc' := 180) [(.isub, 1)] [some (.ref a0), some (.int x1), some (.int x2), o3, some (.int x4), o5, some (.int x6), some (.int x7), some (.int x8), some (.int x9), some (.int s0), some (.int y15), some (.int y16), none, none, none] [.int (y16 - (m (sh_r a0 1) (ix 2))), .int (m (sh_r a0 1) (ix (15 + x4)))] (by decide +kernel) rfl ?_
  refine i_ic (c := .gt) (off := 22) (t := 202) (pc' := 183) (p := (y16 - (m (sh_r a0 1) (ix 2))) < (m (sh_r a0 1) (ix (15 + x4)))) (by decide +kernel) rfl ?_ ?_
  · refine i_bl (pc' := 207) [(.aload_n 0, 1), (.iload 11, 2), (.iload 10, 2)] [some (.ref a0), some (.int x1), some (.int x2), o3, some (.int x4), o5, some (.int x6), some (.int x7), some (.int x8), some (.int x9), some (.int s0), some (.int y15), some (.int y16), none, none, none] [.int s0, .int y15, .ref a0] (by decide +kernel) rfl ?_
    refine i_cv (ci := 11) (t := 234) (na := 3) (ml := 5) (idx := 204) (pc' := 210) (st' := []) (en := [some (.ref a0), some (.int y15), some (.int s0), none, none]) (av := [.int y15, .int s0]) (vo := fun v => some (.int v)) (mo := fun _ => m) (s2 := fun v => .int v :: []) (by decide +kernel) (by decide +kernel) h0 ⟨rfl, rfl, rfl, rfl, rfl, rfl⟩ (fun _ => rfl) (t_234 hN (h0 := h0)) (fun v17 => ?_)
    refine i_bl (pc' := 215) [(.istore 13, 2), (.iload 13, 2), (.iconst 2, 1)] [some (.ref a0), some (.int x1), some (.int x2), o3, some (.int x4), o5, some (.int x6), some (.int x7), some (.int x8), some (.int x9), some (.int s0), some (.int y15), some (.int y16), some (.int v17), none, none] [.int 2, .int v17] (by decide +kernel) rfl ?_
    refine i_ic (c := .lt) (off := 20) (t := 235) (pc' := 218) (p := v17 < 2) (by decide +kernel) rfl ?_ ?_
    · refine i_bl (pc' := 236) [(.iconst 0, 1)] [some (.ref a0), some (.int x1), some (.int x2), o3, some (.int x4), o5, some (.int x6), some (.int x7), some (.int x8), some (.int x9), some (.int s0), some (.int y15), some (.int y16), some (.int v17), none, none] [.int 0] (by decide +kernel) rfl ?_
      exact t_261_236 hN (h0 := h0)
    · refine i_bl (pc' := 225) [(.iload 13, 2), (.aload_n 0, 1), (.iload 4, 2), (.iload_n 1, 1), (.iload_n 2, 1)] [some (.ref a0), some (.int x1), some (.int x2), o3, some (.int x4), o5, some (.int x6), some (.int x7), some (.int x8), some (.int x9), some (.int s0), some (.int y15), some (.int y16), some (.int v17), none, none] [.int x2, .int x1, .int x4, .ref a0, .int v17] (by decide +kernel) rfl ?_
      refine i_cv (ci := 11) (t := 260) (na := 4) (ml := 8) (idx := 262) (pc' := 228) (st' := [.int v17]) (en := [some (.ref a0), some (.int x4), some (.int x1), some (.int x2), none, none, none, none]) (av := [.int x4, .int x1, .int x2]) (vo := fun v => some (.int v.1)) (mo := fun v => v.2) (s2 := fun v => .int v.1 :: [.int v17]) (by decide +kernel) (by decide +kernel) h0 ⟨rfl, rfl, rfl, rfl, rfl, rfl⟩ (fun _ => rfl) (t_260 hN (h0 := h0)) (fun r30 => ?_)
      refine i_ic (c := .ne) (off := 7) (t := 235) (pc' := 231) (p := ¬ v17 = r30.1) (by decide +kernel) rfl ?_ ?_
      · refine i_bl (pc' := 236) [(.iconst 0, 1)] [some (.ref a0), some (.int x1), some (.int x2), o3, some (.int x4), o5, some (.int x6), some (.int x7), some (.int x8), some (.int x9), some (.int s0), some (.int y15), some (.int y16), some (.int v17), none, none] [.int 0] (by decide +kernel) rfl ?_
        exact t_261_236 hN (h0 := h0)
      · refine i_bl (pc' := 232) [(.iconst 1, 1)] [some (.ref a0), some (.int x1), some (.int x2), o3, some (.int x4), o5, some (.int x6), some (.int x7), some (.int x8), some (.int x9), some (.int s0), some (.int y15), some (.int y16), some (.int v17), none, none] [.int 1] (by decide +kernel) rfl ?_
        refine i_go (t := 236) (off := 4) (by decide +kernel) ?_
        exact t_261_236 hN (h0 := h0)
  · refine i_bl (pc' := 184) [(.aload_n 0, 1)] [some (.ref a0), some (.int x1), some (.int x2), o3, some (.int x4), o5, some (.int x6), some (.int x7), some (.int x8), some (.int x9), some (.int s0), some (.int y15), some (.int y16), none, none, none] [.ref a0] (by decide +kernel) rfl ?_
    refine i_gr (idx := 19) (ci := 11) (k := 4) (t := 2) (p := 16237) (pc' := 187) (by decide +kernel) h0 ?_
    refine i_bl (pc' := 188) [(.aload_n 0, 1)] [some (.ref a0), some (.int x1), some (.int x2), o3, some (.int x4), o5, some (.int x6), some (.int x7), some (.int x8), some (.int x9), some (.int s0), some (.int y15), some (.int y16), none, none, none] [.ref a0, .ref (sh_r a0 4)] (by decide +kernel) rfl ?_
    refine i_gr (idx := 7) (ci := 11) (k := 1) (t := 2) (p := 16234) (pc' := 191) (by decide +kernel) h0 ?_
    refine i_cs (t := 186) (na := 2) (ml := 3) (idx := 70) (pc' := 194) (st' := []) (en := [some (.ref (sh_r a0 4)), some (.ref (sh_r a0 1)), none]) (av := [.ref (sh_r a0 4), .ref (sh_r a0 1)]) (vo := fun _ => none) (mo := fun m => m) (s2 := fun _ => []) (by decide +kernel) ⟨rfl, rfl, rfl, rfl, rfl, rfl⟩ (fun _ => rfl) (t_186 hN (h0 := (o_11_4 hN h0)) (h1 := (o_11_1 hN h0))) (fun m31 => ?_)
    refine i_bl (pc' := 197) [(.aload_n 0, 1), (.iload 4, 2)] [some (.ref a0), some (.int x1), some (.int x2), o3, some (.int x4), o5, some (.int x6), some (.int x7), some (.int x8), some (.int x9), some (.int s0), some (.int y15), some (.int y16), none, none, none] [.int x4, .ref a0] (by decide +kernel) rfl ?_
    refine i_cv (ci := 11) (t := 258) (na := 2) (ml := 2) (idx := 258) (pc' := 200) (st' := []) (en := [some (.ref a0), some (.int x4)]) (av := [.int x4]) (vo := fun _ => none) (mo := fun m => m) (s2 := fun _ => []) (by decide +kernel) (by decide +kernel) h0 ⟨rfl, rfl, rfl, rfl, rfl, rfl⟩ (fun _ => rfl) (t_258 hN (h0 := h0)) (fun m32 => ?_)
    refine i_bl (pc' := 201) [(.iconst (-1), 1)] [some (.ref a0), some (.int x1), some (.int x2), o3, some (.int x4), o5, some (.int x6), some (.int x7), some (.int x8), some (.int x9), some (.int s0), some (.int y15), some (.int y16), none, none, none] [.int (-1)] (by decide +kernel) rfl ?_
    exact i_ri (by decide +kernel) rfl

noncomputable def d_261_114 (a0 : Nat) (x1 : Int32) (x2 : Int32) (x4 : Int32) (x5 : Int32) (x6 : Int32) (x7 : Int32) (x8 : Int32) (x9 : Int32) (m : Mm) : Option (Int32 × Mm) := if ¬ x9 = 0 then ((d_194 x5).bind fun v12 => (d_209 a0 v12 m).bind fun v13 => d_261_136 a0 x1 x2 x4 x6 x7 x8 x9 (2 + (v13 - v13 / 5 * 5)) m) else (d_261_136 a0 x1 x2 x4 x6 x7 x8 x9 1 m)
theorem t_261_114 {L nx : Nat} (hN : okn nx) {b z : Nat} {m : Mm} {a0 : Nat} (h0 : ok nx a0 11) {x1 : Int32} {x2 : Int32} {x4 : Int32} {x5 : Int32} {x6 : Int32} {x7 : Int32} {x8 : Int32} {x9 : Int32} {o3 : Option Value} : Im (d_261_114 a0 x1 x2 x4 x5 x6 x7 x8 x9 m) (wI L nx) (ev_dn b z 261 114 [some (.ref a0), some (.int x1), some (.int x2), o3, some (.int x4), some (.int x5), some (.int x6), some (.int x7), some (.int x8), some (.int x9), none, none, none, none, none, none] [] (nx, mem L nx m)) := by
  unfold d_261_114
  refine i_bl (pc' := 116) [(.iload 9, 2)] [some (.ref a0), some (.int x1), some (.int x2), o3, some (.int x4), some (.int x5), some (.int x6), some (.int x7), some (.int x8), some (.int x9), none, none, none, none, none, none] [.int x9] (by decide +kernel) rfl ?_
  refine i_if (c := .ne) (off := 7) (t := 123) (pc' := 119) (p := ¬ x9 = 0) (by decide +kernel) rfl ?_ ?_
  · refine i_bl (pc' := 127) [(.iconst 2, 1), (.aload_n 0, 1), (.iload 5, 2)] [some (.ref a0), some (.int x1), some (.int x2), o3, some (.int x4), some (.int x5), some (.int x6), some (.int x7), some (.int x8), some (.int x9), none, none, none, none, none, none] [.int x5, .ref a0, .int 2] (by decide +kernel) rfl ?_
    refine i_cs (t := 194) (na := 1) (ml := 1) (idx := 165) (pc' := 130) (st' := [.ref a0, .int 2]) (en := [some (.int x5)]) (av := [.int x5]) (vo := fun v => some (.int v)) (mo := fun _ => m) (s2 := fun v => .int v :: [.ref a0, .int 2]) (by decide +kernel) ⟨rfl, rfl, rfl, rfl, rfl, rfl⟩ (fun _ => rfl) (t_194 hN ) (fun v12 => ?_)
    refine i_cv (ci := 11) (t := 209) (na := 2) (ml := 4) (idx := 182) (pc' := 133) (st' := [.int 2]) (en := [some (.ref a0), some (.int v12), none, none]) (av := [.int v12]) (vo := fun v => some (.int v)) (mo := fun _ => m) (s2 := fun v => .int v :: [.int 2]) (by decide +kernel) (by decide +kernel) h0 ⟨rfl, rfl, rfl, rfl, rfl, rfl⟩ (fun _ => rfl) (t_209 hN (h0 := h0)) (fun v13 => ?_)
    refine i_bl (pc' := 134) [(.iconst 5, 1)] [some (.ref a0), some (.int x1), some (.int x2), o3, some (.int x4), some (.int x5), some (.int x6), some (.int x7), some (.int x8), some (.int x9), none, none, none, none, none, none] [.int 5, .int v13, .int 2] (by decide +kernel) rfl ?_
    refine i_rem0 (pc' := 135) (by decide +kernel) (by decide) ?_
    refine i_bl (pc' := 136) [(.iadd, 1)] [some (.ref a0), some (.int x1), some (.int x2), o3, some (.int x4), some (.int x5), some (.int x6), some (.int x7), some (.int x8), some (.int x9), none, none, none, none, none, none] [.int (2 + (v13 - v13 / 5 * 5))] (by decide +kernel) rfl ?_
    exact t_261_136 hN (h0 := h0)
  · refine i_bl (pc' := 120) [(.iconst 1, 1)] [some (.ref a0), some (.int x1), some (.int x2), o3, some (.int x4), some (.int x5), some (.int x6), some (.int x7), some (.int x8), some (.int x9), none, none, none, none, none, none] [.int 1] (by decide +kernel) rfl ?_
    refine i_go (t := 136) (off := 16) (by decide +kernel) ?_
    exact t_261_136 hN (h0 := h0)

noncomputable def d_261_111 (a0 : Nat) (x1 : Int32) (x2 : Int32) (x4 : Int32) (x5 : Int32) (x6 : Int32) (x7 : Int32) (x8 : Int32) (x9 : Int32) (s0 : Nat) (s1 : Int32) (s2 : Int32) (s3 : Int32) (s4 : Int32) (s5 : Bool) (m : Mm) : Option (Int32 × Mm) := (d_251 s0 s1 s2 s3 s4 s5 m).bind fun m11 => d_261_114 a0 x1 x2 x4 x5 x6 x7 x8 x9 m11
theorem t_261_111 {L nx : Nat} (hN : okn nx) {b z : Nat} {m : Mm} {a0 : Nat} (h0 : ok nx a0 11) {s0 : Nat} (hs0 : ok nx s0 11) {x1 : Int32} {x2 : Int32} {x4 : Int32} {x5 : Int32} {x6 : Int32} {x7 : Int32} {x8 : Int32} {x9 : Int32} {s1 : Int32} {s2 : Int32} {s3 : Int32} {s4 : Int32} {s5 : Bool} {o3 : Option Value} : Im (d_261_111 a0 x1 x2 x4 x5 x6 x7 x8 x9 s0 s1 s2 s3 s4 s5 m) (wI L nx) (ev_dn b z 261 111 [some (.ref a0), some (.int x1), some (.int x2), o3, some (.int x4), some (.int x5), some (.int x6), some (.int x7), some (.int x8), some (.int x9), none, none, none, none, none, none] [.int (bi s5), .int s4, .int s3, .int s2, .int s1, .ref s0] (nx, mem L nx m)) := by
  unfold d_261_111
  refine i_cv (ci := 11) (t := 251) (na := 6) (ml := 9) (idx := 254) (pc' := 114) (st' := []) (en := [some (.ref s0), some (.int s1), some (.int s2), some (.int s3), some (.int s4), some (.int (bi s5)), none, none, none]) (av := [.int s1, .int s2, .int s3, .int s4, .int (bi s5)]) (vo := fun _ => none) (mo := fun m => m) (s2 := fun _ => []) (by decide +kernel) (by decide +kernel) hs0 ⟨rfl, rfl, rfl, rfl, rfl, rfl⟩ (fun _ => rfl) (t_251 hN (h0 := hs0)) (fun m11 => ?_)
  exact t_261_114 hN (h0 := h0)

noncomputable def d_261_87 (a0 : Nat) (x1 : Int32) (x2 : Int32) (x4 : Int32) (x5 : Int32) (x6 : Int32) (x7 : Int32) (x8 : Int32) (x9 : Int32) (m : Mm) : Option (Int32 × Mm) := (d_248 a0 m).bind fun v9 => (d_249 a0 m).bind fun v10 => if ¬ x9 = 1 then (d_261_111 a0 x1 x2 x4 x5 x6 x7 x8 x9 a0 x5 x4 v9 v10 false m) else (d_261_111 a0 x1 x2 x4 x5 x6 x7 x8 x9 a0 x5 x4 v9 v10 true m)
theorem t_261_87 {L nx : Nat} (hN : okn nx) {b z : Nat} {m : Mm} {a0 : Nat} (h0 : ok nx a0 11) {x1 : Int32} {x2 : Int32} {x4 : Int32} {x5 : Int32} {x6 : Int32} {x7 : Int32} {x8 : Int32} {x9 : Int32} {o3 : Option Value} : Im (d_261_87 a0 x1 x2 x4 x5 x6 x7 x8 x9 m) (wI L nx) (ev_dn b z 261 87 [some (.ref a0), some (.int x1), some (.int x2), o3, some (.int x4), some (.int x5), some (.int x6), some (.int x7), some (.int x8), some (.int x9), none, none, none, none, none, none] [] (nx, mem L nx m)) := by
  unfold d_261_87
  refine i_bl (pc' := 93) [(.aload_n 0, 1), (.iload 5, 2), (.iload 4, 2), (.aload_n 0, 1)] [some (.ref a0), some (.int x1), some (.int x2), o3, some (.int x4), some (.int x5), some (.int x6), some (.int x7), some (.int x8), some (.int x9), none, none, none, none, none, none] [.ref a0, .int x4, .int x5, .ref a0] (by decide +kernel) rfl ?_
  refine i_cv (ci := 11) (t := 248) (na := 1) (ml := 1) (idx := 225) (pc' := 96) (st' := [.int x4, .int x5, .ref a0]) (en := [some (.ref a0)]) (av := []) (vo := fun v => some (.int v)) (mo := fun _ => m) (s2 := fun v => .int v :: [.int x4, .int x5, .ref a0]) (by decide +kernel) (by decide +kernel) h0 ⟨rfl, rfl, rfl, rfl, rfl, rfl⟩ (fun _ => rfl) (t_248 hN (h0 := h0)) (fun v9 => ?_)
  refine i_bl (pc' := 97) [(.aload_n 0, 1)] [some (.ref a0), some (.int x1), some (.int x2), o3, some (.int x4), some (.int x5), some (.int x6), some (.int x7), some (.int x8), some (.int x9), none, none, none, none, none, none] [.ref a0, .int v9, .int x4, .int x5, .ref a0] (by decide +kernel) rfl ?_
  refine i_cv (ci := 11) (t := 249) (na := 1) (ml := 1) (idx := 228) (pc' := 100) (st' := [.int v9, .int x4, .int x5, .ref a0]) (en := [some (.ref a0)]) (av := []) (vo := fun v => some (.int v)) (mo := fun _ => m) (s2 := fun v => .int v :: [.int v9, .int x4, .int x5, .ref a0]) (by decide +kernel) (by decide +kernel) h0 ⟨rfl, rfl, rfl, rfl, rfl, rfl⟩ (fun _ => rfl) (t_249 hN (h0 := h0)) (fun v10 => ?_)
  refine i_bl (pc' := 103) [(.iload 9, 2), (.iconst 1, 1)] [some (.ref a0), some (.int x1), some (.int x2), o3, some (.int x4), some (.int x5), some (.int x6), some (.int x7), some (.int x8), some (.int x9), none, none, none, none, none, none] [.int 1, .int x9, .int v10, .int v9, .int x4, .int x5, .ref a0] (by decide +kernel) rfl ?_
  refine i_ic (c := .ne) (off := 7) (t := 110) (pc' := 106) (p := ¬ x9 = 1) (by decide +kernel) rfl ?_ ?_
  · refine i_bl (pc' := 111) [(.iconst 0, 1)] [some (.ref a0), some (.int x1), some (.int x2), o3, some (.int x4), some (.int x5), some (.int x6), some (.int x7), some (.int x8), some (.int x9), none, none, none, none, none, none] [.int 0, .int v10, .int v9, .int x4, .int x5, .ref a0] (by decide +kernel) rfl ?_
    exact t_261_111 hN (h0 := h0) (hs0 := h0)
  · refine i_bl (pc' := 107) [(.iconst 1, 1)] [some (.ref a0), some (.int x1), some (.int x2), o3, some (.int x4), some (.int x5), some (.int x6), some (.int x7), some (.int x8), some (.int x9), none, none, none, none, none, none] [.int 1, .int v10, .int v9, .int x4, .int x5, .ref a0] (by decide +kernel) rfl ?_
    refine i_go (t := 111) (off := 4) (by decide +kernel) ?_
    exact t_261_111 hN (h0 := h0) (hs0 := h0)

noncomputable def d_261_46 (a0 : Nat) (x1 : Int32) (x2 : Int32) (x4 : Int32) (x5 : Int32) (s0 : Int32) (s1 : Int32) (m : Mm) : Option (Int32 × Mm) := wb (s0 + s1) fun y4 => (d_243 a0 x1 x2 m).bind fun m5 => (d_244 a0 m5).bind fun v6 => (d_246 a0 y4 m5).bind fun r7 => (d_250 a0 r7.2).bind fun v8 => if v8 = 1 then (d_261_87 a0 x1 x2 x4 x5 y4 v6 r7.1 v8 r7.2) else (if ¬ v8 = 3 then (d_261_114 a0 x1 x2 x4 x5 y4 v6 r7.1 v8 r7.2) else (d_261_87 a0 x1 x2 x4 x5 y4 v6 r7.1 v8 r7.2))
theorem t_261_46 {L nx : Nat} (hN : okn nx) {b z : Nat} {m : Mm} {a0 : Nat} (h0 : ok nx a0 11) {x1 : Int32} {x2 : Int32} {x4 : Int32} {x5 : Int32} {s0 : Int32} {s1 : Int32} {o3 : Option Value} : Im (d_261_46 a0 x1 x2 x4 x5 s0 s1 m) (wI L nx) (ev_dn b z 261 46 [some (.ref a0), some (.int x1), some (.int x2), o3, some (.int x4), some (.int x5), none, none, none, none, none, none, none, none, none, none] [.int s1, .int s0] (nx, mem L nx m)) := by
  unfold d_261_46
  refine i_bl (pc' := 49) [(.iadd, 1), (.istore 6, 2)] [some (.ref a0), some (.int x1), some (.int x2), o3, some (.int x4), some (.int x5), some (.int (s0 + s1)), none, none, none, none, none, none, none, none, none] [] (by decide +kernel) rfl ?_
  refine i_wb (fun y4 => ev_dn b z 261 49 [some (.ref a0), some (.int x1), some (.int x2), o3, some (.int x4), some (.int x5), some (.int y4), none, none, none, none, none, none, none, none, none] [] (nx, mem L nx m)) (fun y4 => ?_)
  refine i_bl (pc' := 52) [(.aload_n 0, 1), (.iload_n 1, 1), (.iload_n 2, 1)] [some (.ref a0), some (.int x1), some (.int x2), o3, some (.int x4), some (.int x5), some (.int y4), none, none, none, none, none, none, none, none, none] [.int x2, .int x1, .ref a0] (by decide +kernel) rfl ?_
  refine i_cv (ci := 11) (t := 243) (na := 3) (ml := 3) (idx := 242) (pc' := 55) (st' := []) (en := [some (.ref a0), some (.int x1), some (.int x2)]) (av := [.int x1, .int x2]) (vo := fun _ => none) (mo := fun m => m) (s2 := fun _ => []) (by decide +kernel) (by decide +kernel) h0 ⟨rfl, rfl, rfl, rfl, rfl, rfl⟩ (fun _ => rfl) (t_243 hN (h0 := h0)) (fun m5 => ?_)
  refine i_bl (pc' := 56) [(.aload_n 0, 1)] [some (.ref a0), some (.int x1), some (.int x2), o3, some (.int x4), some (.int x5), some (.int y4), none, none, none, none, none, none, none, none, none] [.ref a0] (by decide +kernel) rfl ?_
  refine i_cv (ci := 11) (t := 244) (na := 1) (ml := 3) (idx := 216) (pc' := 59) (st' := []) (en := [some (.ref a0), none, none]) (av := []) (vo := fun v => some (.int v)) (mo := fun _ => m5) (s2 := fun v => .int v :: []) (by decide +kernel) (by decide +kernel) h0 ⟨rfl, rfl, rfl, rfl, rfl, rfl⟩ (fun _ => rfl) (t_244 hN (h0 := h0)) (fun v6 => ?_)
  refine i_bl (pc' := 64) [(.istore 7, 2), (.aload_n 0, 1), (.iload 6, 2)] [some (.ref a0), some (.int x1), some (.int x2), o3, some (.int x4), some (.int x5), some (.int y4), some (.int v6), none, none, none, none, none, none, none, none] [.int y4, .ref a0] (by decide +kernel) rfl ?_
  refine i_cv (ci := 11) (t := 246) (na := 2) (ml := 5) (idx := 245) (pc' := 67) (st' := []) (en := [some (.ref a0), some (.int y4), none, none, none]) (av := [.int y4]) (vo := fun v => some (.int v.1)) (mo := fun v => v.2) (s2 := fun v => .int v.1 :: []) (by decide +kernel) (by decide +kernel) h0 ⟨rfl, rfl, rfl, rfl, rfl, rfl⟩ (fun _ => rfl) (t_246 hN (h0 := h0)) (fun r7 => ?_)
  refine i_bl (pc' := 70) [(.istore 8, 2), (.aload_n 0, 1)] [some (.ref a0), some (.int x1), some (.int x2), o3, some (.int x4), some (.int x5), some (.int y4), some (.int v6), some (.int r7.1), none, none, none, none, none, none, none] [.ref a0] (by decide +kernel) rfl ?_
  refine i_cv (ci := 11) (t := 250) (na := 1) (ml := 5) (idx := 251) (pc' := 73) (st' := []) (en := [some (.ref a0), none, none, none, none]) (av := []) (vo := fun v => some (.int v)) (mo := fun _ => r7.2) (s2 := fun v => .int v :: []) (by decide +kernel) (by decide +kernel) h0 ⟨rfl, rfl, rfl, rfl, rfl, rfl⟩ (fun _ => rfl) (t_250 hN (h0 := h0)) (fun v8 => ?_)
  refine i_bl (pc' := 78) [(.istore 9, 2), (.iload 9, 2), (.iconst 1, 1)] [some (.ref a0), some (.int x1), some (.int x2), o3, some (.int x4), some (.int x5), some (.int y4), some (.int v6), some (.int r7.1), some (.int v8), none, none, none, none, none, none] [.int 1, .int v8] (by decide +kernel) rfl ?_
  refine i_ic (c := .eq) (off := 9) (t := 87) (pc' := 81) (p := v8 = 1) (by decide +kernel) rfl ?_ ?_
  · exact t_261_87 hN (h0 := h0)
  · refine i_bl (pc' := 84) [(.iload 9, 2), (.iconst 3, 1)] [some (.ref a0), some (.int x1), some (.int x2), o3, some (.int x4), some (.int x5), some (.int y4), some (.int v6), some (.int r7.1), some (.int v8), none, none, none, none, none, none] [.int 3, .int v8] (by decide +kernel) rfl ?_
    refine i_ic (c := .ne) (off := 30) (t := 114) (pc' := 87) (p := ¬ v8 = 3) (by decide +kernel) rfl ?_ ?_
    · exact t_261_114 hN (h0 := h0)
    · exact t_261_87 hN (h0 := h0)

noncomputable def d_261 (a0 : Nat) (x1 : Int32) (x2 : Int32) (x3 : Bool) (m : Mm) : Option (Int32 × Mm) := if ev_in 3 (sh_n (sh_r a0 1)) = true then (wb (m (sh_r a0 1) (ix 3)) fun y1 => wb (1 - y1) fun y2 => (d_186 (sh_r a0 1) (sh_r a0 4) m).bind fun m3 => if ev_in 2 (sh_n (sh_r a0 1)) = true then (if x3 = true then (if ev_in 6 (sh_n (sh_r a0 1)) = true then (d_261_46 a0 x1 x2 y1 y2 (m3 (sh_r a0 1) (ix 2)) (m3 (sh_r a0 1) (ix 6)) m3) else none) else (d_261_46 a0 x1 x2 y1 y2 (m3 (sh_r a0 1) (ix 2)) 0 m3)) else none) else none
theorem t_261 {L nx : Nat} (hN : okn nx) {b z : Nat} {m : Mm} {a0 : Nat} (h0 : ok nx a0 11) {x1 : Int32} {x2 : Int32} {x3 : Bool}  : Im (d_261 a0 x1 x2 x3 m) (wI L nx) (ev_dn b z 261 0 [some (.ref a0), some (.int x1), some (.int x2), some (.int (bi x3)), none, none, none, none, none, none, none, none, none, none, none, none] [] (nx, mem L nx m)) := by
  unfold d_261
  refine i_bl (pc' := 1) [(.aload_n 0, 1)] [some (.ref a0), some (.int x1), some (.int x2), some (.int (bi x3)), none, none, none, none, none, none, none, none, none, none, none, none] [.ref a0] (by decide +kernel) rfl ?_
  refine i_gr (idx := 7) (ci := 11) (k := 1) (t := 2) (p := 16234) (pc' := 4) (by decide +kernel) h0 ?_
  refine i_bl (pc' := 5) [(.iconst 3, 1)] [some (.ref a0), some (.int x1), some (.int x2), some (.int (bi x3)), none, none, none, none, none, none, none, none, none, none, none, none] [.int 3, .ref (sh_r a0 1)] (by decide +kernel) rfl ?_
  refine i_al (pc' := 6) (by decide +kernel) (o_11_1 hN h0) ?_
  refine i_bl (pc' := 8) [(.istore 4, 2)] [some (.ref a0), some (.int x1), some (.int x2), some (.int (bi x3)), some (.int (m (sh_r a0 1) (ix 3))), none, none, none, none, none, none, none, none, none, none, none] [] (by decide +kernel) rfl ?_
  refine i_wb (fun y1 => ev_dn b z 261 8 [some (.ref a0), some (.int x1), some (.int x2), some (.int (bi x3)), some (.int y1), none, none, none, none, none, none, none, none, none, none, none] [] (nx, mem L nx m)) (fun y1 => ?_)
  refine i_bl (pc' := 14) [(.iconst 1, 1), (.iload 4, 2), (.isub, 1), (.istore 5, 2)] [some (.ref a0), some (.int x1), some (.int x2), some (.int (bi x3)), some (.int y1), some (.int (1 - y1)), none, none, none, none, none, none, none, none, none, none] [] (by decide +kernel) rfl ?_
  refine i_wb (fun y2 => ev_dn b z 261 14 [some (.ref a0), some (.int x1), some (.int x2), some (.int (bi x3)), some (.int y1), some (.int y2), none, none, none, none, none, none, none, none, none, none] [] (nx, mem L nx m)) (fun y2 => ?_)
  refine i_bl (pc' := 15) [(.aload_n 0, 1)] [some (.ref a0), some (.int x1), some (.int x2), some (.int (bi x3)), some (.int y1), some (.int y2), none, none, none, none, none, none, none, none, none, none] [.ref a0] (by decide +kernel) rfl ?_
  refine i_gr (idx := 7) (ci := 11) (k := 1) (t := 2) (p := 16234) (pc' := 18) (by decide +kernel) h0 ?_
  refine i_bl (pc' := 19) [(.aload_n 0, 1)] [some (.ref a0), some (.int x1), some (.int x2), some (.int (bi x3)), some (.int y1), some (.int y2), none, none, none, none, none, none, none, none, none, none] [.ref a0, .ref (sh_r a0 1)] (by decide +kernel) rfl ?_
  refine i_gr (idx := 19) (ci := 11) (k := 4) (t := 2) (p := 16237) (pc' := 22) (by decide +kernel) h0 ?_
  refine i_cs (t := 186) (na := 2) (ml := 3) (idx := 70) (pc' := 25) (st' := []) (en := [some (.ref (sh_r a0 1)), some (.ref (sh_r a0 4)), none]) (av := [.ref (sh_r a0 1), .ref (sh_r a0 4)]) (vo := fun _ => none) (mo := fun m => m) (s2 := fun _ => []) (by decide +kernel) ⟨rfl, rfl, rfl, rfl, rfl, rfl⟩ (fun _ => rfl) (t_186 hN (h0 := (o_11_1 hN h0)) (h1 := (o_11_4 hN h0))) (fun m3 => ?_)
  refine i_bl (pc' := 26) [(.aload_n 0, 1)] [some (.ref a0), some (.int x1), some (.int x2), some (.int (bi x3)), some (.int y1), some (.int y2), none, none, none, none, none, none, none, none, none, none] [.ref a0] (by decide +kernel) rfl ?_
  refine i_gr (idx := 7) (ci := 11) (k := 1) (t := 2) (p := 16234) (pc' := 29) (by decide +kernel) h0 ?_
  refine i_bl (pc' := 30) [(.iconst 2, 1)] [some (.ref a0), some (.int x1), some (.int x2), some (.int (bi x3)), some (.int y1), some (.int y2), none, none, none, none, none, none, none, none, none, none] [.int 2, .ref (sh_r a0 1)] (by decide +kernel) rfl ?_
  refine i_al (pc' := 31) (by decide +kernel) (o_11_1 hN h0) ?_
  refine i_bl (pc' := 32) [(.iload_n 3, 1)] [some (.ref a0), some (.int x1), some (.int x2), some (.int (bi x3)), some (.int y1), some (.int y2), none, none, none, none, none, none, none, none, none, none] [.int (bi x3), .int (m3 (sh_r a0 1) (ix 2))] (by decide +kernel) rfl ?_
  refine i_bz (off := 13) (t := 45) (pc' := 35) (by decide +kernel) ?_ ?_
  · refine i_bl (pc' := 36) [(.aload_n 0, 1)] [some (.ref a0), some (.int x1), some (.int x2), some (.int (bi x3)), some (.int y1), some (.int y2), none, none, none, none, none, none, none, none, none, none] [.ref a0, .int (m3 (sh_r a0 1) (ix 2))] (by decide +kernel) rfl ?_
    refine i_gr (idx := 7) (ci := 11) (k := 1) (t := 2) (p := 16234) (pc' := 39) (by decide +kernel) h0 ?_
    refine i_bl (pc' := 41) [(.bipush (6), 2)] [some (.ref a0), some (.int x1), some (.int x2), some (.int (bi x3)), some (.int y1), some (.int y2), none, none, none, none, none, none, none, none, none, none] [.int 6, .ref (sh_r a0 1), .int (m3 (sh_r a0 1) (ix 2))] (by decide +kernel) rfl ?_
    refine i_al (pc' := 42) (by decide +kernel) (o_11_1 hN h0) ?_
    refine i_go (t := 46) (off := 4) (by decide +kernel) ?_
    exact t_261_46 hN (h0 := h0)
  · refine i_bl (pc' := 46) [(.iconst 0, 1)] [some (.ref a0), some (.int x1), some (.int x2), some (.int (bi x3)), some (.int y1), some (.int y2), none, none, none, none, none, none, none, none, none, none] [.int 0, .int (m3 (sh_r a0 1) (ix 2))] (by decide +kernel) rfl ?_
    exact t_261_46 hN (h0 := h0)

/-! 262 LanternChessModel.answered(III)V -/
noncomputable def d_262_148 (a0 : Nat) (x4 : Int32) (m : Mm) : Option Mm := if ev_in 3 (sh_n (sh_r a0 1)) = true then (wb (wr m (sh_r a0 1) (ix 3) (1 - x4)) fun m13 => some m13) else none
theorem t_262_148 {L nx : Nat} (hN : okn nx) {b z : Nat} {m : Mm} {a0 : Nat} (h0 : ok nx a0 11) {x4 : Int32} {o1 : Option Value} {o2 : Option Value} {o3 : Option Value} {o5 : Option Value} {o6 : Option Value} : Im (d_262_148 a0 x4 m) (wV L nx) (ev_dn b z 262 148 [some (.ref a0), o1, o2, o3, some (.int x4), o5, o6] [] (nx, mem L nx m)) := by
  unfold d_262_148
  refine i_bl (pc' := 149) [(.aload_n 0, 1)] [some (.ref a0), o1, o2, o3, some (.int x4), o5, o6] [.ref a0] (by decide +kernel) rfl ?_
  refine i_gr (idx := 7) (ci := 11) (k := 1) (t := 2) (p := 16234) (pc' := 152) (by decide +kernel) h0 ?_
  refine i_bl (pc' := 157) [(.iconst 3, 1), (.iconst 1, 1), (.iload 4, 2), (.isub, 1)] [some (.ref a0), o1, o2, o3, some (.int x4), o5, o6] [.int (1 - x4), .int 3, .ref (sh_r a0 1)] (by decide +kernel) rfl ?_
  refine i_as (y := (1 - x4)) (pc' := 158) (by decide +kernel) (o_11_1 hN h0) (fun m13 => ?_)
  exact i_rv (by decide +kernel) rfl

noncomputable def d_262 (a0 : Nat) (x1 : Int32) (x2 : Int32) (x3 : Int32) (m : Mm) : Option Mm := if ev_in 3 (sh_n (sh_r a0 1)) = true then (wb (m (sh_r a0 1) (ix 3)) fun y1 => (d_194 y1).bind fun v2 => if ev_in (v2 + x2) (sh_n (sh_r a0 1)) = true then ((d_197 (m (sh_r a0 1) (ix (v2 + x2)))).bind fun v3 => (d_251 a0 y1 y1 x1 x2 true m).bind fun m4 => (d_259 a0 14 464 6 m4).bind fun r5 => if ev_in r5.1 (sh_n (sh_r a0 1)) = true then (wb (wr r5.2 (sh_r a0 1) (ix r5.1) y1) fun m6 => if ev_in (r5.1 + 1) (sh_n (sh_r a0 1)) = true then (wb (wr m6 (sh_r a0 1) (ix (r5.1 + 1)) x1) fun m7 => if ev_in (r5.1 + 2) (sh_n (sh_r a0 1)) = true then (wb (wr m7 (sh_r a0 1) (ix (r5.1 + 2)) x2) fun m8 => if ev_in (r5.1 + 3) (sh_n (sh_r a0 1)) = true then (wb (wr m8 (sh_r a0 1) (ix (r5.1 + 3)) (v3 - 1)) fun m9 => if ev_in (r5.1 + 4) (sh_n (sh_r a0 1)) = true then (wb (wr m9 (sh_r a0 1) (ix (r5.1 + 4)) x3) fun m10 => if ev_in 2 (sh_n (sh_r a0 1)) = true then (if ev_in (r5.1 + 5) (sh_n (sh_r a0 1)) = true then (wb (wr m10 (sh_r a0 1) (ix (r5.1 + 5)) (m10 (sh_r a0 1) (ix 2))) fun m11 => if ev_in 11 (sh_n (sh_r a0 1)) = true then (if ev_in 11 (sh_n (sh_r a0 1)) = true then (wb (wr m11 (sh_r a0 1) (ix 11) ((m11 (sh_r a0 1) (ix 11)) + 1)) fun m12 => if ¬ v3 = 1 then (d_262_148 a0 y1 m12) else (if ev_in 4 (sh_n (sh_r a0 1)) = true then (wb (wr m12 (sh_r a0 1) (ix 4) (1 + y1)) fun m14 => d_262_148 a0 y1 m14) else none)) else none) else none) else none) else none) else none) else none) else none) else none) else none) else none) else none
theorem t_262 {L nx : Nat} (hN : okn nx) {b z : Nat} {m : Mm} {a0 : Nat} (h0 : ok nx a0 11) {x1 : Int32} {x2 : Int32} {x3 : Int32}  : Im (d_262 a0 x1 x2 x3 m) (wV L nx) (ev_dn b z 262 0 [some (.ref a0), some (.int x1), some (.int x2), some (.int x3), none, none, none] [] (nx, mem L nx m)) := by
  unfold d_262
  refine i_bl (pc' := 1) [(.aload_n 0, 1)] [some (.ref a0), some (.int x1), some (.int x2), some (.int x3), none, none, none] [.ref a0] (by decide +kernel) rfl ?_
  refine i_gr (idx := 7) (ci := 11) (k := 1) (t := 2) (p := 16234) (pc' := 4) (by decide +kernel) h0 ?_
  refine i_bl (pc' := 5) [(.iconst 3, 1)] [some (.ref a0), some (.int x1), some (.int x2), some (.int x3), none, none, none] [.int 3, .ref (sh_r a0 1)] (by decide +kernel) rfl ?_
  refine i_al (pc' := 6) (by decide +kernel) (o_11_1 hN h0) ?_
  refine i_bl (pc' := 8) [(.istore 4, 2)] [some (.ref a0), some (.int x1), some (.int x2), some (.int x3), some (.int (m (sh_r a0 1) (ix 3))), none, none] [] (by decide +kernel) rfl ?_
  refine i_wb (fun y1 => ev_dn b z 262 8 [some (.ref a0), some (.int x1), some (.int x2), some (.int x3), some (.int y1), none, none] [] (nx, mem L nx m)) (fun y1 => ?_)
  refine i_bl (pc' := 9) [(.aload_n 0, 1)] [some (.ref a0), some (.int x1), some (.int x2), some (.int x3), some (.int y1), none, none] [.ref a0] (by decide +kernel) rfl ?_
  refine i_gr (idx := 7) (ci := 11) (k := 1) (t := 2) (p := 16234) (pc' := 12) (by decide +kernel) h0 ?_
  refine i_bl (pc' := 14) [(.iload 4, 2)] [some (.ref a0), some (.int x1), some (.int x2), some (.int x3), some (.int y1), none, none] [.int y1, .ref (sh_r a0 1)] (by decide +kernel) rfl ?_
  refine i_cs (t := 194) (na := 1) (ml := 1) (idx := 165) (pc' := 17) (st' := [.ref (sh_r a0 1)]) (en := [some (.int y1)]) (av := [.int y1]) (vo := fun v => some (.int v)) (mo := fun _ => m) (s2 := fun v => .int v :: [.ref (sh_r a0 1)]) (by decide +kernel) ⟨rfl, rfl, rfl, rfl, rfl, rfl⟩ (fun _ => rfl) (t_194 hN ) (fun v2 => ?_)
  refine i_bl (pc' := 19) [(.iload_n 2, 1), (.iadd, 1)] [some (.ref a0), some (.int x1), some (.int x2), some (.int x3), some (.int y1), none, none] [.int (v2 + x2), .ref (sh_r a0 1)] (by decide +kernel) rfl ?_
  refine i_al (pc' := 20) (by decide +kernel) (o_11_1 hN h0) ?_
  refine i_cs (t := 197) (na := 1) (ml := 1) (idx := 100) (pc' := 23) (st' := []) (en := [some (.int (m (sh_r a0 1) (ix (v2 + x2))))]) (av := [.int (m (sh_r a0 1) (ix (v2 + x2)))]) (vo := fun v => some (.int v)) (mo := fun _ => m) (s2 := fun v => .int v :: []) (by decide +kernel) ⟨rfl, rfl, rfl, rfl, rfl, rfl⟩ (fun _ => rfl) (t_197 hN ) (fun v3 => ?_)
  refine i_bl (pc' := 33) [(.istore 5, 2), (.aload_n 0, 1), (.iload 4, 2), (.iload 4, 2), (.iload_n 1, 1), (.iload_n 2, 1), (.iconst 1, 1)] [some (.ref a0), some (.int x1), some (.int x2), some (.int x3), some (.int y1), some (.int v3), none] [.int 1, .int x2, .int x1, .int y1, .int y1, .ref a0] (by decide +kernel) rfl ?_
  refine i_cv (ci := 11) (t := 251) (na := 6) (ml := 9) (idx := 254) (pc' := 36) (st' := []) (en := [some (.ref a0), some (.int y1), some (.int y1), some (.int x1), some (.int x2), some (.int (bi true)), none, none, none]) (av := [.int y1, .int y1, .int x1, .int x2, .int (bi true)]) (vo := fun _ => none) (mo := fun m => m) (s2 := fun _ => []) (by decide +kernel) (by decide +kernel) h0 ⟨rfl, rfl, rfl, rfl, rfl, rfl⟩ (fun _ => rfl) (t_251 hN (h0 := h0)) (fun m4 => ?_)
  refine i_bl (pc' := 44) [(.aload_n 0, 1), (.bipush (14), 2), (.sipush (464), 3), (.bipush (6), 2)] [some (.ref a0), some (.int x1), some (.int x2), some (.int x3), some (.int y1), some (.int v3), none] [.int 6, .int 464, .int 14, .ref a0] (by decide +kernel) rfl ?_
  refine i_cv (ci := 11) (t := 259) (na := 4) (ml := 5) (idx := 265) (pc' := 47) (st' := []) (en := [some (.ref a0), some (.int 14), some (.int 464), some (.int 6), none]) (av := [.int 14, .int 464, .int 6]) (vo := fun v => some (.int v.1)) (mo := fun v => v.2) (s2 := fun v => .int v.1 :: []) (by decide +kernel) (by decide +kernel) h0 ⟨rfl, rfl, rfl, rfl, rfl, rfl⟩ (fun _ => rfl) (t_259 hN (h0 := h0)) (fun r5 => ?_)
  refine i_bl (pc' := 50) [(.istore 6, 2), (.aload_n 0, 1)] [some (.ref a0), some (.int x1), some (.int x2), some (.int x3), some (.int y1), some (.int v3), some (.int r5.1)] [.ref a0] (by decide +kernel) rfl ?_
  refine i_gr (idx := 7) (ci := 11) (k := 1) (t := 2) (p := 16234) (pc' := 53) (by decide +kernel) h0 ?_
  refine i_bl (pc' := 57) [(.iload 6, 2), (.iload 4, 2)] [some (.ref a0), some (.int x1), some (.int x2), some (.int x3), some (.int y1), some (.int v3), some (.int r5.1)] [.int y1, .int r5.1, .ref (sh_r a0 1)] (by decide +kernel) rfl ?_
  refine i_as (y := y1) (pc' := 58) (by decide +kernel) (o_11_1 hN h0) (fun m6 => ?_)
  refine i_bl (pc' := 59) [(.aload_n 0, 1)] [some (.ref a0), some (.int x1), some (.int x2), some (.int x3), some (.int y1), some (.int v3), some (.int r5.1)] [.ref a0] (by decide +kernel) rfl ?_
  refine i_gr (idx := 7) (ci := 11) (k := 1) (t := 2) (p := 16234) (pc' := 62) (by decide +kernel) h0 ?_
  refine i_bl (pc' := 67) [(.iload 6, 2), (.iconst 1, 1), (.iadd, 1), (.iload_n 1, 1)] [some (.ref a0), some (.int x1), some (.int x2), some (.int x3), some (.int y1), some (.int v3), some (.int r5.1)] [.int x1, .int (r5.1 + 1), .ref (sh_r a0 1)] (by decide +kernel) rfl ?_
  refine i_as (y := x1) (pc' := 68) (by decide +kernel) (o_11_1 hN h0) (fun m7 => ?_)
  refine i_bl (pc' := 69) [(.aload_n 0, 1)] [some (.ref a0), some (.int x1), some (.int x2), some (.int x3), some (.int y1), some (.int v3), some (.int r5.1)] [.ref a0] (by decide +kernel) rfl ?_
  refine i_gr (idx := 7) (ci := 11) (k := 1) (t := 2) (p := 16234) (pc' := 72) (by decide +kernel) h0 ?_
  refine i_bl (pc' := 77) [(.iload 6, 2), (.iconst 2, 1), (.iadd, 1), (.iload_n 2, 1)] [some (.ref a0), some (.int x1), some (.int x2), some (.int x3), some (.int y1), some (.int v3), some (.int r5.1)] [.int x2, .int (r5.1 + 2), .ref (sh_r a0 1)] (by decide +kernel) rfl ?_
  refine i_as (y := x2) (pc' := 78) (by decide +kernel) (o_11_1 hN h0) (fun m8 => ?_)
  refine i_bl (pc' := 79) [(.aload_n 0, 1)] [some (.ref a0), some (.int x1), some (.int x2), some (.int x3), some (.int y1), some (.int v3), some (.int r5.1)] [.ref a0] (by decide +kernel) rfl ?_
  refine i_gr (idx := 7) (ci := 11) (k := 1) (t := 2) (p := 16234) (pc' := 82) (by decide +kernel) h0 ?_
  refine i_bl (pc' := 90) [(.iload 6, 2), (.iconst 3, 1), (.iadd, 1), (.iload 5, 2), (.iconst 1, 1), (.isub, 1)] [some (.ref a0), some (.int x1), some (.int x2), some (.int x3), some (.int y1), some (.int v3), some (.int r5.1)] [.int (v3 - 1), .int (r5.1 + 3), .ref (sh_r a0 1)] (by decide +kernel) rfl ?_
  refine i_as (y := (v3 - 1)) (pc' := 91) (by decide +kernel) (o_11_1 hN h0) (fun m9 => ?_)
  refine i_bl (pc' := 92) [(.aload_n 0, 1)] [some (.ref a0), some (.int x1), some (.int x2), some (.int x3), some (.int y1), some (.int v3), some (.int r5.1)] [.ref a0] (by decide +kernel) rfl ?_
  refine i_gr (idx := 7) (ci := 11) (k := 1) (t := 2) (p := 16234) (pc' := 95) (by decide +kernel) h0 ?_
  refine i_bl (pc' := 100) [(.iload 6, 2), (.iconst 4, 1), (.iadd, 1), (.iload_n 3, 1)] [some (.ref a0), some (.int x1), some (.int x2), some (.int x3), some (.int y1), some (.int v3), some (.int r5.1)] [.int x3, .int (r5.1 + 4), .ref (sh_r a0 1)] (by decide +kernel) rfl ?_
  refine i_as (y := x3) (pc' := 101) (by decide +kernel) (o_11_1 hN h0) (fun m10 => ?_)
  refine i_bl (pc' := 102) [(.aload_n 0, 1)] [some (.ref a0), some (.int x1), some (.int x2), some (.int x3), some (.int y1), some (.int v3), some (.int r5.1)] [.ref a0] (by decide +kernel) rfl ?_
  refine i_gr (idx := 7) (ci := 11) (k := 1) (t := 2) (p := 16234) (pc' := 105) (by decide +kernel) h0 ?_
  refine i_bl (pc' := 110) [(.iload 6, 2), (.iconst 5, 1), (.iadd, 1), (.aload_n 0, 1)] [some (.ref a0), some (.int x1), some (.int x2), some (.int x3), some (.int y1), some (.int v3), some (.int r5.1)] [.ref a0, .int (r5.1 + 5), .ref (sh_r a0 1)] (by decide +kernel) rfl ?_
  refine i_gr (idx := 7) (ci := 11) (k := 1) (t := 2) (p := 16234) (pc' := 113) (by decide +kernel) h0 ?_
  refine i_bl (pc' := 114) [(.iconst 2, 1)] [some (.ref a0), some (.int x1), some (.int x2), some (.int x3), some (.int y1), some (.int v3), some (.int r5.1)] [.int 2, .ref (sh_r a0 1), .int (r5.1 + 5), .ref (sh_r a0 1)] (by decide +kernel) rfl ?_
  refine i_al (pc' := 115) (by decide +kernel) (o_11_1 hN h0) ?_
  refine i_as (y := (m10 (sh_r a0 1) (ix 2))) (pc' := 116) (by decide +kernel) (o_11_1 hN h0) (fun m11 => ?_)
  refine i_bl (pc' := 117) [(.aload_n 0, 1)] [some (.ref a0), some (.int x1), some (.int x2), some (.int x3), some (.int y1), some (.int v3), some (.int r5.1)] [.ref a0] (by decide +kernel) rfl ?_
  refine i_gr (idx := 7) (ci := 11) (k := 1) (t := 2) (p := 16234) (pc' := 120) (by decide +kernel) h0 ?_
  refine i_bl (pc' := 123) [(.bipush (11), 2), (.aload_n 0, 1)] [some (.ref a0), some (.int x1), some (.int x2), some (.int x3), some (.int y1), some (.int v3), some (.int r5.1)] [.ref a0, .int 11, .ref (sh_r a0 1)] (by decide +kernel) rfl ?_
  refine i_gr (idx := 7) (ci := 11) (k := 1) (t := 2) (p := 16234) (pc' := 126) (by decide +kernel) h0 ?_
  refine i_bl (pc' := 128) [(.bipush (11), 2)] [some (.ref a0), some (.int x1), some (.int x2), some (.int x3), some (.int y1), some (.int v3), some (.int r5.1)] [.int 11, .ref (sh_r a0 1), .int 11, .ref (sh_r a0 1)] (by decide +kernel) rfl ?_
  refine i_al (pc' := 129) (by decide +kernel) (o_11_1 hN h0) ?_
  refine i_bl (pc' := 131) [(.iconst 1, 1), (.iadd, 1)] [some (.ref a0), some (.int x1), some (.int x2), some (.int x3), some (.int y1), some (.int v3), some (.int r5.1)] [.int ((m11 (sh_r a0 1) (ix 11)) + 1), .int 11, .ref (sh_r a0 1)] (by decide +kernel) rfl ?_
  refine i_as (y := ((m11 (sh_r a0 1) (ix 11)) + 1)) (pc' := 132) (by decide +kernel) (o_11_1 hN h0) (fun m12 => ?_)
  refine i_bl (pc' := 135) [(.iload 5, 2), (.iconst 1, 1)] [some (.ref a0), some (.int x1), some (.int x2), some (.int x3), some (.int y1), some (.int v3), some (.int r5.1)] [.int 1, .int v3] (by decide +kernel) rfl ?_
  refine i_ic (c := .ne) (off := 13) (t := 148) (pc' := 138) (p := ¬ v3 = 1) (by decide +kernel) rfl ?_ ?_
  · exact t_262_148 hN (h0 := h0)
  · refine i_bl (pc' := 139) [(.aload_n 0, 1)] [some (.ref a0), some (.int x1), some (.int x2), some (.int x3), some (.int y1), some (.int v3), some (.int r5.1)] [.ref a0] (by decide +kernel) rfl ?_
    refine i_gr (idx := 7) (ci := 11) (k := 1) (t := 2) (p := 16234) (pc' := 142) (by decide +kernel) h0 ?_
    refine i_bl (pc' := 147) [(.iconst 4, 1), (.iconst 1, 1), (.iload 4, 2), (.iadd, 1)] [some (.ref a0), some (.int x1), some (.int x2), some (.int x3), some (.int y1), some (.int v3), some (.int r5.1)] [.int (1 + y1), .int 4, .ref (sh_r a0 1)] (by decide +kernel) rfl ?_
    refine i_as (y := (1 + y1)) (pc' := 148) (by decide +kernel) (o_11_1 hN h0) (fun m14 => ?_)
    exact t_262_148 hN (h0 := h0)

