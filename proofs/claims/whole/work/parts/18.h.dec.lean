/-! Programs in numbers, and that the evaluator answers what they answer. -/
/-! 295 LanternChessModel.readsClock()V -/
noncomputable def d_295 (a0 : Nat) (m : Mm) : Option Mm := (d_294 a0 1 m).bind fun m1 => (d_293 a0 1 9999 m1).bind fun r2 => if ev_in 15 (sh_n (sh_r a0 1)) = true then (wb (wr r2.2 (sh_r a0 1) (ix 15) r2.1) fun m3 => (d_293 a0 1 9999 m3).bind fun r4 => if ev_in 16 (sh_n (sh_r a0 1)) = true then (wb (wr r4.2 (sh_r a0 1) (ix 16) r4.1) fun m5 => some m5) else none) else none
theorem t_295 {L nx : Nat} (hN : okn nx) {b z : Nat} {m : Mm} {a0 : Nat} (h0 : ok nx a0 11)   : Im (d_295 a0 m) (wV L nx) (ev_dn b z 295 0 [some (.ref a0)] [] (nx, mem L nx m)) := by
  unfold d_295
  refine i_bl (pc' := 2) [(.aload_n 0, 1), (.iconst 1, 1)] [some (.ref a0)] [.int 1, .ref a0] (by decide +kernel) rfl ?_
  refine i_cv (ci := 11) (t := 294) (na := 2) (ml := 2) (idx := 380) (pc' := 5) (st' := []) (en := [some (.ref a0), some (.int 1)]) (av := [.int 1]) (vo := fun _ => none) (mo := fun m => m) (s2 := fun _ => []) (by decide +kernel) (by decide +kernel) h0 ⟨rfl, rfl, rfl, rfl, rfl, rfl⟩ (fun _ => rfl) (t_294 hN (h0 := h0)) (fun m1 => ?_)
  refine i_bl (pc' := 6) [(.aload_n 0, 1)] [some (.ref a0)] [.ref a0] (by decide +kernel) rfl ?_
  refine i_gr (idx := 7) (ci := 11) (k := 1) (t := 2) (p := 16234) (pc' := 9) (by decide +kernel) h0 ?_
  refine i_bl (pc' := 16) [(.bipush (15), 2), (.aload_n 0, 1), (.iconst 1, 1), (.sipush (9999), 3)] [some (.ref a0)] [.int 9999, .int 1, .ref a0, .int 15, .ref (sh_r a0 1)] (by decide +kernel) rfl ?_
  refine i_cv (ci := 11) (t := 293) (na := 3) (ml := 4) (idx := 383) (pc' := 19) (st' := [.int 15, .ref (sh_r a0 1)]) (en := [some (.ref a0), some (.int 1), some (.int 9999), none]) (av := [.int 1, .int 9999]) (vo := fun v => some (.int v.1)) (mo := fun v => v.2) (s2 := fun v => .int v.1 :: [.int 15, .ref (sh_r a0 1)]) (by decide +kernel) (by decide +kernel) h0 ⟨rfl, rfl, rfl, rfl, rfl, rfl⟩ (fun _ => rfl) (t_293 hN (h0 := h0)) (fun r2 => ?_)
  refine i_as (y := r2.1) (pc' := 20) (by decide +kernel) (o_11_1 hN h0) (fun m3 => ?_)
  refine i_bl (pc' := 21) [(.aload_n 0, 1)] [some (.ref a0)] [.ref a0] (by decide +kernel) rfl ?_
  refine i_gr (idx := 7) (ci := 11) (k := 1) (t := 2) (p := 16234) (pc' := 24) (by decide +kernel) h0 ?_
  refine i_bl (pc' := 31) [(.bipush (16), 2), (.aload_n 0, 1), (.iconst 1, 1), (.sipush (9999), 3)] [some (.ref a0)] [.int 9999, .int 1, .ref a0, .int 16, .ref (sh_r a0 1)] (by decide +kernel) rfl ?_
  refine i_cv (ci := 11) (t := 293) (na := 3) (ml := 4) (idx := 383) (pc' := 34) (st' := [.int 16, .ref (sh_r a0 1)]) (en := [some (.ref a0), some (.int 1), some (.int 9999), none]) (av := [.int 1, .int 9999]) (vo := fun v => some (.int v.1)) (mo := fun v => v.2) (s2 := fun v => .int v.1 :: [.int 16, .ref (sh_r a0 1)]) (by decide +kernel) (by decide +kernel) h0 ⟨rfl, rfl, rfl, rfl, rfl, rfl⟩ (fun _ => rfl) (t_293 hN (h0 := h0)) (fun r4 => ?_)
  refine i_as (y := r4.1) (pc' := 35) (by decide +kernel) (o_11_1 hN h0) (fun m5 => ?_)
  exact i_rv (by decide +kernel) rfl

/-! 296 LanternChessModel.readsSetting(IIII)V -/
noncomputable def d_296 (a0 : Nat) (x1 : Int32) (x2 : Int32) (x3 : Int32) (x4 : Int32) (m : Mm) : Option Mm := (d_294 a0 x1 m).bind fun m1 => (d_293 a0 x3 x4 m1).bind fun r2 => if ev_in x2 (sh_n (sh_r a0 1)) = true then (wb (wr r2.2 (sh_r a0 1) (ix x2) r2.1) fun m3 => some m3) else none
theorem t_296 {L nx : Nat} (hN : okn nx) {b z : Nat} {m : Mm} {a0 : Nat} (h0 : ok nx a0 11) {x1 : Int32} {x2 : Int32} {x3 : Int32} {x4 : Int32}  : Im (d_296 a0 x1 x2 x3 x4 m) (wV L nx) (ev_dn b z 296 0 [some (.ref a0), some (.int x1), some (.int x2), some (.int x3), some (.int x4)] [] (nx, mem L nx m)) := by
  unfold d_296
  refine i_bl (pc' := 2) [(.aload_n 0, 1), (.iload_n 1, 1)] [some (.ref a0), some (.int x1), some (.int x2), some (.int x3), some (.int x4)] [.int x1, .ref a0] (by decide +kernel) rfl ?_
  refine i_cv (ci := 11) (t := 294) (na := 2) (ml := 2) (idx := 380) (pc' := 5) (st' := []) (en := [some (.ref a0), some (.int x1)]) (av := [.int x1]) (vo := fun _ => none) (mo := fun m => m) (s2 := fun _ => []) (by decide +kernel) (by decide +kernel) h0 ⟨rfl, rfl, rfl, rfl, rfl, rfl⟩ (fun _ => rfl) (t_294 hN (h0 := h0)) (fun m1 => ?_)
  refine i_bl (pc' := 6) [(.aload_n 0, 1)] [some (.ref a0), some (.int x1), some (.int x2), some (.int x3), some (.int x4)] [.ref a0] (by decide +kernel) rfl ?_
  refine i_gr (idx := 7) (ci := 11) (k := 1) (t := 2) (p := 16234) (pc' := 9) (by decide +kernel) h0 ?_
  refine i_bl (pc' := 14) [(.iload_n 2, 1), (.aload_n 0, 1), (.iload_n 3, 1), (.iload 4, 2)] [some (.ref a0), some (.int x1), some (.int x2), some (.int x3), some (.int x4)] [.int x4, .int x3, .ref a0, .int x2, .ref (sh_r a0 1)] (by decide +kernel) rfl ?_
  refine i_cv (ci := 11) (t := 293) (na := 3) (ml := 4) (idx := 383) (pc' := 17) (st' := [.int x2, .ref (sh_r a0 1)]) (en := [some (.ref a0), some (.int x3), some (.int x4), none]) (av := [.int x3, .int x4]) (vo := fun v => some (.int v.1)) (mo := fun v => v.2) (s2 := fun v => .int v.1 :: [.int x2, .ref (sh_r a0 1)]) (by decide +kernel) (by decide +kernel) h0 ⟨rfl, rfl, rfl, rfl, rfl, rfl⟩ (fun _ => rfl) (t_293 hN (h0 := h0)) (fun r2 => ?_)
  refine i_as (y := r2.1) (pc' := 18) (by decide +kernel) (o_11_1 hN h0) (fun m3 => ?_)
  exact i_rv (by decide +kernel) rfl

/-! 297 LanternChessModel.hasKing(I)Z -/
noncomputable def E_297_2 (L nx b z : Nat) (a0 : Nat) (x1 : Int32) (m : Mm) (d : Unit) (s : (Int32)) : ev_Q := ev_dn b z 297 2 [some (.ref a0), some (.int x1), some (.int s)] [] (nx, mem L nx m)
noncomputable def s_297_2 (a0 : Nat) (x1 : Int32) (m : Mm) (x2 : Int32) : Option ((Int32) ⊕ Bool) := (d_193 a0 m).bind fun v1 => if v1 ≤ x2 then (some (.inr false)) else (if ev_in (24 + x2) (sh_n (sh_r a0 1)) = true then (if ¬ (m (sh_r a0 1) (ix (24 + x2))) = (1 + (6 * x1)) then (wb (x2 + 1) fun y2 => some (.inl (y2))) else (some (.inr true))) else none)
noncomputable def d_297_2 (a0 : Nat) (x1 : Int32) (m : Mm) (x2 : Int32) : Option Bool := it (fun s => s_297_2 a0 x1 m s) (x2)
theorem e_297_2 (a0 : Nat) (x1 : Int32) (m : Mm) (x2 : Int32) : d_297_2 a0 x1 m x2 = oi (s_297_2 a0 x1 m x2) (fun s => d_297_2 a0 x1 m s) := it_eq _
theorem u_297_2 {L nx : Nat} (hN : okn nx) {b z : Nat} {m : Mm} {a0 : Nat} (h0 : ok nx a0 11) {x1 : Int32} {x2 : Int32}  : Im (s_297_2 a0 x1 m x2) (kL (kZ L nx m) (E_297_2 L nx b z a0 x1 m)) (ev_dn b z 297 2 [some (.ref a0), some (.int x1), some (.int x2)] [] (nx, mem L nx m)) := by
  unfold s_297_2
  refine i_bl (pc' := 4) [(.iload_n 2, 1), (.aload_n 0, 1)] [some (.ref a0), some (.int x1), some (.int x2)] [.ref a0, .int x2] (by decide +kernel) rfl ?_
  refine i_cv (ci := 11) (t := 193) (na := 1) (ml := 1) (idx := 125) (pc' := 7) (st' := [.int x2]) (en := [some (.ref a0)]) (av := []) (vo := fun v => some (.int v)) (mo := fun _ => m) (s2 := fun v => .int v :: [.int x2]) (by decide +kernel) (by decide +kernel) h0 ⟨rfl, rfl, rfl, rfl, rfl, rfl⟩ (fun _ => rfl) (t_193 hN (h0 := h0)) (fun v1 => ?_)
  refine i_ic (c := .ge) (off := 29) (t := 36) (pc' := 10) (p := v1 ≤ x2) (by decide +kernel) rfl ?_ ?_
  · refine i_bl (pc' := 37) [(.iconst 0, 1)] [some (.ref a0), some (.int x1), some (.int x2)] [.int 0] (by decide +kernel) rfl ?_
    exact i_ir (i_rz (B := false) (by decide +kernel) rfl)
  · refine i_bl (pc' := 11) [(.aload_n 0, 1)] [some (.ref a0), some (.int x1), some (.int x2)] [.ref a0] (by decide +kernel) rfl ?_
    refine i_gr (idx := 7) (ci := 11) (k := 1) (t := 2) (p := 16234) (pc' := 14) (by decide +kernel) h0 ?_
    refine i_bl (pc' := 18) [(.bipush (24), 2), (.iload_n 2, 1), (.iadd, 1)] [some (.ref a0), some (.int x1), some (.int x2)] [.int (24 + x2), .ref (sh_r a0 1)] (by decide +kernel) rfl ?_
    refine i_al (pc' := 19) (by decide +kernel) (o_11_1 hN h0) ?_
    refine i_bl (pc' := 25) [(.iconst 1, 1), (.bipush (6), 2), (.iload_n 1, 1), (.imul, 1), (.iadd, 1)] [some (.ref a0), some (.int x1), some (.int x2)] [.int (1 + (6 * x1)), .int (m (sh_r a0 1) (ix (24 + x2)))] (by decide +kernel) rfl ?_
    refine i_ic (c := .ne) (off := 5) (t := 30) (pc' := 28) (p := ¬ (m (sh_r a0 1) (ix (24 + x2))) = (1 + (6 * x1))) (by decide +kernel) rfl ?_ ?_
    · refine i_bl (pc' := 33) [(.iinc 2 (1), 3)] [some (.ref a0), some (.int x1), some (.int (x2 + 1))] [] (by decide +kernel) rfl ?_
      refine i_wb (fun y2 => ev_dn b z 297 33 [some (.ref a0), some (.int x1), some (.int y2)] [] (nx, mem L nx m)) (fun y2 => ?_)
      refine i_go (t := 2) (off := -31) (by decide +kernel) ?_
      exact i_co () rfl
    · refine i_bl (pc' := 29) [(.iconst 1, 1)] [some (.ref a0), some (.int x1), some (.int x2)] [.int 1] (by decide +kernel) rfl ?_
      exact i_ir (i_rz (B := true) (by decide +kernel) rfl)

theorem t_297_2 {L nx : Nat} (hN : okn nx) {b z : Nat} {m : Mm} {a0 : Nat} (h0 : ok nx a0 11) {x1 : Int32} {x2 : Int32}  : Im (d_297_2 a0 x1 m x2) (kZ L nx m) (ev_dn b z 297 2 [some (.ref a0), some (.int x1), some (.int x2)] [] (nx, mem L nx m)) := by
  exact i_it (f := fun s => s_297_2 a0 x1 m s) (E := E_297_2 L nx b z a0 x1 m) (K := (kZ L nx m)) (fun d s => u_297_2 hN (h0 := h0)) () (x2)
noncomputable def d_297 (a0 : Nat) (x1 : Int32) (m : Mm) : Option Bool := d_297_2 a0 x1 m 0
theorem t_297 {L nx : Nat} (hN : okn nx) {b z : Nat} {m : Mm} {a0 : Nat} (h0 : ok nx a0 11) {x1 : Int32}  : Im (d_297 a0 x1 m) (kZ L nx m) (ev_dn b z 297 0 [some (.ref a0), some (.int x1), none] [] (nx, mem L nx m)) := by
  unfold d_297
  refine i_bl (pc' := 2) [(.iconst 0, 1), (.istore_n 2, 1)] [some (.ref a0), some (.int x1), some (.int 0)] [] (by decide +kernel) rfl ?_
  exact t_297_2 hN (h0 := h0)

/-! 298 LanternChessModel.readsPiece(I)V -/
noncomputable def d_298_159 (a0 : Nat) (x1 : Int32) (x2 : Int32) (x3 : Int32) (x4 : Int32) (s0 : Nat) (s1 : Bool) (m : Mm) : Option Mm := (d_289 s0 s1 3 m).bind fun m9 => (d_290 a0 m9).bind fun m10 => (d_288 a0 m10).bind fun v11 => if v11 = true then ((d_214 a0 x3 x4 m10).bind fun v12 => if ev_in (24 + v12) (sh_n (sh_r a0 1)) = true then (wb (wr m10 (sh_r a0 1) (ix (24 + v12)) (x2 + (6 * x1))) fun m13 => (d_214 a0 x3 x4 m13).bind fun v14 => if ev_in (88 + v14) (sh_n (sh_r a0 1)) = true then (wb (wr m13 (sh_r a0 1) (ix (88 + v14)) (x2 + (6 * x1))) fun m15 => wb (wr m15 a0 28 ((m15 a0 28) + 1)) fun m16 => some m16) else none) else none) else (some m10)
theorem t_298_159 {L nx : Nat} (hN : okn nx) {b z : Nat} {m : Mm} {a0 : Nat} (h0 : ok nx a0 11) {s0 : Nat} (hs0 : ok nx s0 11) {x1 : Int32} {x2 : Int32} {x3 : Int32} {x4 : Int32} {s1 : Bool}  : Im (d_298_159 a0 x1 x2 x3 x4 s0 s1 m) (wV L nx) (ev_dn b z 298 159 [some (.ref a0), some (.int x1), some (.int x2), some (.int x3), some (.int x4)] [.int (bi s1), .ref s0] (nx, mem L nx m)) := by
  unfold d_298_159
  refine i_bl (pc' := 160) [(.iconst 3, 1)] [some (.ref a0), some (.int x1), some (.int x2), some (.int x3), some (.int x4)] [.int 3, .int (bi s1), .ref s0] (by decide +kernel) rfl ?_
  refine i_cv (ci := 11) (t := 289) (na := 3) (ml := 3) (idx := 367) (pc' := 163) (st' := []) (en := [some (.ref s0), some (.int (bi s1)), some (.int 3)]) (av := [.int (bi s1), .int 3]) (vo := fun _ => none) (mo := fun m => m) (s2 := fun _ => []) (by decide +kernel) (by decide +kernel) hs0 ⟨rfl, rfl, rfl, rfl, rfl, rfl⟩ (fun _ => rfl) (t_289 hN (h0 := hs0)) (fun m9 => ?_)
  refine i_bl (pc' := 164) [(.aload_n 0, 1)] [some (.ref a0), some (.int x1), some (.int x2), some (.int x3), some (.int x4)] [.ref a0] (by decide +kernel) rfl ?_
  refine i_cv (ci := 11) (t := 290) (na := 1) (ml := 1) (idx := 374) (pc' := 167) (st' := []) (en := [some (.ref a0)]) (av := []) (vo := fun _ => none) (mo := fun m => m) (s2 := fun _ => []) (by decide +kernel) (by decide +kernel) h0 ⟨rfl, rfl, rfl, rfl, rfl, rfl⟩ (fun _ => rfl) (t_290 hN (h0 := h0)) (fun m10 => ?_)
  refine i_bl (pc' := 168) [(.aload_n 0, 1)] [some (.ref a0), some (.int x1), some (.int x2), some (.int x3), some (.int x4)] [.ref a0] (by decide +kernel) rfl ?_
  refine i_cv (ci := 11) (t := 288) (na := 1) (ml := 1) (idx := 361) (pc' := 171) (st' := []) (en := [some (.ref a0)]) (av := []) (vo := fun v => some (.int (bi v))) (mo := fun _ => m10) (s2 := fun v => .int (bi v) :: []) (by decide +kernel) (by decide +kernel) h0 ⟨rfl, rfl, rfl, rfl, rfl, rfl⟩ (fun _ => rfl) (t_288 hN (h0 := h0)) (fun v11 => ?_)
  refine i_bn (off := 4) (t := 175) (pc' := 174) (by decide +kernel) ?_ ?_
  · refine i_bl (pc' := 176) [(.aload_n 0, 1)] [some (.ref a0), some (.int x1), some (.int x2), some (.int x3), some (.int x4)] [.ref a0] (by decide +kernel) rfl ?_
    refine i_gr (idx := 7) (ci := 11) (k := 1) (t := 2) (p := 16234) (pc' := 179) (by decide +kernel) h0 ?_
    refine i_bl (pc' := 185) [(.bipush (24), 2), (.aload_n 0, 1), (.iload_n 3, 1), (.iload 4, 2)] [some (.ref a0), some (.int x1), some (.int x2), some (.int x3), some (.int x4)] [.int x4, .int x3, .ref a0, .int 24, .ref (sh_r a0 1)] (by decide +kernel) rfl ?_
    refine i_cv (ci := 11) (t := 214) (na := 3) (ml := 3) (idx := 168) (pc' := 188) (st' := [.int 24, .ref (sh_r a0 1)]) (en := [some (.ref a0), some (.int x3), some (.int x4)]) (av := [.int x3, .int x4]) (vo := fun v => some (.int v)) (mo := fun _ => m10) (s2 := fun v => .int v :: [.int 24, .ref (sh_r a0 1)]) (by decide +kernel) (by decide +kernel) h0 ⟨rfl, rfl, rfl, rfl, rfl, rfl⟩ (fun _ => rfl) (t_214 hN (h0 := h0)) (fun v12 => ?_)
    refine i_bl (pc' := 195) [(.iadd, 1), (.iload_n 2, 1), (.bipush (6), 2), (.iload_n 1, 1), (.imul, 1), (.iadd, 1)] [some (.ref a0), some (.int x1), some (.int x2), some (.int x3), some (.int x4)] [.int (x2 + (6 * x1)), .int (24 + v12), .ref (sh_r a0 1)] (by decide +kernel) rfl ?_
    refine i_as (y := (x2 + (6 * x1))) (pc' := 196) (by decide +kernel) (o_11_1 hN h0) (fun m13 => ?_)
    refine i_bl (pc' := 197) [(.aload_n 0, 1)] [some (.ref a0), some (.int x1), some (.int x2), some (.int x3), some (.int x4)] [.ref a0] (by decide +kernel) rfl ?_
    refine i_gr (idx := 7) (ci := 11) (k := 1) (t := 2) (p := 16234) (pc' := 200) (by decide +kernel) h0 ?_
    refine i_bl (pc' := 206) [(.bipush (88), 2), (.aload_n 0, 1), (.iload_n 3, 1), (.iload 4, 2)] [some (.ref a0), some (.int x1), some (.int x2), some (.int x3), some (.int x4)] [.int x4, .int x3, .ref a0, .int 88, .ref (sh_r a0 1)] (by decide +kernel) rfl ?_
    refine i_cv (ci := 11) (t := 214) (na := 3) (ml := 3) (idx := 168) (pc' := 209) (st' := [.int 88, .ref (sh_r a0 1)]) (en := [some (.ref a0), some (.int x3), some (.int x4)]) (av := [.int x3, .int x4]) (vo := fun v => some (.int v)) (mo := fun _ => m13) (s2 := fun v => .int v :: [.int 88, .ref (sh_r a0 1)]) (by decide +kernel) (by decide +kernel) h0 ⟨rfl, rfl, rfl, rfl, rfl, rfl⟩ (fun _ => rfl) (t_214 hN (h0 := h0)) (fun v14 => ?_)
    refine i_bl (pc' := 216) [(.iadd, 1), (.iload_n 2, 1), (.bipush (6), 2), (.iload_n 1, 1), (.imul, 1), (.iadd, 1)] [some (.ref a0), some (.int x1), some (.int x2), some (.int x3), some (.int x4)] [.int (x2 + (6 * x1)), .int (88 + v14), .ref (sh_r a0 1)] (by decide +kernel) rfl ?_
    refine i_as (y := (x2 + (6 * x1))) (pc' := 217) (by decide +kernel) (o_11_1 hN h0) (fun m15 => ?_)
    refine i_bl (pc' := 219) [(.aload_n 0, 1), (.aload_n 0, 1)] [some (.ref a0), some (.int x1), some (.int x2), some (.int x3), some (.int x4)] [.ref a0, .ref a0] (by decide +kernel) rfl ?_
    refine i_gf (idx := 386) (ci := 11) (k := 28) (t := 0) (p := 17021) (pc' := 222) (by decide +kernel) h0 ?_
    refine i_bl (pc' := 224) [(.iconst 1, 1), (.iadd, 1)] [some (.ref a0), some (.int x1), some (.int x2), some (.int x3), some (.int x4)] [.int ((m15 a0 28) + 1), .ref a0] (by decide +kernel) rfl ?_
    refine i_pf (x := ((m15 a0 28) + 1)) (idx := 386) (ci := 11) (k := 28) (p := 17021) (pc' := 227) (by decide +kernel) h0 (fun m16 => ?_)
    exact i_rv (by decide +kernel) rfl
  · exact i_rv (by decide +kernel) rfl

noncomputable def d_298_102 (a0 : Nat) (x1 : Int32) (x2 : Int32) (m : Mm) : Option Mm := (d_290 a0 m).bind fun m5 => if ev_in 0 (sh_n (sh_r a0 1)) = true then ((d_293 a0 0 ((m5 (sh_r a0 1) (ix 0)) - 1) m5).bind fun r6 => if ev_in 1 (sh_n (sh_r a0 1)) = true then ((d_292 a0 0 ((r6.2 (sh_r a0 1) (ix 1)) - 1) r6.2).bind fun r7 => (d_214 a0 r6.1 r7.1 r7.2).bind fun v8 => if ev_in (24 + v8) (sh_n (sh_r a0 1)) = true then (if ¬ (r7.2 (sh_r a0 1) (ix (24 + v8))) = 0 then (d_298_159 a0 x1 x2 r6.1 r7.1 a0 false r7.2) else (d_298_159 a0 x1 x2 r6.1 r7.1 a0 true r7.2)) else none) else none) else none
theorem t_298_102 {L nx : Nat} (hN : okn nx) {b z : Nat} {m : Mm} {a0 : Nat} (h0 : ok nx a0 11) {x1 : Int32} {x2 : Int32}  : Im (d_298_102 a0 x1 x2 m) (wV L nx) (ev_dn b z 298 102 [some (.ref a0), some (.int x1), some (.int x2), none, none] [] (nx, mem L nx m)) := by
  unfold d_298_102
  refine i_bl (pc' := 103) [(.aload_n 0, 1)] [some (.ref a0), some (.int x1), some (.int x2), none, none] [.ref a0] (by decide +kernel) rfl ?_
  refine i_cv (ci := 11) (t := 290) (na := 1) (ml := 1) (idx := 374) (pc' := 106) (st' := []) (en := [some (.ref a0)]) (av := []) (vo := fun _ => none) (mo := fun m => m) (s2 := fun _ => []) (by decide +kernel) (by decide +kernel) h0 ⟨rfl, rfl, rfl, rfl, rfl, rfl⟩ (fun _ => rfl) (t_290 hN (h0 := h0)) (fun m5 => ?_)
  refine i_bl (pc' := 109) [(.aload_n 0, 1), (.iconst 0, 1), (.aload_n 0, 1)] [some (.ref a0), some (.int x1), some (.int x2), none, none] [.ref a0, .int 0, .ref a0] (by decide +kernel) rfl ?_
  refine i_gr (idx := 7) (ci := 11) (k := 1) (t := 2) (p := 16234) (pc' := 112) (by decide +kernel) h0 ?_
  refine i_bl (pc' := 113) [(.iconst 0, 1)] [some (.ref a0), some (.int x1), some (.int x2), none, none] [.int 0, .ref (sh_r a0 1), .int 0, .ref a0] (by decide +kernel) rfl ?_
  refine i_al (pc' := 114) (by decide +kernel) (o_11_1 hN h0) ?_
  refine i_bl (pc' := 116) [(.iconst 1, 1), (.isub, 1)] [some (.ref a0), some (.int x1), some (.int x2), none, none] [.int ((m5 (sh_r a0 1) (ix 0)) - 1), .int 0, .ref a0] (by decide +kernel) rfl ?_
  refine i_cv (ci := 11) (t := 293) (na := 3) (ml := 4) (idx := 383) (pc' := 119) (st' := []) (en := [some (.ref a0), some (.int 0), some (.int ((m5 (sh_r a0 1) (ix 0)) - 1)), none]) (av := [.int 0, .int ((m5 (sh_r a0 1) (ix 0)) - 1)]) (vo := fun v => some (.int v.1)) (mo := fun v => v.2) (s2 := fun v => .int v.1 :: []) (by decide +kernel) (by decide +kernel) h0 ⟨rfl, rfl, rfl, rfl, rfl, rfl⟩ (fun _ => rfl) (t_293 hN (h0 := h0)) (fun r6 => ?_)
  refine i_bl (pc' := 123) [(.istore_n 3, 1), (.aload_n 0, 1), (.iconst 0, 1), (.aload_n 0, 1)] [some (.ref a0), some (.int x1), some (.int x2), some (.int r6.1), none] [.ref a0, .int 0, .ref a0] (by decide +kernel) rfl ?_
  refine i_gr (idx := 7) (ci := 11) (k := 1) (t := 2) (p := 16234) (pc' := 126) (by decide +kernel) h0 ?_
  refine i_bl (pc' := 127) [(.iconst 1, 1)] [some (.ref a0), some (.int x1), some (.int x2), some (.int r6.1), none] [.int 1, .ref (sh_r a0 1), .int 0, .ref a0] (by decide +kernel) rfl ?_
  refine i_al (pc' := 128) (by decide +kernel) (o_11_1 hN h0) ?_
  refine i_bl (pc' := 130) [(.iconst 1, 1), (.isub, 1)] [some (.ref a0), some (.int x1), some (.int x2), some (.int r6.1), none] [.int ((r6.2 (sh_r a0 1) (ix 1)) - 1), .int 0, .ref a0] (by decide +kernel) rfl ?_
  refine i_cv (ci := 11) (t := 292) (na := 3) (ml := 3) (idx := 371) (pc' := 133) (st' := []) (en := [some (.ref a0), some (.int 0), some (.int ((r6.2 (sh_r a0 1) (ix 1)) - 1))]) (av := [.int 0, .int ((r6.2 (sh_r a0 1) (ix 1)) - 1)]) (vo := fun v => some (.int v.1)) (mo := fun v => v.2) (s2 := fun v => .int v.1 :: []) (by decide +kernel) (by decide +kernel) h0 ⟨rfl, rfl, rfl, rfl, rfl, rfl⟩ (fun _ => rfl) (t_292 hN (h0 := h0)) (fun r7 => ?_)
  refine i_bl (pc' := 137) [(.istore 4, 2), (.aload_n 0, 1), (.aload_n 0, 1)] [some (.ref a0), some (.int x1), some (.int x2), some (.int r6.1), some (.int r7.1)] [.ref a0, .ref a0] (by decide +kernel) rfl ?_
  refine i_gr (idx := 7) (ci := 11) (k := 1) (t := 2) (p := 16234) (pc' := 140) (by decide +kernel) h0 ?_
  refine i_bl (pc' := 146) [(.bipush (24), 2), (.aload_n 0, 1), (.iload_n 3, 1), (.iload 4, 2)] [some (.ref a0), some (.int x1), some (.int x2), some (.int r6.1), some (.int r7.1)] [.int r7.1, .int r6.1, .ref a0, .int 24, .ref (sh_r a0 1), .ref a0] (by decide +kernel) rfl ?_
  refine i_cv (ci := 11) (t := 214) (na := 3) (ml := 3) (idx := 168) (pc' := 149) (st' := [.int 24, .ref (sh_r a0 1), .ref a0]) (en := [some (.ref a0), some (.int r6.1), some (.int r7.1)]) (av := [.int r6.1, .int r7.1]) (vo := fun v => some (.int v)) (mo := fun _ => r7.2) (s2 := fun v => .int v :: [.int 24, .ref (sh_r a0 1), .ref a0]) (by decide +kernel) (by decide +kernel) h0 ⟨rfl, rfl, rfl, rfl, rfl, rfl⟩ (fun _ => rfl) (t_214 hN (h0 := h0)) (fun v8 => ?_)
  refine i_bl (pc' := 150) [(.iadd, 1)] [some (.ref a0), some (.int x1), some (.int x2), some (.int r6.1), some (.int r7.1)] [.int (24 + v8), .ref (sh_r a0 1), .ref a0] (by decide +kernel) rfl ?_
  refine i_al (pc' := 151) (by decide +kernel) (o_11_1 hN h0) ?_
  refine i_if (c := .ne) (off := 7) (t := 158) (pc' := 154) (p := ¬ (r7.2 (sh_r a0 1) (ix (24 + v8))) = 0) (by decide +kernel) rfl ?_ ?_
  · refine i_bl (pc' := 159) [(.iconst 0, 1)] [some (.ref a0), some (.int x1), some (.int x2), some (.int r6.1), some (.int r7.1)] [.int 0, .ref a0] (by decide +kernel) rfl ?_
    exact t_298_159 hN (h0 := h0) (hs0 := h0)
  · refine i_bl (pc' := 155) [(.iconst 1, 1)] [some (.ref a0), some (.int x1), some (.int x2), some (.int r6.1), some (.int r7.1)] [.int 1, .ref a0] (by decide +kernel) rfl ?_
    refine i_go (t := 159) (off := 4) (by decide +kernel) ?_
    exact t_298_159 hN (h0 := h0) (hs0 := h0)

noncomputable def d_298_98 (a0 : Nat) (x1 : Int32) (x2 : Int32) (s0 : Nat) (s1 : Bool) (m : Mm) : Option Mm := (d_289 s0 s1 3 m).bind fun m18 => d_298_102 a0 x1 x2 m18
theorem t_298_98 {L nx : Nat} (hN : okn nx) {b z : Nat} {m : Mm} {a0 : Nat} (h0 : ok nx a0 11) {s0 : Nat} (hs0 : ok nx s0 11) {x1 : Int32} {x2 : Int32} {s1 : Bool}  : Im (d_298_98 a0 x1 x2 s0 s1 m) (wV L nx) (ev_dn b z 298 98 [some (.ref a0), some (.int x1), some (.int x2), none, none] [.int (bi s1), .ref s0] (nx, mem L nx m)) := by
  unfold d_298_98
  refine i_bl (pc' := 99) [(.iconst 3, 1)] [some (.ref a0), some (.int x1), some (.int x2), none, none] [.int 3, .int (bi s1), .ref s0] (by decide +kernel) rfl ?_
  refine i_cv (ci := 11) (t := 289) (na := 3) (ml := 3) (idx := 367) (pc' := 102) (st' := []) (en := [some (.ref s0), some (.int (bi s1)), some (.int 3)]) (av := [.int (bi s1), .int 3]) (vo := fun _ => none) (mo := fun m => m) (s2 := fun _ => []) (by decide +kernel) (by decide +kernel) hs0 ⟨rfl, rfl, rfl, rfl, rfl, rfl⟩ (fun _ => rfl) (t_289 hN (h0 := hs0)) (fun m18 => ?_)
  exact t_298_102 hN (h0 := h0)

noncomputable def d_298_78 (a0 : Nat) (x1 : Int32) (s0 : Int32) (m : Mm) : Option Mm := if ¬ s0 = 1 then (d_298_102 a0 x1 s0 m) else ((d_297 a0 x1 m).bind fun v17 => if v17 = true then (d_298_98 a0 x1 s0 a0 false m) else (d_298_98 a0 x1 s0 a0 true m))
theorem t_298_78 {L nx : Nat} (hN : okn nx) {b z : Nat} {m : Mm} {a0 : Nat} (h0 : ok nx a0 11) {x1 : Int32} {s0 : Int32}  : Im (d_298_78 a0 x1 s0 m) (wV L nx) (ev_dn b z 298 78 [some (.ref a0), some (.int x1), none, none, none] [.int s0] (nx, mem L nx m)) := by
  unfold d_298_78
  refine i_bl (pc' := 81) [(.istore_n 2, 1), (.iload_n 2, 1), (.iconst 1, 1)] [some (.ref a0), some (.int x1), some (.int s0), none, none] [.int 1, .int s0] (by decide +kernel) rfl ?_
  refine i_ic (c := .ne) (off := 21) (t := 102) (pc' := 84) (p := ¬ s0 = 1) (by decide +kernel) rfl ?_ ?_
  · exact t_298_102 hN (h0 := h0)
  · refine i_bl (pc' := 87) [(.aload_n 0, 1), (.aload_n 0, 1), (.iload_n 1, 1)] [some (.ref a0), some (.int x1), some (.int s0), none, none] [.int x1, .ref a0, .ref a0] (by decide +kernel) rfl ?_
    refine i_cv (ci := 11) (t := 297) (na := 2) (ml := 3) (idx := 393) (pc' := 90) (st' := [.ref a0]) (en := [some (.ref a0), some (.int x1), none]) (av := [.int x1]) (vo := fun v => some (.int (bi v))) (mo := fun _ => m) (s2 := fun v => .int (bi v) :: [.ref a0]) (by decide +kernel) (by decide +kernel) h0 ⟨rfl, rfl, rfl, rfl, rfl, rfl⟩ (fun _ => rfl) (t_297 hN (h0 := h0)) (fun v17 => ?_)
    refine i_bn (off := 7) (t := 97) (pc' := 93) (by decide +kernel) ?_ ?_
    · refine i_bl (pc' := 98) [(.iconst 0, 1)] [some (.ref a0), some (.int x1), some (.int s0), none, none] [.int 0, .ref a0] (by decide +kernel) rfl ?_
      exact t_298_98 hN (h0 := h0) (hs0 := h0)
    · refine i_bl (pc' := 94) [(.iconst 1, 1)] [some (.ref a0), some (.int x1), some (.int s0), none, none] [.int 1, .ref a0] (by decide +kernel) rfl ?_
      refine i_go (t := 98) (off := 4) (by decide +kernel) ?_
      exact t_298_98 hN (h0 := h0) (hs0 := h0)

noncomputable def d_298_54 (a0 : Nat) (x1 : Int32) (s0 : Nat) (s1 : Bool) (m : Mm) : Option Mm := (d_289 s0 s1 1 m).bind fun m3 => (d_288 a0 m3).bind fun v4 => if v4 = true then (d_298_78 a0 x1 (((m3 a0 23) - 8) + 1) m3) else (d_298_78 a0 x1 1 m3)
theorem t_298_54 {L nx : Nat} (hN : okn nx) {b z : Nat} {m : Mm} {a0 : Nat} (h0 : ok nx a0 11) {s0 : Nat} (hs0 : ok nx s0 11) {x1 : Int32} {s1 : Bool}  : Im (d_298_54 a0 x1 s0 s1 m) (wV L nx) (ev_dn b z 298 54 [some (.ref a0), some (.int x1), none, none, none] [.int (bi s1), .ref s0] (nx, mem L nx m)) := by
  unfold d_298_54
  refine i_bl (pc' := 55) [(.iconst 1, 1)] [some (.ref a0), some (.int x1), none, none, none] [.int 1, .int (bi s1), .ref s0] (by decide +kernel) rfl ?_
  refine i_cv (ci := 11) (t := 289) (na := 3) (ml := 3) (idx := 367) (pc' := 58) (st' := []) (en := [some (.ref s0), some (.int (bi s1)), some (.int 1)]) (av := [.int (bi s1), .int 1]) (vo := fun _ => none) (mo := fun m => m) (s2 := fun _ => []) (by decide +kernel) (by decide +kernel) hs0 ⟨rfl, rfl, rfl, rfl, rfl, rfl⟩ (fun _ => rfl) (t_289 hN (h0 := hs0)) (fun m3 => ?_)
  refine i_bl (pc' := 59) [(.aload_n 0, 1)] [some (.ref a0), some (.int x1), none, none, none] [.ref a0] (by decide +kernel) rfl ?_
  refine i_cv (ci := 11) (t := 288) (na := 1) (ml := 1) (idx := 361) (pc' := 62) (st' := []) (en := [some (.ref a0)]) (av := []) (vo := fun v => some (.int (bi v))) (mo := fun _ => m3) (s2 := fun v => .int (bi v) :: []) (by decide +kernel) (by decide +kernel) h0 ⟨rfl, rfl, rfl, rfl, rfl, rfl⟩ (fun _ => rfl) (t_288 hN (h0 := h0)) (fun v4 => ?_)
  refine i_bz (off := 15) (t := 77) (pc' := 65) (by decide +kernel) ?_ ?_
  · refine i_bl (pc' := 66) [(.aload_n 0, 1)] [some (.ref a0), some (.int x1), none, none, none] [.ref a0] (by decide +kernel) rfl ?_
    refine i_gf (idx := 338) (ci := 11) (k := 23) (t := 0) (p := 17016) (pc' := 69) (by decide +kernel) h0 ?_
    refine i_bl (pc' := 74) [(.bipush (8), 2), (.isub, 1), (.iconst 1, 1), (.iadd, 1)] [some (.ref a0), some (.int x1), none, none, none] [.int (((m3 a0 23) - 8) + 1)] (by decide +kernel) rfl ?_
    refine i_go (t := 78) (off := 4) (by decide +kernel) ?_
    exact t_298_78 hN (h0 := h0)
  · refine i_bl (pc' := 78) [(.iconst 1, 1)] [some (.ref a0), some (.int x1), none, none, none] [.int 1] (by decide +kernel) rfl ?_
    exact t_298_78 hN (h0 := h0)

noncomputable def d_298_15 (a0 : Nat) (x1 : Int32) (s0 : Nat) (s1 : Bool) (m : Mm) : Option Mm := (d_289 s0 s1 4 m).bind fun m1 => (d_290 a0 m1).bind fun m2 => if ¬ (m2 a0 22) = 1 then (d_298_54 a0 x1 a0 false m2) else ((d_185 (m2 a0 23) 8 13).bind fun v19 => if v19 = true then (d_298_54 a0 x1 a0 true m2) else (d_298_54 a0 x1 a0 false m2))
theorem t_298_15 {L nx : Nat} (hN : okn nx) {b z : Nat} {m : Mm} {a0 : Nat} (h0 : ok nx a0 11) {s0 : Nat} (hs0 : ok nx s0 11) {x1 : Int32} {s1 : Bool}  : Im (d_298_15 a0 x1 s0 s1 m) (wV L nx) (ev_dn b z 298 15 [some (.ref a0), some (.int x1), none, none, none] [.int (bi s1), .ref s0] (nx, mem L nx m)) := by
  unfold d_298_15
  refine i_bl (pc' := 16) [(.iconst 4, 1)] [some (.ref a0), some (.int x1), none, none, none] [.int 4, .int (bi s1), .ref s0] (by decide +kernel) rfl ?_
  refine i_cv (ci := 11) (t := 289) (na := 3) (ml := 3) (idx := 367) (pc' := 19) (st' := []) (en := [some (.ref s0), some (.int (bi s1)), some (.int 4)]) (av := [.int (bi s1), .int 4]) (vo := fun _ => none) (mo := fun m => m) (s2 := fun _ => []) (by decide +kernel) (by decide +kernel) hs0 ⟨rfl, rfl, rfl, rfl, rfl, rfl⟩ (fun _ => rfl) (t_289 hN (h0 := hs0)) (fun m1 => ?_)
  refine i_bl (pc' := 20) [(.aload_n 0, 1)] [some (.ref a0), some (.int x1), none, none, none] [.ref a0] (by decide +kernel) rfl ?_
  refine i_cv (ci := 11) (t := 290) (na := 1) (ml := 1) (idx := 374) (pc' := 23) (st' := []) (en := [some (.ref a0)]) (av := []) (vo := fun _ => none) (mo := fun m => m) (s2 := fun _ => []) (by decide +kernel) (by decide +kernel) h0 ⟨rfl, rfl, rfl, rfl, rfl, rfl⟩ (fun _ => rfl) (t_290 hN (h0 := h0)) (fun m2 => ?_)
  refine i_bl (pc' := 25) [(.aload_n 0, 1), (.aload_n 0, 1)] [some (.ref a0), some (.int x1), none, none, none] [.ref a0, .ref a0] (by decide +kernel) rfl ?_
  refine i_gf (idx := 329) (ci := 11) (k := 22) (t := 0) (p := 17015) (pc' := 28) (by decide +kernel) h0 ?_
  refine i_bl (pc' := 29) [(.iconst 1, 1)] [some (.ref a0), some (.int x1), none, none, none] [.int 1, .int (m2 a0 22), .ref a0] (by decide +kernel) rfl ?_
  refine i_ic (c := .ne) (off := 24) (t := 53) (pc' := 32) (p := ¬ (m2 a0 22) = 1) (by decide +kernel) rfl ?_ ?_
  · refine i_bl (pc' := 54) [(.iconst 0, 1)] [some (.ref a0), some (.int x1), none, none, none] [.int 0, .ref a0] (by decide +kernel) rfl ?_
    exact t_298_54 hN (h0 := h0) (hs0 := h0)
  · refine i_bl (pc' := 33) [(.aload_n 0, 1)] [some (.ref a0), some (.int x1), none, none, none] [.ref a0, .ref a0] (by decide +kernel) rfl ?_
    refine i_gf (idx := 338) (ci := 11) (k := 23) (t := 0) (p := 17016) (pc' := 36) (by decide +kernel) h0 ?_
    refine i_bl (pc' := 37) [(.i2l, 1)] [some (.ref a0), some (.int x1), none, none, none] [.long (m2 a0 23).toInt64, .ref a0] (by decide +kernel) rfl ?_
    refine i_l2 (idx := 389) (p := 19091) (x := 8) (pc' := 40) (by decide +kernel) ?_
    refine i_l2 (idx := 391) (p := 19092) (x := 13) (pc' := 43) (by decide +kernel) ?_
    refine i_cs (t := 185) (na := 3) (ml := 6) (idx := 148) (pc' := 46) (st' := [.ref a0]) (en := [some (.long (m2 a0 23).toInt64), none, some (.long (8 : Int32).toInt64), none, some (.long (13 : Int32).toInt64), none]) (av := [.long (m2 a0 23).toInt64, .long (8 : Int32).toInt64, .long (13 : Int32).toInt64]) (vo := fun v => some (.int (bi v))) (mo := fun _ => m2) (s2 := fun v => .int (bi v) :: [.ref a0]) (by decide +kernel) ⟨rfl, rfl, rfl, rfl, rfl, rfl⟩ (fun _ => rfl) (t_185 hN ) (fun v19 => ?_)
    refine i_bz (off := 7) (t := 53) (pc' := 49) (by decide +kernel) ?_ ?_
    · refine i_bl (pc' := 50) [(.iconst 1, 1)] [some (.ref a0), some (.int x1), none, none, none] [.int 1, .ref a0] (by decide +kernel) rfl ?_
      refine i_go (t := 54) (off := 4) (by decide +kernel) ?_
      exact t_298_54 hN (h0 := h0) (hs0 := h0)
    · refine i_bl (pc' := 54) [(.iconst 0, 1)] [some (.ref a0), some (.int x1), none, none, none] [.int 0, .ref a0] (by decide +kernel) rfl ?_
      exact t_298_54 hN (h0 := h0) (hs0 := h0)

noncomputable def d_298 (a0 : Nat) (x1 : Int32) (m : Mm) : Option Mm := if 32 ≤ (m a0 28) then (d_298_15 a0 x1 a0 false m) else (d_298_15 a0 x1 a0 true m)
theorem t_298 {L nx : Nat} (hN : okn nx) {b z : Nat} {m : Mm} {a0 : Nat} (h0 : ok nx a0 11) {x1 : Int32}  : Im (d_298 a0 x1 m) (wV L nx) (ev_dn b z 298 0 [some (.ref a0), some (.int x1), none, none, none] [] (nx, mem L nx m)) := by
  unfold d_298
  refine i_bl (pc' := 2) [(.aload_n 0, 1), (.aload_n 0, 1)] [some (.ref a0), some (.int x1), none, none, none] [.ref a0, .ref a0] (by decide +kernel) rfl ?_
  refine i_gf (idx := 386) (ci := 11) (k := 28) (t := 0) (p := 17021) (pc' := 5) (by decide +kernel) h0 ?_
  refine i_bl (pc' := 7) [(.bipush (32), 2)] [some (.ref a0), some (.int x1), none, none, none] [.int 32, .int (m a0 28), .ref a0] (by decide +kernel) rfl ?_
  refine i_ic (c := .ge) (off := 7) (t := 14) (pc' := 10) (p := 32 ≤ (m a0 28)) (by decide +kernel) rfl ?_ ?_
  · refine i_bl (pc' := 15) [(.iconst 0, 1)] [some (.ref a0), some (.int x1), none, none, none] [.int 0, .ref a0] (by decide +kernel) rfl ?_
    exact t_298_15 hN (h0 := h0) (hs0 := h0)
  · refine i_bl (pc' := 11) [(.iconst 1, 1)] [some (.ref a0), some (.int x1), none, none, none] [.int 1, .ref a0] (by decide +kernel) rfl ?_
    refine i_go (t := 15) (off := 4) (by decide +kernel) ?_
    exact t_298_15 hN (h0 := h0) (hs0 := h0)

/-! 299 LanternChessModel.readsFog()V -/
noncomputable def d_299_50 (a0 : Nat) (x1 : Int32) (s0 : Nat) (s1 : Bool) (m : Mm) : Option Mm := (d_289 s0 s1 3 m).bind fun m5 => (d_290 a0 m5).bind fun m6 => (d_293 a0 1 999 m6).bind fun r7 => (d_293 a0 1 9 r7.2).bind fun r8 => (d_288 a0 r8.2).bind fun v9 => if v9 = true then ((d_241 a0 x1 r7.1 r8.1 r8.2).bind fun r10 => some r10.2) else (some r8.2)
theorem t_299_50 {L nx : Nat} (hN : okn nx) {b z : Nat} {m : Mm} {a0 : Nat} (h0 : ok nx a0 11) {s0 : Nat} (hs0 : ok nx s0 11) {x1 : Int32} {s1 : Bool}  : Im (d_299_50 a0 x1 s0 s1 m) (wV L nx) (ev_dn b z 299 50 [some (.ref a0), some (.int x1), none, none, none] [.int (bi s1), .ref s0] (nx, mem L nx m)) := by
  unfold d_299_50
  refine i_bl (pc' := 51) [(.iconst 3, 1)] [some (.ref a0), some (.int x1), none, none, none] [.int 3, .int (bi s1), .ref s0] (by decide +kernel) rfl ?_
  refine i_cv (ci := 11) (t := 289) (na := 3) (ml := 3) (idx := 367) (pc' := 54) (st' := []) (en := [some (.ref s0), some (.int (bi s1)), some (.int 3)]) (av := [.int (bi s1), .int 3]) (vo := fun _ => none) (mo := fun m => m) (s2 := fun _ => []) (by decide +kernel) (by decide +kernel) hs0 ⟨rfl, rfl, rfl, rfl, rfl, rfl⟩ (fun _ => rfl) (t_289 hN (h0 := hs0)) (fun m5 => ?_)
  refine i_bl (pc' := 55) [(.aload_n 0, 1)] [some (.ref a0), some (.int x1), none, none, none] [.ref a0] (by decide +kernel) rfl ?_
  refine i_cv (ci := 11) (t := 290) (na := 1) (ml := 1) (idx := 374) (pc' := 58) (st' := []) (en := [some (.ref a0)]) (av := []) (vo := fun _ => none) (mo := fun m => m) (s2 := fun _ => []) (by decide +kernel) (by decide +kernel) h0 ⟨rfl, rfl, rfl, rfl, rfl, rfl⟩ (fun _ => rfl) (t_290 hN (h0 := h0)) (fun m6 => ?_)
  refine i_bl (pc' := 63) [(.aload_n 0, 1), (.iconst 1, 1), (.sipush (999), 3)] [some (.ref a0), some (.int x1), none, none, none] [.int 999, .int 1, .ref a0] (by decide +kernel) rfl ?_
  refine i_cv (ci := 11) (t := 293) (na := 3) (ml := 4) (idx := 383) (pc' := 66) (st' := []) (en := [some (.ref a0), some (.int 1), some (.int 999), none]) (av := [.int 1, .int 999]) (vo := fun v => some (.int v.1)) (mo := fun v => v.2) (s2 := fun v => .int v.1 :: []) (by decide +kernel) (by decide +kernel) h0 ⟨rfl, rfl, rfl, rfl, rfl, rfl⟩ (fun _ => rfl) (t_293 hN (h0 := h0)) (fun r7 => ?_)
  refine i_bl (pc' := 71) [(.istore_n 2, 1), (.aload_n 0, 1), (.iconst 1, 1), (.bipush (9), 2)] [some (.ref a0), some (.int x1), some (.int r7.1), none, none] [.int 9, .int 1, .ref a0] (by decide +kernel) rfl ?_
  refine i_cv (ci := 11) (t := 293) (na := 3) (ml := 4) (idx := 383) (pc' := 74) (st' := []) (en := [some (.ref a0), some (.int 1), some (.int 9), none]) (av := [.int 1, .int 9]) (vo := fun v => some (.int v.1)) (mo := fun v => v.2) (s2 := fun v => .int v.1 :: []) (by decide +kernel) (by decide +kernel) h0 ⟨rfl, rfl, rfl, rfl, rfl, rfl⟩ (fun _ => rfl) (t_293 hN (h0 := h0)) (fun r8 => ?_)
  refine i_bl (pc' := 76) [(.istore_n 3, 1), (.aload_n 0, 1)] [some (.ref a0), some (.int x1), some (.int r7.1), some (.int r8.1), none] [.ref a0] (by decide +kernel) rfl ?_
  refine i_cv (ci := 11) (t := 288) (na := 1) (ml := 1) (idx := 361) (pc' := 79) (st' := []) (en := [some (.ref a0)]) (av := []) (vo := fun v => some (.int (bi v))) (mo := fun _ => r8.2) (s2 := fun v => .int (bi v) :: []) (by decide +kernel) (by decide +kernel) h0 ⟨rfl, rfl, rfl, rfl, rfl, rfl⟩ (fun _ => rfl) (t_288 hN (h0 := h0)) (fun v9 => ?_)
  refine i_bn (off := 4) (t := 83) (pc' := 82) (by decide +kernel) ?_ ?_
  · refine i_bl (pc' := 87) [(.aload_n 0, 1), (.iload_n 1, 1), (.iload_n 2, 1), (.iload_n 3, 1)] [some (.ref a0), some (.int x1), some (.int r7.1), some (.int r8.1), none] [.int r8.1, .int r7.1, .int x1, .ref a0] (by decide +kernel) rfl ?_
    refine i_cv (ci := 11) (t := 241) (na := 4) (ml := 6) (idx := 304) (pc' := 90) (st' := []) (en := [some (.ref a0), some (.int x1), some (.int r7.1), some (.int r8.1), none, none]) (av := [.int x1, .int r7.1, .int r8.1]) (vo := fun v => some (.int v.1)) (mo := fun v => v.2) (s2 := fun v => .int v.1 :: []) (by decide +kernel) (by decide +kernel) h0 ⟨rfl, rfl, rfl, rfl, rfl, rfl⟩ (fun _ => rfl) (t_241 hN (h0 := h0)) (fun r10 => ?_)
    refine i_bl (pc' := 92) [(.istore 4, 2)] [some (.ref a0), some (.int x1), some (.int r7.1), some (.int r8.1), some (.int r10.1)] [] (by decide +kernel) rfl ?_
    exact i_rv (by decide +kernel) rfl
  · exact i_rv (by decide +kernel) rfl

noncomputable def d_299_18 (a0 : Nat) (s0 : Nat) (s1 : Bool) (m : Mm) : Option Mm := (d_289 s0 s1 4 m).bind fun m1 => (d_290 a0 m1).bind fun m2 => (d_292 a0 0 9999 m2).bind fun r3 => (d_240 a0 r3.1 r3.2).bind fun v4 => if ¬ v4 = (-1) then (d_299_50 a0 r3.1 a0 false r3.2) else (d_299_50 a0 r3.1 a0 true r3.2)
theorem t_299_18 {L nx : Nat} (hN : okn nx) {b z : Nat} {m : Mm} {a0 : Nat} (h0 : ok nx a0 11) {s0 : Nat} (hs0 : ok nx s0 11) {s1 : Bool}  : Im (d_299_18 a0 s0 s1 m) (wV L nx) (ev_dn b z 299 18 [some (.ref a0), none, none, none, none] [.int (bi s1), .ref s0] (nx, mem L nx m)) := by
  unfold d_299_18
  refine i_bl (pc' := 19) [(.iconst 4, 1)] [some (.ref a0), none, none, none, none] [.int 4, .int (bi s1), .ref s0] (by decide +kernel) rfl ?_
  refine i_cv (ci := 11) (t := 289) (na := 3) (ml := 3) (idx := 367) (pc' := 22) (st' := []) (en := [some (.ref s0), some (.int (bi s1)), some (.int 4)]) (av := [.int (bi s1), .int 4]) (vo := fun _ => none) (mo := fun m => m) (s2 := fun _ => []) (by decide +kernel) (by decide +kernel) hs0 ⟨rfl, rfl, rfl, rfl, rfl, rfl⟩ (fun _ => rfl) (t_289 hN (h0 := hs0)) (fun m1 => ?_)
  refine i_bl (pc' := 23) [(.aload_n 0, 1)] [some (.ref a0), none, none, none, none] [.ref a0] (by decide +kernel) rfl ?_
  refine i_cv (ci := 11) (t := 290) (na := 1) (ml := 1) (idx := 374) (pc' := 26) (st' := []) (en := [some (.ref a0)]) (av := []) (vo := fun _ => none) (mo := fun m => m) (s2 := fun _ => []) (by decide +kernel) (by decide +kernel) h0 ⟨rfl, rfl, rfl, rfl, rfl, rfl⟩ (fun _ => rfl) (t_290 hN (h0 := h0)) (fun m2 => ?_)
  refine i_bl (pc' := 31) [(.aload_n 0, 1), (.iconst 0, 1), (.sipush (9999), 3)] [some (.ref a0), none, none, none, none] [.int 9999, .int 0, .ref a0] (by decide +kernel) rfl ?_
  refine i_cv (ci := 11) (t := 292) (na := 3) (ml := 3) (idx := 371) (pc' := 34) (st' := []) (en := [some (.ref a0), some (.int 0), some (.int 9999)]) (av := [.int 0, .int 9999]) (vo := fun v => some (.int v.1)) (mo := fun v => v.2) (s2 := fun v => .int v.1 :: []) (by decide +kernel) (by decide +kernel) h0 ⟨rfl, rfl, rfl, rfl, rfl, rfl⟩ (fun _ => rfl) (t_292 hN (h0 := h0)) (fun r3 => ?_)
  refine i_bl (pc' := 38) [(.istore_n 1, 1), (.aload_n 0, 1), (.aload_n 0, 1), (.iload_n 1, 1)] [some (.ref a0), some (.int r3.1), none, none, none] [.int r3.1, .ref a0, .ref a0] (by decide +kernel) rfl ?_
  refine i_cv (ci := 11) (t := 240) (na := 2) (ml := 3) (idx := 301) (pc' := 41) (st' := [.ref a0]) (en := [some (.ref a0), some (.int r3.1), none]) (av := [.int r3.1]) (vo := fun v => some (.int v)) (mo := fun _ => r3.2) (s2 := fun v => .int v :: [.ref a0]) (by decide +kernel) (by decide +kernel) h0 ⟨rfl, rfl, rfl, rfl, rfl, rfl⟩ (fun _ => rfl) (t_240 hN (h0 := h0)) (fun v4 => ?_)
  refine i_bl (pc' := 42) [(.iconst (-1), 1)] [some (.ref a0), some (.int r3.1), none, none, none] [.int (-1), .int v4, .ref a0] (by decide +kernel) rfl ?_
  refine i_ic (c := .ne) (off := 7) (t := 49) (pc' := 45) (p := ¬ v4 = (-1)) (by decide +kernel) rfl ?_ ?_
  · refine i_bl (pc' := 50) [(.iconst 0, 1)] [some (.ref a0), some (.int r3.1), none, none, none] [.int 0, .ref a0] (by decide +kernel) rfl ?_
    exact t_299_50 hN (h0 := h0) (hs0 := h0)
  · refine i_bl (pc' := 46) [(.iconst 1, 1)] [some (.ref a0), some (.int r3.1), none, none, none] [.int 1, .ref a0] (by decide +kernel) rfl ?_
    refine i_go (t := 50) (off := 4) (by decide +kernel) ?_
    exact t_299_50 hN (h0 := h0) (hs0 := h0)

noncomputable def d_299 (a0 : Nat) (m : Mm) : Option Mm := if ev_in 8 (sh_n (sh_r a0 1)) = true then (if 8 ≤ (m (sh_r a0 1) (ix 8)) then (d_299_18 a0 a0 false m) else (d_299_18 a0 a0 true m)) else none
theorem t_299 {L nx : Nat} (hN : okn nx) {b z : Nat} {m : Mm} {a0 : Nat} (h0 : ok nx a0 11)   : Im (d_299 a0 m) (wV L nx) (ev_dn b z 299 0 [some (.ref a0), none, none, none, none] [] (nx, mem L nx m)) := by
  unfold d_299
  refine i_bl (pc' := 2) [(.aload_n 0, 1), (.aload_n 0, 1)] [some (.ref a0), none, none, none, none] [.ref a0, .ref a0] (by decide +kernel) rfl ?_
  refine i_gr (idx := 7) (ci := 11) (k := 1) (t := 2) (p := 16234) (pc' := 5) (by decide +kernel) h0 ?_
  refine i_bl (pc' := 7) [(.bipush (8), 2)] [some (.ref a0), none, none, none, none] [.int 8, .ref (sh_r a0 1), .ref a0] (by decide +kernel) rfl ?_
  refine i_al (pc' := 8) (by decide +kernel) (o_11_1 hN h0) ?_
  refine i_bl (pc' := 10) [(.bipush (8), 2)] [some (.ref a0), none, none, none, none] [.int 8, .int (m (sh_r a0 1) (ix 8)), .ref a0] (by decide +kernel) rfl ?_
  refine i_ic (c := .ge) (off := 7) (t := 17) (pc' := 13) (p := 8 ≤ (m (sh_r a0 1) (ix 8))) (by decide +kernel) rfl ?_ ?_
  · refine i_bl (pc' := 18) [(.iconst 0, 1)] [some (.ref a0), none, none, none, none] [.int 0, .ref a0] (by decide +kernel) rfl ?_
    exact t_299_18 hN (h0 := h0) (hs0 := h0)
  · refine i_bl (pc' := 14) [(.iconst 1, 1)] [some (.ref a0), none, none, none, none] [.int 1, .ref a0] (by decide +kernel) rfl ?_
    refine i_go (t := 18) (off := 4) (by decide +kernel) ?_
    exact t_299_18 hN (h0 := h0) (hs0 := h0)

/-! 300 LanternChessModel.semicolon()V -/
noncomputable def d_300_14 (a0 : Nat) (s0 : Nat) (s1 : Bool) (m : Mm) : Option Mm := (d_289 s0 s1 1 m).bind fun m1 => (d_290 a0 m1).bind fun m2 => some m2
theorem t_300_14 {L nx : Nat} (hN : okn nx) {b z : Nat} {m : Mm} {a0 : Nat} (h0 : ok nx a0 11) {s0 : Nat} (hs0 : ok nx s0 11) {s1 : Bool}  : Im (d_300_14 a0 s0 s1 m) (wV L nx) (ev_dn b z 300 14 [some (.ref a0)] [.int (bi s1), .ref s0] (nx, mem L nx m)) := by
  unfold d_300_14
  refine i_bl (pc' := 15) [(.iconst 1, 1)] [some (.ref a0)] [.int 1, .int (bi s1), .ref s0] (by decide +kernel) rfl ?_
  refine i_cv (ci := 11) (t := 289) (na := 3) (ml := 3) (idx := 367) (pc' := 18) (st' := []) (en := [some (.ref s0), some (.int (bi s1)), some (.int 1)]) (av := [.int (bi s1), .int 1]) (vo := fun _ => none) (mo := fun m => m) (s2 := fun _ => []) (by decide +kernel) (by decide +kernel) hs0 ⟨rfl, rfl, rfl, rfl, rfl, rfl⟩ (fun _ => rfl) (t_289 hN (h0 := hs0)) (fun m1 => ?_)
  refine i_bl (pc' := 19) [(.aload_n 0, 1)] [some (.ref a0)] [.ref a0] (by decide +kernel) rfl ?_
  refine i_cv (ci := 11) (t := 290) (na := 1) (ml := 1) (idx := 374) (pc' := 22) (st' := []) (en := [some (.ref a0)]) (av := []) (vo := fun _ => none) (mo := fun m => m) (s2 := fun _ => []) (by decide +kernel) (by decide +kernel) h0 ⟨rfl, rfl, rfl, rfl, rfl, rfl⟩ (fun _ => rfl) (t_290 hN (h0 := h0)) (fun m2 => ?_)
  exact i_rv (by decide +kernel) rfl

noncomputable def d_300 (a0 : Nat) (m : Mm) : Option Mm := if ¬ (m a0 22) = 3 then (d_300_14 a0 a0 false m) else (d_300_14 a0 a0 true m)
theorem t_300 {L nx : Nat} (hN : okn nx) {b z : Nat} {m : Mm} {a0 : Nat} (h0 : ok nx a0 11)   : Im (d_300 a0 m) (wV L nx) (ev_dn b z 300 0 [some (.ref a0)] [] (nx, mem L nx m)) := by
  unfold d_300
  refine i_bl (pc' := 2) [(.aload_n 0, 1), (.aload_n 0, 1)] [some (.ref a0)] [.ref a0, .ref a0] (by decide +kernel) rfl ?_
  refine i_gf (idx := 329) (ci := 11) (k := 22) (t := 0) (p := 17015) (pc' := 5) (by decide +kernel) h0 ?_
  refine i_bl (pc' := 6) [(.iconst 3, 1)] [some (.ref a0)] [.int 3, .int (m a0 22), .ref a0] (by decide +kernel) rfl ?_
  refine i_ic (c := .ne) (off := 7) (t := 13) (pc' := 9) (p := ¬ (m a0 22) = 3) (by decide +kernel) rfl ?_ ?_
  · refine i_bl (pc' := 14) [(.iconst 0, 1)] [some (.ref a0)] [.int 0, .ref a0] (by decide +kernel) rfl ?_
    exact t_300_14 hN (h0 := h0) (hs0 := h0)
  · refine i_bl (pc' := 10) [(.iconst 1, 1)] [some (.ref a0)] [.int 1, .ref a0] (by decide +kernel) rfl ?_
    refine i_go (t := 14) (off := 4) (by decide +kernel) ?_
    exact t_300_14 hN (h0 := h0) (hs0 := h0)

/-! 301 LanternChessModel.statement()V -/
noncomputable def d_301_131 (a0 : Nat) (m : Mm) : Option Mm := (d_300 a0 m).bind fun m9 => some m9
theorem t_301_131 {L nx : Nat} (hN : okn nx) {b z : Nat} {m : Mm} {a0 : Nat} (h0 : ok nx a0 11)   : Im (d_301_131 a0 m) (wV L nx) (ev_dn b z 301 131 [some (.ref a0)] [] (nx, mem L nx m)) := by
  unfold d_301_131
  refine i_bl (pc' := 132) [(.aload_n 0, 1)] [some (.ref a0)] [.ref a0] (by decide +kernel) rfl ?_
  refine i_cv (ci := 11) (t := 300) (na := 1) (ml := 1) (idx := 412) (pc' := 135) (st' := []) (en := [some (.ref a0)]) (av := []) (vo := fun _ => none) (mo := fun m => m) (s2 := fun _ => []) (by decide +kernel) (by decide +kernel) h0 ⟨rfl, rfl, rfl, rfl, rfl, rfl⟩ (fun _ => rfl) (t_300 hN (h0 := h0)) (fun m9 => ?_)
  exact i_rv (by decide +kernel) rfl

noncomputable def d_301 (a0 : Nat) (m : Mm) : Option Mm := (d_291 a0 1 m).bind fun v1 => if v1 = true then ((d_295 a0 m).bind fun m16 => d_301_131 a0 m16) else ((d_291 a0 2 m).bind fun v2 => if v2 = true then ((d_296 a0 2 5 1 5 m).bind fun m15 => d_301_131 a0 m15) else ((d_291 a0 3 m).bind fun v3 => if v3 = true then ((d_296 a0 3 6 0 9 m).bind fun m14 => d_301_131 a0 m14) else ((d_291 a0 4 m).bind fun v4 => if v4 = true then ((d_296 a0 4 7 1 9 m).bind fun m13 => d_301_131 a0 m13) else ((d_291 a0 5 m).bind fun v5 => if v5 = true then ((d_298 a0 0 m).bind fun m12 => d_301_131 a0 m12) else ((d_291 a0 6 m).bind fun v6 => if v6 = true then ((d_298 a0 1 m).bind fun m11 => d_301_131 a0 m11) else ((d_291 a0 7 m).bind fun v7 => if v7 = true then ((d_299 a0 m).bind fun m10 => d_301_131 a0 m10) else ((d_289 a0 false 1 m).bind fun m8 => d_301_131 a0 m8)))))))
theorem t_301 {L nx : Nat} (hN : okn nx) {b z : Nat} {m : Mm} {a0 : Nat} (h0 : ok nx a0 11)   : Im (d_301 a0 m) (wV L nx) (ev_dn b z 301 0 [some (.ref a0)] [] (nx, mem L nx m)) := by
  unfold d_301
  refine i_bl (pc' := 2) [(.aload_n 0, 1), (.iconst 1, 1)] [some (.ref a0)] [.int 1, .ref a0] (by decide +kernel) rfl ?_
  refine i_cv (ci := 11) (t := 291) (na := 2) (ml := 2) (idx := 396) (pc' := 5) (st' := []) (en := [some (.ref a0), some (.int 1)]) (av := [.int 1]) (vo := fun v => some (.int (bi v))) (mo := fun _ => m) (s2 := fun v => .int (bi v) :: []) (by decide +kernel) (by decide +kernel) h0 ⟨rfl, rfl, rfl, rfl, rfl, rfl⟩ (fun _ => rfl) (t_291 hN (h0 := h0)) (fun v1 => ?_)
  refine i_bz (off := 10) (t := 15) (pc' := 8) (by decide +kernel) ?_ ?_
  · refine i_bl (pc' := 9) [(.aload_n 0, 1)] [some (.ref a0)] [.ref a0] (by decide +kernel) rfl ?_
    refine i_cv (ci := 11) (t := 295) (na := 1) (ml := 1) (idx := 399) (pc' := 12) (st' := []) (en := [some (.ref a0)]) (av := []) (vo := fun _ => none) (mo := fun m => m) (s2 := fun _ => []) (by decide +kernel) (by decide +kernel) h0 ⟨rfl, rfl, rfl, rfl, rfl, rfl⟩ (fun _ => rfl) (t_295 hN (h0 := h0)) (fun m16 => ?_)
    refine i_go (t := 131) (off := 119) (by decide +kernel) ?_
    exact t_301_131 hN (h0 := h0)
  · refine i_bl (pc' := 17) [(.aload_n 0, 1), (.iconst 2, 1)] [some (.ref a0)] [.int 2, .ref a0] (by decide +kernel) rfl ?_
    refine i_cv (ci := 11) (t := 291) (na := 2) (ml := 2) (idx := 396) (pc' := 20) (st' := []) (en := [some (.ref a0), some (.int 2)]) (av := [.int 2]) (vo := fun v => some (.int (bi v))) (mo := fun _ => m) (s2 := fun v => .int (bi v) :: []) (by decide +kernel) (by decide +kernel) h0 ⟨rfl, rfl, rfl, rfl, rfl, rfl⟩ (fun _ => rfl) (t_291 hN (h0 := h0)) (fun v2 => ?_)
    refine i_bz (off := 14) (t := 34) (pc' := 23) (by decide +kernel) ?_ ?_
    · refine i_bl (pc' := 28) [(.aload_n 0, 1), (.iconst 2, 1), (.iconst 5, 1), (.iconst 1, 1), (.iconst 5, 1)] [some (.ref a0)] [.int 5, .int 1, .int 5, .int 2, .ref a0] (by decide +kernel) rfl ?_
      refine i_cv (ci := 11) (t := 296) (na := 5) (ml := 5) (idx := 402) (pc' := 31) (st' := []) (en := [some (.ref a0), some (.int 2), some (.int 5), some (.int 1), some (.int 5)]) (av := [.int 2, .int 5, .int 1, .int 5]) (vo := fun _ => none) (mo := fun m => m) (s2 := fun _ => []) (by decide +kernel) (by decide +kernel) h0 ⟨rfl, rfl, rfl, rfl, rfl, rfl⟩ (fun _ => rfl) (t_296 hN (h0 := h0)) (fun m15 => ?_)
      refine i_go (t := 131) (off := 100) (by decide +kernel) ?_
      exact t_301_131 hN (h0 := h0)
    · refine i_bl (pc' := 36) [(.aload_n 0, 1), (.iconst 3, 1)] [some (.ref a0)] [.int 3, .ref a0] (by decide +kernel) rfl ?_
      refine i_cv (ci := 11) (t := 291) (na := 2) (ml := 2) (idx := 396) (pc' := 39) (st' := []) (en := [some (.ref a0), some (.int 3)]) (av := [.int 3]) (vo := fun v => some (.int (bi v))) (mo := fun _ => m) (s2 := fun v => .int (bi v) :: []) (by decide +kernel) (by decide +kernel) h0 ⟨rfl, rfl, rfl, rfl, rfl, rfl⟩ (fun _ => rfl) (t_291 hN (h0 := h0)) (fun v3 => ?_)
      refine i_bz (off := 16) (t := 55) (pc' := 42) (by decide +kernel) ?_ ?_
      · refine i_bl (pc' := 49) [(.aload_n 0, 1), (.iconst 3, 1), (.bipush (6), 2), (.iconst 0, 1), (.bipush (9), 2)] [some (.ref a0)] [.int 9, .int 0, .int 6, .int 3, .ref a0] (by decide +kernel) rfl ?_
        refine i_cv (ci := 11) (t := 296) (na := 5) (ml := 5) (idx := 402) (pc' := 52) (st' := []) (en := [some (.ref a0), some (.int 3), some (.int 6), some (.int 0), some (.int 9)]) (av := [.int 3, .int 6, .int 0, .int 9]) (vo := fun _ => none) (mo := fun m => m) (s2 := fun _ => []) (by decide +kernel) (by decide +kernel) h0 ⟨rfl, rfl, rfl, rfl, rfl, rfl⟩ (fun _ => rfl) (t_296 hN (h0 := h0)) (fun m14 => ?_)
        refine i_go (t := 131) (off := 79) (by decide +kernel) ?_
        exact t_301_131 hN (h0 := h0)
      · refine i_bl (pc' := 57) [(.aload_n 0, 1), (.iconst 4, 1)] [some (.ref a0)] [.int 4, .ref a0] (by decide +kernel) rfl ?_
        refine i_cv (ci := 11) (t := 291) (na := 2) (ml := 2) (idx := 396) (pc' := 60) (st' := []) (en := [some (.ref a0), some (.int 4)]) (av := [.int 4]) (vo := fun v => some (.int (bi v))) (mo := fun _ => m) (s2 := fun v => .int (bi v) :: []) (by decide +kernel) (by decide +kernel) h0 ⟨rfl, rfl, rfl, rfl, rfl, rfl⟩ (fun _ => rfl) (t_291 hN (h0 := h0)) (fun v4 => ?_)
        refine i_bz (off := 16) (t := 76) (pc' := 63) (by decide +kernel) ?_ ?_
        · refine i_bl (pc' := 70) [(.aload_n 0, 1), (.iconst 4, 1), (.bipush (7), 2), (.iconst 1, 1), (.bipush (9), 2)] [some (.ref a0)] [.int 9, .int 1, .int 7, .int 4, .ref a0] (by decide +kernel) rfl ?_
          refine i_cv (ci := 11) (t := 296) (na := 5) (ml := 5) (idx := 402) (pc' := 73) (st' := []) (en := [some (.ref a0), some (.int 4), some (.int 7), some (.int 1), some (.int 9)]) (av := [.int 4, .int 7, .int 1, .int 9]) (vo := fun _ => none) (mo := fun m => m) (s2 := fun _ => []) (by decide +kernel) (by decide +kernel) h0 ⟨rfl, rfl, rfl, rfl, rfl, rfl⟩ (fun _ => rfl) (t_296 hN (h0 := h0)) (fun m13 => ?_)
          refine i_go (t := 131) (off := 58) (by decide +kernel) ?_
          exact t_301_131 hN (h0 := h0)
        · refine i_bl (pc' := 78) [(.aload_n 0, 1), (.iconst 5, 1)] [some (.ref a0)] [.int 5, .ref a0] (by decide +kernel) rfl ?_
          refine i_cv (ci := 11) (t := 291) (na := 2) (ml := 2) (idx := 396) (pc' := 81) (st' := []) (en := [some (.ref a0), some (.int 5)]) (av := [.int 5]) (vo := fun v => some (.int (bi v))) (mo := fun _ => m) (s2 := fun v => .int (bi v) :: []) (by decide +kernel) (by decide +kernel) h0 ⟨rfl, rfl, rfl, rfl, rfl, rfl⟩ (fun _ => rfl) (t_291 hN (h0 := h0)) (fun v5 => ?_)
          refine i_bz (off := 11) (t := 92) (pc' := 84) (by decide +kernel) ?_ ?_
          · refine i_bl (pc' := 86) [(.aload_n 0, 1), (.iconst 0, 1)] [some (.ref a0)] [.int 0, .ref a0] (by decide +kernel) rfl ?_
            refine i_cv (ci := 11) (t := 298) (na := 2) (ml := 5) (idx := 406) (pc' := 89) (st' := []) (en := [some (.ref a0), some (.int 0), none, none, none]) (av := [.int 0]) (vo := fun _ => none) (mo := fun m => m) (s2 := fun _ => []) (by decide +kernel) (by decide +kernel) h0 ⟨rfl, rfl, rfl, rfl, rfl, rfl⟩ (fun _ => rfl) (t_298 hN (h0 := h0)) (fun m12 => ?_)
            refine i_go (t := 131) (off := 42) (by decide +kernel) ?_
            exact t_301_131 hN (h0 := h0)
          · refine i_bl (pc' := 95) [(.aload_n 0, 1), (.bipush (6), 2)] [some (.ref a0)] [.int 6, .ref a0] (by decide +kernel) rfl ?_
            refine i_cv (ci := 11) (t := 291) (na := 2) (ml := 2) (idx := 396) (pc' := 98) (st' := []) (en := [some (.ref a0), some (.int 6)]) (av := [.int 6]) (vo := fun v => some (.int (bi v))) (mo := fun _ => m) (s2 := fun v => .int (bi v) :: []) (by decide +kernel) (by decide +kernel) h0 ⟨rfl, rfl, rfl, rfl, rfl, rfl⟩ (fun _ => rfl) (t_291 hN (h0 := h0)) (fun v6 => ?_)
            refine i_bz (off := 11) (t := 109) (pc' := 101) (by decide +kernel) ?_ ?_
            · refine i_bl (pc' := 103) [(.aload_n 0, 1), (.iconst 1, 1)] [some (.ref a0)] [.int 1, .ref a0] (by decide +kernel) rfl ?_
              refine i_cv (ci := 11) (t := 298) (na := 2) (ml := 5) (idx := 406) (pc' := 106) (st' := []) (en := [some (.ref a0), some (.int 1), none, none, none]) (av := [.int 1]) (vo := fun _ => none) (mo := fun m => m) (s2 := fun _ => []) (by decide +kernel) (by decide +kernel) h0 ⟨rfl, rfl, rfl, rfl, rfl, rfl⟩ (fun _ => rfl) (t_298 hN (h0 := h0)) (fun m11 => ?_)
              refine i_go (t := 131) (off := 25) (by decide +kernel) ?_
              exact t_301_131 hN (h0 := h0)
            · refine i_bl (pc' := 112) [(.aload_n 0, 1), (.bipush (7), 2)] [some (.ref a0)] [.int 7, .ref a0] (by decide +kernel) rfl ?_
              refine i_cv (ci := 11) (t := 291) (na := 2) (ml := 2) (idx := 396) (pc' := 115) (st' := []) (en := [some (.ref a0), some (.int 7)]) (av := [.int 7]) (vo := fun v => some (.int (bi v))) (mo := fun _ => m) (s2 := fun v => .int (bi v) :: []) (by decide +kernel) (by decide +kernel) h0 ⟨rfl, rfl, rfl, rfl, rfl, rfl⟩ (fun _ => rfl) (t_291 hN (h0 := h0)) (fun v7 => ?_)
              refine i_bz (off := 10) (t := 125) (pc' := 118) (by decide +kernel) ?_ ?_
              · refine i_bl (pc' := 119) [(.aload_n 0, 1)] [some (.ref a0)] [.ref a0] (by decide +kernel) rfl ?_
                refine i_cv (ci := 11) (t := 299) (na := 1) (ml := 5) (idx := 409) (pc' := 122) (st' := []) (en := [some (.ref a0), none, none, none, none]) (av := []) (vo := fun _ => none) (mo := fun m => m) (s2 := fun _ => []) (by decide +kernel) (by decide +kernel) h0 ⟨rfl, rfl, rfl, rfl, rfl, rfl⟩ (fun _ => rfl) (t_299 hN (h0 := h0)) (fun m10 => ?_)
                refine i_go (t := 131) (off := 9) (by decide +kernel) ?_
                exact t_301_131 hN (h0 := h0)
              · refine i_bl (pc' := 128) [(.aload_n 0, 1), (.iconst 0, 1), (.iconst 1, 1)] [some (.ref a0)] [.int 1, .int 0, .ref a0] (by decide +kernel) rfl ?_
                refine i_cv (ci := 11) (t := 289) (na := 3) (ml := 3) (idx := 367) (pc' := 131) (st' := []) (en := [some (.ref a0), some (.int (bi false)), some (.int 1)]) (av := [.int (bi false), .int 1]) (vo := fun _ => none) (mo := fun m => m) (s2 := fun _ => []) (by decide +kernel) (by decide +kernel) h0 ⟨rfl, rfl, rfl, rfl, rfl, rfl⟩ (fun _ => rfl) (t_289 hN (h0 := h0)) (fun m8 => ?_)
                exact t_301_131 hN (h0 := h0)

/-! 302 LanternChessModel.loadGame()I -/
noncomputable def E_302_96 (L nx b z : Nat) (a0 : Nat) (d : Option Value) (s : (Mm)) : ev_Q := ev_dn b z 302 96 [some (.ref a0), d] [] (nx, mem L nx s)
noncomputable def d_302_150 (a0 : Nat) (m : Mm) : Option (Int32 × Mm) := (d_288 a0 m).bind fun v20 => if v20 = true then (wb (wr m a0 8 0) fun m21 => wb (wr m21 a0 9 (bi false)) fun m22 => some (m22 a0 28, m22)) else ((d_186 (sh_r a0 5) (sh_r a0 1) m).bind fun m23 => some ((-1), m23))
theorem t_302_150 {L nx : Nat} (hN : okn nx) {b z : Nat} {m : Mm} {a0 : Nat} (h0 : ok nx a0 11)  {o1 : Option Value} : Im (d_302_150 a0 m) (wI L nx) (ev_dn b z 302 150 [some (.ref a0), o1] [] (nx, mem L nx m)) := by
  unfold d_302_150
  refine i_bl (pc' := 151) [(.aload_n 0, 1)] [some (.ref a0), o1] [.ref a0] (by decide +kernel) rfl ?_
  refine i_cv (ci := 11) (t := 288) (na := 1) (ml := 1) (idx := 361) (pc' := 154) (st' := []) (en := [some (.ref a0)]) (av := []) (vo := fun v => some (.int (bi v))) (mo := fun _ => m) (s2 := fun v => .int (bi v) :: []) (by decide +kernel) (by decide +kernel) h0 ⟨rfl, rfl, rfl, rfl, rfl, rfl⟩ (fun _ => rfl) (t_288 hN (h0 := h0)) (fun v20 => ?_)
  refine i_bn (off := 16) (t := 170) (pc' := 157) (by decide +kernel) ?_ ?_
  · refine i_bl (pc' := 172) [(.aload_n 0, 1), (.iconst 0, 1)] [some (.ref a0), o1] [.int 0, .ref a0] (by decide +kernel) rfl ?_
    refine i_pf (x := 0) (idx := 74) (ci := 11) (k := 8) (p := 17001) (pc' := 175) (by decide +kernel) h0 (fun m21 => ?_)
    refine i_bl (pc' := 177) [(.aload_n 0, 1), (.iconst 0, 1)] [some (.ref a0), o1] [.int 0, .ref a0] (by decide +kernel) rfl ?_
    refine i_pz (B := false) (idx := 81) (ci := 11) (k := 9) (p := 17002) (pc' := 180) (by decide +kernel) h0 (fun m22 => ?_)
    refine i_bl (pc' := 181) [(.aload_n 0, 1)] [some (.ref a0), o1] [.ref a0] (by decide +kernel) rfl ?_
    refine i_gf (idx := 386) (ci := 11) (k := 28) (t := 0) (p := 17021) (pc' := 184) (by decide +kernel) h0 ?_
    exact i_ri (by decide +kernel) rfl
  · refine i_bl (pc' := 158) [(.aload_n 0, 1)] [some (.ref a0), o1] [.ref a0] (by decide +kernel) rfl ?_
    refine i_gr (idx := 22) (ci := 11) (k := 5) (t := 2) (p := 16238) (pc' := 161) (by decide +kernel) h0 ?_
    refine i_bl (pc' := 162) [(.aload_n 0, 1)] [some (.ref a0), o1] [.ref a0, .ref (sh_r a0 5)] (by decide +kernel) rfl ?_
    refine i_gr (idx := 7) (ci := 11) (k := 1) (t := 2) (p := 16234) (pc' := 165) (by decide +kernel) h0 ?_
    refine i_cs (t := 186) (na := 2) (ml := 3) (idx := 70) (pc' := 168) (st' := []) (en := [some (.ref (sh_r a0 5)), some (.ref (sh_r a0 1)), none]) (av := [.ref (sh_r a0 5), .ref (sh_r a0 1)]) (vo := fun _ => none) (mo := fun m => m) (s2 := fun _ => []) (by decide +kernel) ⟨rfl, rfl, rfl, rfl, rfl, rfl⟩ (fun _ => rfl) (t_186 hN (h0 := (o_11_5 hN h0)) (h1 := (o_11_1 hN h0))) (fun m23 => ?_)
    refine i_bl (pc' := 169) [(.iconst (-1), 1)] [some (.ref a0), o1] [.int (-1)] (by decide +kernel) rfl ?_
    exact i_ri (by decide +kernel) rfl

noncomputable def d_302_146 (a0 : Nat) (s0 : Nat) (s1 : Bool) (m : Mm) : Option (Int32 × Mm) := (d_289 s0 s1 5 m).bind fun m25 => d_302_150 a0 m25
theorem t_302_146 {L nx : Nat} (hN : okn nx) {b z : Nat} {m : Mm} {a0 : Nat} (h0 : ok nx a0 11) {s0 : Nat} (hs0 : ok nx s0 11) {s1 : Bool} {o1 : Option Value} : Im (d_302_146 a0 s0 s1 m) (wI L nx) (ev_dn b z 302 146 [some (.ref a0), o1] [.int (bi s1), .ref s0] (nx, mem L nx m)) := by
  unfold d_302_146
  refine i_bl (pc' := 147) [(.iconst 5, 1)] [some (.ref a0), o1] [.int 5, .int (bi s1), .ref s0] (by decide +kernel) rfl ?_
  refine i_cv (ci := 11) (t := 289) (na := 3) (ml := 3) (idx := 367) (pc' := 150) (st' := []) (en := [some (.ref s0), some (.int (bi s1)), some (.int 5)]) (av := [.int (bi s1), .int 5]) (vo := fun _ => none) (mo := fun m => m) (s2 := fun _ => []) (by decide +kernel) (by decide +kernel) hs0 ⟨rfl, rfl, rfl, rfl, rfl, rfl⟩ (fun _ => rfl) (t_289 hN (h0 := hs0)) (fun m25 => ?_)
  exact t_302_150 hN (h0 := h0)

noncomputable def d_302_117 (a0 : Nat) (m : Mm) : Option (Int32 × Mm) := (d_288 a0 m).bind fun v19 => if v19 = true then ((d_297 a0 0 m).bind fun v24 => if v24 = true then ((d_297 a0 1 m).bind fun v26 => if v26 = true then (d_302_146 a0 a0 true m) else (d_302_146 a0 a0 false m)) else (d_302_146 a0 a0 false m)) else (d_302_150 a0 m)
theorem t_302_117 {L nx : Nat} (hN : okn nx) {b z : Nat} {m : Mm} {a0 : Nat} (h0 : ok nx a0 11)  {o1 : Option Value} : Im (d_302_117 a0 m) (wI L nx) (ev_dn b z 302 117 [some (.ref a0), o1] [] (nx, mem L nx m)) := by
  unfold d_302_117
  refine i_bl (pc' := 118) [(.aload_n 0, 1)] [some (.ref a0), o1] [.ref a0] (by decide +kernel) rfl ?_
  refine i_cv (ci := 11) (t := 288) (na := 1) (ml := 1) (idx := 361) (pc' := 121) (st' := []) (en := [some (.ref a0)]) (av := []) (vo := fun v => some (.int (bi v))) (mo := fun _ => m) (s2 := fun v => .int (bi v) :: []) (by decide +kernel) (by decide +kernel) h0 ⟨rfl, rfl, rfl, rfl, rfl, rfl⟩ (fun _ => rfl) (t_288 hN (h0 := h0)) (fun v19 => ?_)
  refine i_bz (off := 29) (t := 150) (pc' := 124) (by decide +kernel) ?_ ?_
  · refine i_bl (pc' := 127) [(.aload_n 0, 1), (.aload_n 0, 1), (.iconst 0, 1)] [some (.ref a0), o1] [.int 0, .ref a0, .ref a0] (by decide +kernel) rfl ?_
    refine i_cv (ci := 11) (t := 297) (na := 2) (ml := 3) (idx := 393) (pc' := 130) (st' := [.ref a0]) (en := [some (.ref a0), some (.int 0), none]) (av := [.int 0]) (vo := fun v => some (.int (bi v))) (mo := fun _ => m) (s2 := fun v => .int (bi v) :: [.ref a0]) (by decide +kernel) (by decide +kernel) h0 ⟨rfl, rfl, rfl, rfl, rfl, rfl⟩ (fun _ => rfl) (t_297 hN (h0 := h0)) (fun v24 => ?_)
    refine i_bz (off := 15) (t := 145) (pc' := 133) (by decide +kernel) ?_ ?_
    · refine i_bl (pc' := 135) [(.aload_n 0, 1), (.iconst 1, 1)] [some (.ref a0), o1] [.int 1, .ref a0, .ref a0] (by decide +kernel) rfl ?_
      refine i_cv (ci := 11) (t := 297) (na := 2) (ml := 3) (idx := 393) (pc' := 138) (st' := [.ref a0]) (en := [some (.ref a0), some (.int 1), none]) (av := [.int 1]) (vo := fun v => some (.int (bi v))) (mo := fun _ => m) (s2 := fun v => .int (bi v) :: [.ref a0]) (by decide +kernel) (by decide +kernel) h0 ⟨rfl, rfl, rfl, rfl, rfl, rfl⟩ (fun _ => rfl) (t_297 hN (h0 := h0)) (fun v26 => ?_)
      refine i_bz (off := 7) (t := 145) (pc' := 141) (by decide +kernel) ?_ ?_
      · refine i_bl (pc' := 142) [(.iconst 1, 1)] [some (.ref a0), o1] [.int 1, .ref a0] (by decide +kernel) rfl ?_
        refine i_go (t := 146) (off := 4) (by decide +kernel) ?_
        exact t_302_146 hN (h0 := h0) (hs0 := h0)
      · refine i_bl (pc' := 146) [(.iconst 0, 1)] [some (.ref a0), o1] [.int 0, .ref a0] (by decide +kernel) rfl ?_
        exact t_302_146 hN (h0 := h0) (hs0 := h0)
    · refine i_bl (pc' := 146) [(.iconst 0, 1)] [some (.ref a0), o1] [.int 0, .ref a0] (by decide +kernel) rfl ?_
      exact t_302_146 hN (h0 := h0) (hs0 := h0)
  · exact t_302_150 hN (h0 := h0)

noncomputable def s_302_96 (a0 : Nat) (m : Mm) : Option ((Mm) ⊕ (Int32 × Mm)) := (d_288 a0 m).bind fun v18 => if v18 = true then (if (m a0 22) = 0 then ((d_302_117 a0 m).map Sum.inr) else ((d_301 a0 m).bind fun m27 => some (.inl (m27)))) else ((d_302_117 a0 m).map Sum.inr)
noncomputable def d_302_96 (a0 : Nat) (m : Mm) : Option (Int32 × Mm) := it (fun s => s_302_96 a0 s) (m)
theorem e_302_96 (a0 : Nat) (m : Mm) : d_302_96 a0 m = oi (s_302_96 a0 m) (fun s => d_302_96 a0 s) := it_eq _
theorem u_302_96 {L nx : Nat} (hN : okn nx) {b z : Nat} {m : Mm} {a0 : Nat} (h0 : ok nx a0 11)  {o1 : Option Value} : Im (s_302_96 a0 m) (kL (wI L nx) (E_302_96 L nx b z a0)) (ev_dn b z 302 96 [some (.ref a0), o1] [] (nx, mem L nx m)) := by
  unfold s_302_96
  refine i_bl (pc' := 97) [(.aload_n 0, 1)] [some (.ref a0), o1] [.ref a0] (by decide +kernel) rfl ?_
  refine i_cv (ci := 11) (t := 288) (na := 1) (ml := 1) (idx := 361) (pc' := 100) (st' := []) (en := [some (.ref a0)]) (av := []) (vo := fun v => some (.int (bi v))) (mo := fun _ => m) (s2 := fun v => .int (bi v) :: []) (by decide +kernel) (by decide +kernel) h0 ⟨rfl, rfl, rfl, rfl, rfl, rfl⟩ (fun _ => rfl) (t_288 hN (h0 := h0)) (fun v18 => ?_)
  refine i_bz (off := 17) (t := 117) (pc' := 103) (by decide +kernel) ?_ ?_
  · refine i_bl (pc' := 104) [(.aload_n 0, 1)] [some (.ref a0), o1] [.ref a0] (by decide +kernel) rfl ?_
    refine i_gf (idx := 329) (ci := 11) (k := 22) (t := 0) (p := 17015) (pc' := 107) (by decide +kernel) h0 ?_
    refine i_if (c := .eq) (off := 10) (t := 117) (pc' := 110) (p := (m a0 22) = 0) (by decide +kernel) rfl ?_ ?_
    · exact i_mr (t_302_117 hN (h0 := h0))
    · refine i_bl (pc' := 111) [(.aload_n 0, 1)] [some (.ref a0), o1] [.ref a0] (by decide +kernel) rfl ?_
      refine i_cv (ci := 11) (t := 301) (na := 1) (ml := 1) (idx := 415) (pc' := 114) (st' := []) (en := [some (.ref a0)]) (av := []) (vo := fun _ => none) (mo := fun m => m) (s2 := fun _ => []) (by decide +kernel) (by decide +kernel) h0 ⟨rfl, rfl, rfl, rfl, rfl, rfl⟩ (fun _ => rfl) (t_301 hN (h0 := h0)) (fun m27 => ?_)
      refine i_go (t := 96) (off := -18) (by decide +kernel) ?_
      exact i_co (o1) rfl
  · exact i_mr (t_302_117 hN (h0 := h0))

theorem t_302_96 {L nx : Nat} (hN : okn nx) {b z : Nat} {m : Mm} {a0 : Nat} (h0 : ok nx a0 11)  {o1 : Option Value} : Im (d_302_96 a0 m) (wI L nx) (ev_dn b z 302 96 [some (.ref a0), o1] [] (nx, mem L nx m)) := by
  exact i_it (f := fun s => s_302_96 a0 s) (E := E_302_96 L nx b z a0) (K := (wI L nx)) (fun d s => u_302_96 hN (h0 := h0)) (o1) (m)
noncomputable def d_302 (a0 : Nat) (m : Mm) : Option (Int32 × Mm) := wb (wr m a0 0 0) fun m1 => wb (wr m1 a0 25 0) fun m2 => wb (wr m2 a0 26 (-1)) fun m3 => (d_186 (sh_r a0 1) (sh_r a0 5) m3).bind fun m4 => wb (wr m4 a0 19 (m4 a0 18)) fun m5 => wb (wr m5 a0 18 0) fun m6 => wb (wr m6 a0 20 0) fun m7 => wb (wr m7 a0 27 0) fun m8 => wb (wr m8 a0 28 0) fun m9 => (d_286 a0 m9).bind fun m10 => (d_291 a0 0 m10).bind fun v11 => (d_289 a0 v11 1 m10).bind fun m12 => (d_290 a0 m12).bind fun m13 => (d_293 a0 4 8 m13).bind fun r14 => (d_293 a0 4 8 r14.2).bind fun r15 => (d_187 a0 r14.1 r15.1 r15.2).bind fun m16 => (d_300 a0 m16).bind fun m17 => d_302_96 a0 m17
theorem t_302 {L nx : Nat} (hN : okn nx) {b z : Nat} {m : Mm} {a0 : Nat} (h0 : ok nx a0 11)   : Im (d_302 a0 m) (wI L nx) (ev_dn b z 302 0 [some (.ref a0), none] [] (nx, mem L nx m)) := by
  unfold d_302
  refine i_bl (pc' := 2) [(.aload_n 0, 1), (.iconst 0, 1)] [some (.ref a0), none] [.int 0, .ref a0] (by decide +kernel) rfl ?_
  refine i_pf (x := 0) (idx := 67) (ci := 11) (k := 0) (p := 16233) (pc' := 5) (by decide +kernel) h0 (fun m1 => ?_)
  refine i_bl (pc' := 7) [(.aload_n 0, 1), (.iconst 0, 1)] [some (.ref a0), none] [.int 0, .ref a0] (by decide +kernel) rfl ?_
  refine i_pf (x := 0) (idx := 358) (ci := 11) (k := 25) (p := 17018) (pc' := 10) (by decide +kernel) h0 (fun m2 => ?_)
  refine i_bl (pc' := 12) [(.aload_n 0, 1), (.iconst (-1), 1)] [some (.ref a0), none] [.int (-1), .ref a0] (by decide +kernel) rfl ?_
  refine i_pf (x := (-1)) (idx := 56) (ci := 11) (k := 26) (p := 17019) (pc' := 15) (by decide +kernel) h0 (fun m3 => ?_)
  refine i_bl (pc' := 16) [(.aload_n 0, 1)] [some (.ref a0), none] [.ref a0] (by decide +kernel) rfl ?_
  refine i_gr (idx := 7) (ci := 11) (k := 1) (t := 2) (p := 16234) (pc' := 19) (by decide +kernel) h0 ?_
  refine i_bl (pc' := 20) [(.aload_n 0, 1)] [some (.ref a0), none] [.ref a0, .ref (sh_r a0 1)] (by decide +kernel) rfl ?_
  refine i_gr (idx := 22) (ci := 11) (k := 5) (t := 2) (p := 16238) (pc' := 23) (by decide +kernel) h0 ?_
  refine i_cs (t := 186) (na := 2) (ml := 3) (idx := 70) (pc' := 26) (st' := []) (en := [some (.ref (sh_r a0 1)), some (.ref (sh_r a0 5)), none]) (av := [.ref (sh_r a0 1), .ref (sh_r a0 5)]) (vo := fun _ => none) (mo := fun m => m) (s2 := fun _ => []) (by decide +kernel) ⟨rfl, rfl, rfl, rfl, rfl, rfl⟩ (fun _ => rfl) (t_186 hN (h0 := (o_11_1 hN h0)) (h1 := (o_11_5 hN h0))) (fun m4 => ?_)
  refine i_bl (pc' := 28) [(.aload_n 0, 1), (.aload_n 0, 1)] [some (.ref a0), none] [.ref a0, .ref a0] (by decide +kernel) rfl ?_
  refine i_gf (idx := 310) (ci := 11) (k := 18) (t := 0) (p := 17011) (pc' := 31) (by decide +kernel) h0 ?_
  refine i_pf (x := (m4 a0 18)) (idx := 313) (ci := 11) (k := 19) (p := 17012) (pc' := 34) (by decide +kernel) h0 (fun m5 => ?_)
  refine i_bl (pc' := 36) [(.aload_n 0, 1), (.iconst 0, 1)] [some (.ref a0), none] [.int 0, .ref a0] (by decide +kernel) rfl ?_
  refine i_pf (x := 0) (idx := 310) (ci := 11) (k := 18) (p := 17011) (pc' := 39) (by decide +kernel) h0 (fun m6 => ?_)
  refine i_bl (pc' := 41) [(.aload_n 0, 1), (.iconst 0, 1)] [some (.ref a0), none] [.int 0, .ref a0] (by decide +kernel) rfl ?_
  refine i_pf (x := 0) (idx := 323) (ci := 11) (k := 20) (p := 17013) (pc' := 44) (by decide +kernel) h0 (fun m7 => ?_)
  refine i_bl (pc' := 46) [(.aload_n 0, 1), (.iconst 0, 1)] [some (.ref a0), none] [.int 0, .ref a0] (by decide +kernel) rfl ?_
  refine i_pf (x := 0) (idx := 377) (ci := 11) (k := 27) (p := 17020) (pc' := 49) (by decide +kernel) h0 (fun m8 => ?_)
  refine i_bl (pc' := 51) [(.aload_n 0, 1), (.iconst 0, 1)] [some (.ref a0), none] [.int 0, .ref a0] (by decide +kernel) rfl ?_
  refine i_pf (x := 0) (idx := 386) (ci := 11) (k := 28) (p := 17021) (pc' := 54) (by decide +kernel) h0 (fun m9 => ?_)
  refine i_bl (pc' := 55) [(.aload_n 0, 1)] [some (.ref a0), none] [.ref a0] (by decide +kernel) rfl ?_
  refine i_cv (ci := 11) (t := 286) (na := 1) (ml := 2) (idx := 364) (pc' := 58) (st' := []) (en := [some (.ref a0), none]) (av := []) (vo := fun _ => none) (mo := fun m => m) (s2 := fun _ => []) (by decide +kernel) (by decide +kernel) h0 ⟨rfl, rfl, rfl, rfl, rfl, rfl⟩ (fun _ => rfl) (t_286 hN (h0 := h0)) (fun m10 => ?_)
  refine i_bl (pc' := 61) [(.aload_n 0, 1), (.aload_n 0, 1), (.iconst 0, 1)] [some (.ref a0), none] [.int 0, .ref a0, .ref a0] (by decide +kernel) rfl ?_
  refine i_cv (ci := 11) (t := 291) (na := 2) (ml := 2) (idx := 396) (pc' := 64) (st' := [.ref a0]) (en := [some (.ref a0), some (.int 0)]) (av := [.int 0]) (vo := fun v => some (.int (bi v))) (mo := fun _ => m10) (s2 := fun v => .int (bi v) :: [.ref a0]) (by decide +kernel) (by decide +kernel) h0 ⟨rfl, rfl, rfl, rfl, rfl, rfl⟩ (fun _ => rfl) (t_291 hN (h0 := h0)) (fun v11 => ?_)
  refine i_bl (pc' := 65) [(.iconst 1, 1)] [some (.ref a0), none] [.int 1, .int (bi v11), .ref a0] (by decide +kernel) rfl ?_
  refine i_cv (ci := 11) (t := 289) (na := 3) (ml := 3) (idx := 367) (pc' := 68) (st' := []) (en := [some (.ref a0), some (.int (bi v11)), some (.int 1)]) (av := [.int (bi v11), .int 1]) (vo := fun _ => none) (mo := fun m => m) (s2 := fun _ => []) (by decide +kernel) (by decide +kernel) h0 ⟨rfl, rfl, rfl, rfl, rfl, rfl⟩ (fun _ => rfl) (t_289 hN (h0 := h0)) (fun m12 => ?_)
  refine i_bl (pc' := 69) [(.aload_n 0, 1)] [some (.ref a0), none] [.ref a0] (by decide +kernel) rfl ?_
  refine i_cv (ci := 11) (t := 290) (na := 1) (ml := 1) (idx := 374) (pc' := 72) (st' := []) (en := [some (.ref a0)]) (av := []) (vo := fun _ => none) (mo := fun m => m) (s2 := fun _ => []) (by decide +kernel) (by decide +kernel) h0 ⟨rfl, rfl, rfl, rfl, rfl, rfl⟩ (fun _ => rfl) (t_290 hN (h0 := h0)) (fun m13 => ?_)
  refine i_bl (pc' := 76) [(.aload_n 0, 1), (.iconst 4, 1), (.bipush (8), 2)] [some (.ref a0), none] [.int 8, .int 4, .ref a0] (by decide +kernel) rfl ?_
  refine i_cv (ci := 11) (t := 293) (na := 3) (ml := 4) (idx := 383) (pc' := 79) (st' := []) (en := [some (.ref a0), some (.int 4), some (.int 8), none]) (av := [.int 4, .int 8]) (vo := fun v => some (.int v.1)) (mo := fun v => v.2) (s2 := fun v => .int v.1 :: []) (by decide +kernel) (by decide +kernel) h0 ⟨rfl, rfl, rfl, rfl, rfl, rfl⟩ (fun _ => rfl) (t_293 hN (h0 := h0)) (fun r14 => ?_)
  refine i_bl (pc' := 86) [(.istore_n 1, 1), (.aload_n 0, 1), (.iload_n 1, 1), (.aload_n 0, 1), (.iconst 4, 1), (.bipush (8), 2)] [some (.ref a0), some (.int r14.1)] [.int 8, .int 4, .ref a0, .int r14.1, .ref a0] (by decide +kernel) rfl ?_
  refine i_cv (ci := 11) (t := 293) (na := 3) (ml := 4) (idx := 383) (pc' := 89) (st' := [.int r14.1, .ref a0]) (en := [some (.ref a0), some (.int 4), some (.int 8), none]) (av := [.int 4, .int 8]) (vo := fun v => some (.int v.1)) (mo := fun v => v.2) (s2 := fun v => .int v.1 :: [.int r14.1, .ref a0]) (by decide +kernel) (by decide +kernel) h0 ⟨rfl, rfl, rfl, rfl, rfl, rfl⟩ (fun _ => rfl) (t_293 hN (h0 := h0)) (fun r15 => ?_)
  refine i_cv (ci := 11) (t := 187) (na := 3) (ml := 4) (idx := 63) (pc' := 92) (st' := []) (en := [some (.ref a0), some (.int r14.1), some (.int r15.1), none]) (av := [.int r14.1, .int r15.1]) (vo := fun _ => none) (mo := fun m => m) (s2 := fun _ => []) (by decide +kernel) (by decide +kernel) h0 ⟨rfl, rfl, rfl, rfl, rfl, rfl⟩ (fun _ => rfl) (t_187 hN (h0 := h0)) (fun m16 => ?_)
  refine i_bl (pc' := 93) [(.aload_n 0, 1)] [some (.ref a0), some (.int r14.1)] [.ref a0] (by decide +kernel) rfl ?_
  refine i_cv (ci := 11) (t := 300) (na := 1) (ml := 1) (idx := 412) (pc' := 96) (st' := []) (en := [some (.ref a0)]) (av := []) (vo := fun _ => none) (mo := fun m => m) (s2 := fun _ => []) (by decide +kernel) (by decide +kernel) h0 ⟨rfl, rfl, rfl, rfl, rfl, rfl⟩ (fun _ => rfl) (t_300 hN (h0 := h0)) (fun m17 => ?_)
  exact t_302_96 hN (h0 := h0)

/-! 303 LanternChessModel.errorCode()I -/
noncomputable def d_303 (a0 : Nat) (m : Mm) : Option (Int32 × Mm) := wb (wr m a0 0 0) fun m1 => some (m1 a0 25, m1)
theorem t_303 {L nx : Nat} (hN : okn nx) {b z : Nat} {m : Mm} {a0 : Nat} (h0 : ok nx a0 11)   : Im (d_303 a0 m) (wI L nx) (ev_dn b z 303 0 [some (.ref a0)] [] (nx, mem L nx m)) := by
  unfold d_303
  refine i_bl (pc' := 2) [(.aload_n 0, 1), (.iconst 0, 1)] [some (.ref a0)] [.int 0, .ref a0] (by decide +kernel) rfl ?_
  refine i_pf (x := 0) (idx := 67) (ci := 11) (k := 0) (p := 16233) (pc' := 5) (by decide +kernel) h0 (fun m1 => ?_)
  refine i_bl (pc' := 6) [(.aload_n 0, 1)] [some (.ref a0)] [.ref a0] (by decide +kernel) rfl ?_
  refine i_gf (idx := 358) (ci := 11) (k := 25) (t := 0) (p := 17018) (pc' := 9) (by decide +kernel) h0 ?_
  exact i_ri (by decide +kernel) rfl

/-! 304 LanternChessModel.errorOffset()I -/
noncomputable def d_304 (a0 : Nat) (m : Mm) : Option (Int32 × Mm) := wb (wr m a0 0 0) fun m1 => some (m1 a0 26, m1)
theorem t_304 {L nx : Nat} (hN : okn nx) {b z : Nat} {m : Mm} {a0 : Nat} (h0 : ok nx a0 11)   : Im (d_304 a0 m) (wI L nx) (ev_dn b z 304 0 [some (.ref a0)] [] (nx, mem L nx m)) := by
  unfold d_304
  refine i_bl (pc' := 2) [(.aload_n 0, 1), (.iconst 0, 1)] [some (.ref a0)] [.int 0, .ref a0] (by decide +kernel) rfl ?_
  refine i_pf (x := 0) (idx := 67) (ci := 11) (k := 0) (p := 16233) (pc' := 5) (by decide +kernel) h0 (fun m1 => ?_)
  refine i_bl (pc' := 6) [(.aload_n 0, 1)] [some (.ref a0)] [.ref a0] (by decide +kernel) rfl ?_
  refine i_gf (idx := 56) (ci := 11) (k := 26) (t := 0) (p := 17019) (pc' := 9) (by decide +kernel) h0 ?_
  exact i_ri (by decide +kernel) rfl

/-! 305 LanternChessModel.says(I)V -/
noncomputable def d_305 (a0 : Nat) (x1 : Int32) (m : Mm) : Option Mm := if ev_in (m a0 30) (sh_n (sh_r a0 29)) = true then (wb (wr m (sh_r a0 29) (ix (m a0 30)) x1.toInt8.toInt32.toInt8.toInt32) fun m1 => wb (wr m1 a0 30 ((m1 a0 30) + 1)) fun m2 => some m2) else none
theorem t_305 {L nx : Nat} (hN : okn nx) {b z : Nat} {m : Mm} {a0 : Nat} (h0 : ok nx a0 11) {x1 : Int32}  : Im (d_305 a0 x1 m) (wV L nx) (ev_dn b z 305 0 [some (.ref a0), some (.int x1)] [] (nx, mem L nx m)) := by
  unfold d_305
  refine i_bl (pc' := 1) [(.aload_n 0, 1)] [some (.ref a0), some (.int x1)] [.ref a0] (by decide +kernel) rfl ?_
  refine i_gr (idx := 60) (ci := 11) (k := 29) (t := 2) (p := 17022) (pc' := 4) (by decide +kernel) h0 ?_
  refine i_bl (pc' := 5) [(.aload_n 0, 1)] [some (.ref a0), some (.int x1)] [.ref a0, .ref (sh_r a0 29)] (by decide +kernel) rfl ?_
  refine i_gf (idx := 418) (ci := 11) (k := 30) (t := 0) (p := 17023) (pc' := 8) (by decide +kernel) h0 ?_
  refine i_bl (pc' := 10) [(.iload_n 1, 1), (.i2b, 1)] [some (.ref a0), some (.int x1)] [.int x1.toInt8.toInt32, .int (m a0 30), .ref (sh_r a0 29)] (by decide +kernel) rfl ?_
  refine i_bs (y := x1.toInt8.toInt32) (pc' := 11) (by decide +kernel) (o_11_29 hN h0) (fun m1 => ?_)
  refine i_bl (pc' := 13) [(.aload_n 0, 1), (.aload_n 0, 1)] [some (.ref a0), some (.int x1)] [.ref a0, .ref a0] (by decide +kernel) rfl ?_
  refine i_gf (idx := 418) (ci := 11) (k := 30) (t := 0) (p := 17023) (pc' := 16) (by decide +kernel) h0 ?_
  refine i_bl (pc' := 18) [(.iconst 1, 1), (.iadd, 1)] [some (.ref a0), some (.int x1)] [.int ((m1 a0 30) + 1), .ref a0] (by decide +kernel) rfl ?_
  refine i_pf (x := ((m1 a0 30) + 1)) (idx := 418) (ci := 11) (k := 30) (p := 17023) (pc' := 21) (by decide +kernel) h0 (fun m2 => ?_)
  exact i_rv (by decide +kernel) rfl

/-! 306 LanternChessModel.printRow(II)I -/
noncomputable def E_306_43 (L nx b z : Nat) (a0 : Nat) (x1 : Int32) (x2 : Int32) (d : Unit) (s : (Int32 × Mm)) : ev_Q := ev_dn b z 306 43 [some (.ref a0), some (.int x1), some (.int x2), some (.int s.1)] [] (nx, mem L nx s.2)
noncomputable def d_306_85 (a0 : Nat) (m : Mm) : Option (Int32 × Mm) := some (m a0 30, m)
theorem t_306_85 {L nx : Nat} (hN : okn nx) {b z : Nat} {m : Mm} {a0 : Nat} (h0 : ok nx a0 11)  {o1 : Option Value} {o2 : Option Value} {o3 : Option Value} : Im (d_306_85 a0 m) (wI L nx) (ev_dn b z 306 85 [some (.ref a0), o1, o2, o3] [] (nx, mem L nx m)) := by
  unfold d_306_85
  refine i_bl (pc' := 86) [(.aload_n 0, 1)] [some (.ref a0), o1, o2, o3] [.ref a0] (by decide +kernel) rfl ?_
  refine i_gf (idx := 418) (ci := 11) (k := 30) (t := 0) (p := 17023) (pc' := 89) (by decide +kernel) h0 ?_
  exact i_ri (by decide +kernel) rfl

noncomputable def s_306_43 (a0 : Nat) (x1 : Int32) (x2 : Int32) (x3 : Int32) (m : Mm) : Option ((Int32 × Mm) ⊕ (Int32 × Mm)) := if ev_in 0 (sh_n (sh_r a0 1)) = true then (if (m (sh_r a0 1) (ix 0)) ≤ x3 then ((d_306_85 a0 m).map Sum.inr) else ((d_194 x1).bind fun v6 => (d_214 a0 x3 x2 m).bind fun v7 => if ev_in (v6 + v7) (sh_n (sh_r a0 1)) = true then (if ev_in (m (sh_r a0 1) (ix (v6 + v7))) (sh_n 19) = true then ((d_305 a0 (m 19 (ix (m (sh_r a0 1) (ix (v6 + v7))))) m).bind fun m8 => wb (x3 + 1) fun y9 => some (.inl (y9, m8))) else none) else none)) else none
noncomputable def d_306_43 (a0 : Nat) (x1 : Int32) (x2 : Int32) (x3 : Int32) (m : Mm) : Option (Int32 × Mm) := it (fun s => s_306_43 a0 x1 x2 s.1 s.2) (x3, m)
theorem e_306_43 (a0 : Nat) (x1 : Int32) (x2 : Int32) (x3 : Int32) (m : Mm) : d_306_43 a0 x1 x2 x3 m = oi (s_306_43 a0 x1 x2 x3 m) (fun s => d_306_43 a0 x1 x2 s.1 s.2) := it_eq _
theorem u_306_43 {L nx : Nat} (hN : okn nx) {b z : Nat} {m : Mm} {a0 : Nat} (h0 : ok nx a0 11) {x1 : Int32} {x2 : Int32} {x3 : Int32}  : Im (s_306_43 a0 x1 x2 x3 m) (kL (wI L nx) (E_306_43 L nx b z a0 x1 x2)) (ev_dn b z 306 43 [some (.ref a0), some (.int x1), some (.int x2), some (.int x3)] [] (nx, mem L nx m)) := by
  unfold s_306_43
  refine i_bl (pc' := 45) [(.iload_n 3, 1), (.aload_n 0, 1)] [some (.ref a0), some (.int x1), some (.int x2), some (.int x3)] [.ref a0, .int x3] (by decide +kernel) rfl ?_
  refine i_gr (idx := 7) (ci := 11) (k := 1) (t := 2) (p := 16234) (pc' := 48) (by decide +kernel) h0 ?_
  refine i_bl (pc' := 49) [(.iconst 0, 1)] [some (.ref a0), some (.int x1), some (.int x2), some (.int x3)] [.int 0, .ref (sh_r a0 1), .int x3] (by decide +kernel) rfl ?_
  refine i_al (pc' := 50) (by decide +kernel) (o_11_1 hN h0) ?_
  refine i_ic (c := .ge) (off := 35) (t := 85) (pc' := 53) (p := (m (sh_r a0 1) (ix 0)) ≤ x3) (by decide +kernel) rfl ?_ ?_
  · exact i_mr (t_306_85 hN (h0 := h0))
  · refine i_bl (pc' := 54) [(.aload_n 0, 1)] [some (.ref a0), some (.int x1), some (.int x2), some (.int x3)] [.ref a0] (by decide +kernel) rfl ?_
    refine i_ltw (idx := 421) (p := 19113) (w := 19) (tx := ".KQRBNPkqrbnp") (pc' := 57) (by decide +kernel) ?_
    refine i_bl (pc' := 58) [(.aload_n 0, 1)] [some (.ref a0), some (.int x1), some (.int x2), some (.int x3)] [.ref a0, .ref 19, .ref a0] (by decide +kernel) rfl ?_
    refine i_gr (idx := 7) (ci := 11) (k := 1) (t := 2) (p := 16234) (pc' := 61) (by decide +kernel) h0 ?_
    refine i_bl (pc' := 62) [(.iload_n 1, 1)] [some (.ref a0), some (.int x1), some (.int x2), some (.int x3)] [.int x1, .ref (sh_r a0 1), .ref 19, .ref a0] (by decide +kernel) rfl ?_
    refine i_cs (t := 194) (na := 1) (ml := 1) (idx := 165) (pc' := 65) (st' := [.ref (sh_r a0 1), .ref 19, .ref a0]) (en := [some (.int x1)]) (av := [.int x1]) (vo := fun v => some (.int v)) (mo := fun _ => m) (s2 := fun v => .int v :: [.ref (sh_r a0 1), .ref 19, .ref a0]) (by decide +kernel) ⟨rfl, rfl, rfl, rfl, rfl, rfl⟩ (fun _ => rfl) (t_194 hN ) (fun v6 => ?_)
    refine i_bl (pc' := 68) [(.aload_n 0, 1), (.iload_n 3, 1), (.iload_n 2, 1)] [some (.ref a0), some (.int x1), some (.int x2), some (.int x3)] [.int x2, .int x3, .ref a0, .int v6, .ref (sh_r a0 1), .ref 19, .ref a0] (by decide +kernel) rfl ?_
    refine i_cv (ci := 11) (t := 214) (na := 3) (ml := 3) (idx := 168) (pc' := 71) (st' := [.int v6, .ref (sh_r a0 1), .ref 19, .ref a0]) (en := [some (.ref a0), some (.int x3), some (.int x2)]) (av := [.int x3, .int x2]) (vo := fun v => some (.int v)) (mo := fun _ => m) (s2 := fun v => .int v :: [.int v6, .ref (sh_r a0 1), .ref 19, .ref a0]) (by decide +kernel) (by decide +kernel) h0 ⟨rfl, rfl, rfl, rfl, rfl, rfl⟩ (fun _ => rfl) (t_214 hN (h0 := h0)) (fun v7 => ?_)
    refine i_bl (pc' := 72) [(.iadd, 1)] [some (.ref a0), some (.int x1), some (.int x2), some (.int x3)] [.int (v6 + v7), .ref (sh_r a0 1), .ref 19, .ref a0] (by decide +kernel) rfl ?_
    refine i_al (pc' := 73) (by decide +kernel) (o_11_1 hN h0) ?_
    refine i_sx (idx := 354) (pc' := 76) (by decide +kernel) rfl (o_lo hN (by decide +kernel)) ?_
    refine i_cv (ci := 11) (t := 305) (na := 2) (ml := 2) (idx := 423) (pc' := 79) (st' := []) (en := [some (.ref a0), some (.int (m 19 (ix (m (sh_r a0 1) (ix (v6 + v7))))))]) (av := [.int (m 19 (ix (m (sh_r a0 1) (ix (v6 + v7)))))]) (vo := fun _ => none) (mo := fun m => m) (s2 := fun _ => []) (by decide +kernel) (by decide +kernel) h0 ⟨rfl, rfl, rfl, rfl, rfl, rfl⟩ (fun _ => rfl) (t_305 hN (h0 := h0)) (fun m8 => ?_)
    refine i_bl (pc' := 82) [(.iinc 3 (1), 3)] [some (.ref a0), some (.int x1), some (.int x2), some (.int (x3 + 1))] [] (by decide +kernel) rfl ?_
    refine i_wb (fun y9 => ev_dn b z 306 82 [some (.ref a0), some (.int x1), some (.int x2), some (.int y9)] [] (nx, mem L nx m8)) (fun y9 => ?_)
    refine i_go (t := 43) (off := -39) (by decide +kernel) ?_
    exact i_co () rfl

theorem t_306_43 {L nx : Nat} (hN : okn nx) {b z : Nat} {m : Mm} {a0 : Nat} (h0 : ok nx a0 11) {x1 : Int32} {x2 : Int32} {x3 : Int32}  : Im (d_306_43 a0 x1 x2 x3 m) (wI L nx) (ev_dn b z 306 43 [some (.ref a0), some (.int x1), some (.int x2), some (.int x3)] [] (nx, mem L nx m)) := by
  exact i_it (f := fun s => s_306_43 a0 x1 x2 s.1 s.2) (E := E_306_43 L nx b z a0 x1 x2) (K := (wI L nx)) (fun d s => u_306_43 hN (h0 := h0)) () (x3, m)
noncomputable def d_306 (a0 : Nat) (x1 : Int32) (x2 : Int32) (m : Mm) : Option (Int32 × Mm) := (d_212 x1).bind fun v1 => (d_183 a0 v1 m).bind fun r2 => if r2.1 = true then (if ev_in 1 (sh_n (sh_r a0 1)) = true then ((d_185 x2 0 ((r2.2 (sh_r a0 1) (ix 1)) - 1)).bind fun v3 => (d_184 a0 v3 2 r2.2).bind fun r4 => if r4.1 = true then (wb (wr r4.2 a0 30 0) fun m5 => d_306_43 a0 x1 x2 0 m5) else (some (0, r4.2))) else none) else (some (0, r2.2))
theorem t_306 {L nx : Nat} (hN : okn nx) {b z : Nat} {m : Mm} {a0 : Nat} (h0 : ok nx a0 11) {x1 : Int32} {x2 : Int32}  : Im (d_306 a0 x1 x2 m) (wI L nx) (ev_dn b z 306 0 [some (.ref a0), some (.int x1), some (.int x2), none] [] (nx, mem L nx m)) := by
  unfold d_306
  refine i_bl (pc' := 2) [(.aload_n 0, 1), (.iload_n 1, 1)] [some (.ref a0), some (.int x1), some (.int x2), none] [.int x1, .ref a0] (by decide +kernel) rfl ?_
  refine i_cs (t := 212) (na := 1) (ml := 1) (idx := 154) (pc' := 5) (st' := [.ref a0]) (en := [some (.int x1)]) (av := [.int x1]) (vo := fun v => some (.int (bi v))) (mo := fun _ => m) (s2 := fun v => .int (bi v) :: [.ref a0]) (by decide +kernel) ⟨rfl, rfl, rfl, rfl, rfl, rfl⟩ (fun _ => rfl) (t_212 hN ) (fun v1 => ?_)
  refine i_cv (ci := 11) (t := 183) (na := 2) (ml := 2) (idx := 77) (pc' := 8) (st' := []) (en := [some (.ref a0), some (.int (bi v1))]) (av := [.int (bi v1)]) (vo := fun v => some (.int (bi v.1))) (mo := fun v => v.2) (s2 := fun v => .int (bi v.1) :: []) (by decide +kernel) (by decide +kernel) h0 ⟨rfl, rfl, rfl, rfl, rfl, rfl⟩ (fun _ => rfl) (t_183 hN (h0 := h0)) (fun r2 => ?_)
  refine i_bz (off := 26) (t := 34) (pc' := 11) (by decide +kernel) ?_ ?_
  · refine i_bl (pc' := 16) [(.aload_n 0, 1), (.iload_n 2, 1), (.i2l, 1), (.lconst 0, 1), (.aload_n 0, 1)] [some (.ref a0), some (.int x1), some (.int x2), none] [.ref a0, .long (0 : Int32).toInt64, .long x2.toInt64, .ref a0] (by decide +kernel) rfl ?_
    refine i_gr (idx := 7) (ci := 11) (k := 1) (t := 2) (p := 16234) (pc' := 19) (by decide +kernel) h0 ?_
    refine i_bl (pc' := 20) [(.iconst 1, 1)] [some (.ref a0), some (.int x1), some (.int x2), none] [.int 1, .ref (sh_r a0 1), .long (0 : Int32).toInt64, .long x2.toInt64, .ref a0] (by decide +kernel) rfl ?_
    refine i_al (pc' := 21) (by decide +kernel) (o_11_1 hN h0) ?_
    refine i_bl (pc' := 24) [(.iconst 1, 1), (.isub, 1), (.i2l, 1)] [some (.ref a0), some (.int x1), some (.int x2), none] [.long ((r2.2 (sh_r a0 1) (ix 1)) - 1).toInt64, .long (0 : Int32).toInt64, .long x2.toInt64, .ref a0] (by decide +kernel) rfl ?_
    refine i_cs (t := 185) (na := 3) (ml := 6) (idx := 148) (pc' := 27) (st' := [.ref a0]) (en := [some (.long x2.toInt64), none, some (.long (0 : Int32).toInt64), none, some (.long ((r2.2 (sh_r a0 1) (ix 1)) - 1).toInt64), none]) (av := [.long x2.toInt64, .long (0 : Int32).toInt64, .long ((r2.2 (sh_r a0 1) (ix 1)) - 1).toInt64]) (vo := fun v => some (.int (bi v))) (mo := fun _ => r2.2) (s2 := fun v => .int (bi v) :: [.ref a0]) (by decide +kernel) ⟨rfl, rfl, rfl, rfl, rfl, rfl⟩ (fun _ => rfl) (t_185 hN ) (fun v3 => ?_)
    refine i_bl (pc' := 28) [(.iconst 2, 1)] [some (.ref a0), some (.int x1), some (.int x2), none] [.int 2, .int (bi v3), .ref a0] (by decide +kernel) rfl ?_
    refine i_cv (ci := 11) (t := 184) (na := 3) (ml := 3) (idx := 161) (pc' := 31) (st' := []) (en := [some (.ref a0), some (.int (bi v3)), some (.int 2)]) (av := [.int (bi v3), .int 2]) (vo := fun v => some (.int (bi v.1))) (mo := fun v => v.2) (s2 := fun v => .int (bi v.1) :: []) (by decide +kernel) (by decide +kernel) h0 ⟨rfl, rfl, rfl, rfl, rfl, rfl⟩ (fun _ => rfl) (t_184 hN (h0 := h0)) (fun r4 => ?_)
    refine i_bn (off := 5) (t := 36) (pc' := 34) (by decide +kernel) ?_ ?_
    · refine i_bl (pc' := 38) [(.aload_n 0, 1), (.iconst 0, 1)] [some (.ref a0), some (.int x1), some (.int x2), none] [.int 0, .ref a0] (by decide +kernel) rfl ?_
      refine i_pf (x := 0) (idx := 418) (ci := 11) (k := 30) (p := 17023) (pc' := 41) (by decide +kernel) h0 (fun m5 => ?_)
      refine i_bl (pc' := 43) [(.iconst 0, 1), (.istore_n 3, 1)] [some (.ref a0), some (.int x1), some (.int x2), some (.int 0)] [] (by decide +kernel) rfl ?_
      exact t_306_43 hN (h0 := h0)
    · refine i_bl (pc' := 35) [(.iconst 0, 1)] [some (.ref a0), some (.int x1), some (.int x2), none] [.int 0] (by decide +kernel) rfl ?_
      exact i_ri (by decide +kernel) rfl
  · refine i_bl (pc' := 35) [(.iconst 0, 1)] [some (.ref a0), some (.int x1), some (.int x2), none] [.int 0] (by decide +kernel) rfl ?_
    exact i_ri (by decide +kernel) rfl

/-! 307 LanternChessModel.printMessage(IIII)I -/
noncomputable def E_307_51 (L nx b z : Nat) (a0 : Nat) (d : Option Value × Option Value × Option Value × Option Value × Option Value) (s : (Int32 × Int32 × Mm)) : ev_Q := ev_dn b z 307 51 [some (.ref a0), d.1, d.2.1, d.2.2.1, d.2.2.2.1, some (.int s.1), some (.int s.2.1), d.2.2.2.2] [] (nx, mem L nx s.2.2)
noncomputable def d_307_138 (a0 : Nat) (m : Mm) : Option (Int32 × Mm) := some (m a0 30, m)
theorem t_307_138 {L nx : Nat} (hN : okn nx) {b z : Nat} {m : Mm} {a0 : Nat} (h0 : ok nx a0 11)  {o1 : Option Value} {o2 : Option Value} {o3 : Option Value} {o4 : Option Value} {o5 : Option Value} {o6 : Option Value} {o7 : Option Value} : Im (d_307_138 a0 m) (wI L nx) (ev_dn b z 307 138 [some (.ref a0), o1, o2, o3, o4, o5, o6, o7] [] (nx, mem L nx m)) := by
  unfold d_307_138
  refine i_bl (pc' := 139) [(.aload_n 0, 1)] [some (.ref a0), o1, o2, o3, o4, o5, o6, o7] [.ref a0] (by decide +kernel) rfl ?_
  refine i_gf (idx := 418) (ci := 11) (k := 30) (t := 0) (p := 17023) (pc' := 142) (by decide +kernel) h0 ?_
  exact i_ri (by decide +kernel) rfl

noncomputable def E_307_72 (L nx b z : Nat) (a0 : Nat) (x5 : Int32) (x6 : Int32) (d : Option Value × Option Value × Option Value × Option Value) (s : (Int32 × Mm)) : ev_Q := ev_dn b z 307 72 [some (.ref a0), d.1, d.2.1, d.2.2.1, d.2.2.2, some (.int x5), some (.int x6), some (.int s.1)] [] (nx, mem L nx s.2)
noncomputable def d_307_113 (a0 : Nat) (x5 : Int32) (x6 : Int32) (m : Mm) : Option ((Int32 × Int32 × Mm) ⊕ (Int32 × Mm)) := if ev_in x6 (sh_n (sh_r a0 15)) = true then (if ev_in 5 (sh_n (sh_r a0 1)) = true then (wb ((x5 + (m (sh_r a0 15) (ix x6))) + (m (sh_r a0 1) (ix 5))) fun y8 => wb (x6 + 1) fun y9 => some (.inl (y8, y9, m))) else none) else none
theorem t_307_113 {L nx : Nat} (hN : okn nx) {b z : Nat} {m : Mm} {a0 : Nat} (h0 : ok nx a0 11) {x5 : Int32} {x6 : Int32} {o1 : Option Value} {o2 : Option Value} {o3 : Option Value} {o4 : Option Value} {o7 : Option Value} : Im (d_307_113 a0 x5 x6 m) (kL (wI L nx) (E_307_51 L nx b z a0)) (ev_dn b z 307 113 [some (.ref a0), o1, o2, o3, o4, some (.int x5), some (.int x6), o7] [] (nx, mem L nx m)) := by
  unfold d_307_113
  refine i_bl (pc' := 116) [(.iload 5, 2), (.aload_n 0, 1)] [some (.ref a0), o1, o2, o3, o4, some (.int x5), some (.int x6), o7] [.ref a0, .int x5] (by decide +kernel) rfl ?_
  refine i_gr (idx := 46) (ci := 11) (k := 15) (t := 2) (p := 17008) (pc' := 119) (by decide +kernel) h0 ?_
  refine i_bl (pc' := 121) [(.iload 6, 2)] [some (.ref a0), o1, o2, o3, o4, some (.int x5), some (.int x6), o7] [.int x6, .ref (sh_r a0 15), .int x5] (by decide +kernel) rfl ?_
  refine i_al (pc' := 122) (by decide +kernel) (o_11_15 hN h0) ?_
  refine i_bl (pc' := 124) [(.iadd, 1), (.aload_n 0, 1)] [some (.ref a0), o1, o2, o3, o4, some (.int x5), some (.int x6), o7] [.ref a0, .int (x5 + (m (sh_r a0 15) (ix x6)))] (by decide +kernel) rfl ?_
  refine i_gr (idx := 7) (ci := 11) (k := 1) (t := 2) (p := 16234) (pc' := 127) (by decide +kernel) h0 ?_
  refine i_bl (pc' := 128) [(.iconst 5, 1)] [some (.ref a0), o1, o2, o3, o4, some (.int x5), some (.int x6), o7] [.int 5, .ref (sh_r a0 1), .int (x5 + (m (sh_r a0 15) (ix x6)))] (by decide +kernel) rfl ?_
  refine i_al (pc' := 129) (by decide +kernel) (o_11_1 hN h0) ?_
  refine i_bl (pc' := 132) [(.iadd, 1), (.istore 5, 2)] [some (.ref a0), o1, o2, o3, (ev_kl o4), some (.int ((x5 + (m (sh_r a0 15) (ix x6))) + (m (sh_r a0 1) (ix 5)))), some (.int x6), o7] [] (by decide +kernel) rfl ?_
  refine i_wb (fun y8 => ev_dn b z 307 132 [some (.ref a0), o1, o2, o3, (ev_kl o4), some (.int y8), some (.int x6), o7] [] (nx, mem L nx m)) (fun y8 => ?_)
  refine i_bl (pc' := 135) [(.iinc 6 (1), 3)] [some (.ref a0), o1, o2, o3, (ev_kl o4), some (.int y8), some (.int (x6 + 1)), o7] [] (by decide +kernel) rfl ?_
  refine i_wb (fun y9 => ev_dn b z 307 135 [some (.ref a0), o1, o2, o3, (ev_kl o4), some (.int y8), some (.int y9), o7] [] (nx, mem L nx m)) (fun y9 => ?_)
  refine i_go (t := 51) (off := -84) (by decide +kernel) ?_
  exact i_co (o1, o2, o3, (ev_kl o4), o7) rfl

noncomputable def d_307_104 (a0 : Nat) (x5 : Int32) (x6 : Int32) (x7 : Int32) (s0 : Nat) (s1 : Int32) (m : Mm) : Option ((Int32 × Mm) ⊕ ((Int32 × Int32 × Mm) ⊕ (Int32 × Mm))) := (d_305 s0 s1 m).bind fun m11 => wb (x7 + 1) fun y12 => some (.inl (y12, m11))
theorem t_307_104 {L nx : Nat} (hN : okn nx) {b z : Nat} {m : Mm} {a0 : Nat} (h0 : ok nx a0 11) {s0 : Nat} (hs0 : ok nx s0 11) {x5 : Int32} {x6 : Int32} {x7 : Int32} {s1 : Int32} {o1 : Option Value} {o2 : Option Value} {o3 : Option Value} {o4 : Option Value} : Im (d_307_104 a0 x5 x6 x7 s0 s1 m) (kL (kL (wI L nx) (E_307_51 L nx b z a0)) (E_307_72 L nx b z a0 x5 x6)) (ev_dn b z 307 104 [some (.ref a0), o1, o2, o3, o4, some (.int x5), some (.int x6), some (.int x7)] [.int s1, .ref s0] (nx, mem L nx m)) := by
  unfold d_307_104
  refine i_cv (ci := 11) (t := 305) (na := 2) (ml := 2) (idx := 423) (pc' := 107) (st' := []) (en := [some (.ref s0), some (.int s1)]) (av := [.int s1]) (vo := fun _ => none) (mo := fun m => m) (s2 := fun _ => []) (by decide +kernel) (by decide +kernel) hs0 ⟨rfl, rfl, rfl, rfl, rfl, rfl⟩ (fun _ => rfl) (t_305 hN (h0 := hs0)) (fun m11 => ?_)
  refine i_bl (pc' := 110) [(.iinc 7 (1), 3)] [some (.ref a0), o1, o2, o3, o4, some (.int x5), some (.int x6), some (.int (x7 + 1))] [] (by decide +kernel) rfl ?_
  refine i_wb (fun y12 => ev_dn b z 307 110 [some (.ref a0), o1, o2, o3, o4, some (.int x5), some (.int x6), some (.int y12)] [] (nx, mem L nx m11)) (fun y12 => ?_)
  refine i_go (t := 72) (off := -38) (by decide +kernel) ?_
  exact i_co (o1, o2, o3, o4) rfl

noncomputable def s_307_72 (a0 : Nat) (x5 : Int32) (x6 : Int32) (x7 : Int32) (m : Mm) : Option ((Int32 × Mm) ⊕ ((Int32 × Int32 × Mm) ⊕ (Int32 × Mm))) := if ev_in x6 (sh_n (sh_r a0 15)) = true then (if (m (sh_r a0 15) (ix x6)) ≤ x7 then ((d_307_113 a0 x5 x6 m).map Sum.inr) else ((d_233 a0 (x5 + x7) m).bind fun v10 => if v10 = true then (d_307_104 a0 x5 x6 x7 a0 46 m) else (d_307_104 a0 x5 x6 x7 a0 42 m))) else none
noncomputable def d_307_72 (a0 : Nat) (x5 : Int32) (x6 : Int32) (x7 : Int32) (m : Mm) : Option ((Int32 × Int32 × Mm) ⊕ (Int32 × Mm)) := it (fun s => s_307_72 a0 x5 x6 s.1 s.2) (x7, m)
theorem e_307_72 (a0 : Nat) (x5 : Int32) (x6 : Int32) (x7 : Int32) (m : Mm) : d_307_72 a0 x5 x6 x7 m = oi (s_307_72 a0 x5 x6 x7 m) (fun s => d_307_72 a0 x5 x6 s.1 s.2) := it_eq _
theorem u_307_72 {L nx : Nat} (hN : okn nx) {b z : Nat} {m : Mm} {a0 : Nat} (h0 : ok nx a0 11) {x5 : Int32} {x6 : Int32} {x7 : Int32} {o1 : Option Value} {o2 : Option Value} {o3 : Option Value} {o4 : Option Value} : Im (s_307_72 a0 x5 x6 x7 m) (kL (kL (wI L nx) (E_307_51 L nx b z a0)) (E_307_72 L nx b z a0 x5 x6)) (ev_dn b z 307 72 [some (.ref a0), o1, o2, o3, o4, some (.int x5), some (.int x6), some (.int x7)] [] (nx, mem L nx m)) := by
  unfold s_307_72
  refine i_bl (pc' := 75) [(.iload 7, 2), (.aload_n 0, 1)] [some (.ref a0), o1, o2, o3, o4, some (.int x5), some (.int x6), some (.int x7)] [.ref a0, .int x7] (by decide +kernel) rfl ?_
  refine i_gr (idx := 46) (ci := 11) (k := 15) (t := 2) (p := 17008) (pc' := 78) (by decide +kernel) h0 ?_
  refine i_bl (pc' := 80) [(.iload 6, 2)] [some (.ref a0), o1, o2, o3, o4, some (.int x5), some (.int x6), some (.int x7)] [.int x6, .ref (sh_r a0 15), .int x7] (by decide +kernel) rfl ?_
  refine i_al (pc' := 81) (by decide +kernel) (o_11_15 hN h0) ?_
  refine i_ic (c := .ge) (off := 32) (t := 113) (pc' := 84) (p := (m (sh_r a0 15) (ix x6)) ≤ x7) (by decide +kernel) rfl ?_ ?_
  · exact i_mr (t_307_113 hN (h0 := h0))
  · refine i_bl (pc' := 91) [(.aload_n 0, 1), (.aload_n 0, 1), (.iload 5, 2), (.iload 7, 2), (.iadd, 1)] [some (.ref a0), o1, o2, o3, o4, some (.int x5), some (.int x6), some (.int x7)] [.int (x5 + x7), .ref a0, .ref a0] (by decide +kernel) rfl ?_
    refine i_cv (ci := 11) (t := 233) (na := 2) (ml := 3) (idx := 197) (pc' := 94) (st' := [.ref a0]) (en := [some (.ref a0), some (.int (x5 + x7)), none]) (av := [.int (x5 + x7)]) (vo := fun v => some (.int (bi v))) (mo := fun _ => m) (s2 := fun v => .int (bi v) :: [.ref a0]) (by decide +kernel) (by decide +kernel) h0 ⟨rfl, rfl, rfl, rfl, rfl, rfl⟩ (fun _ => rfl) (t_233 hN (h0 := h0)) (fun v10 => ?_)
    refine i_bz (off := 8) (t := 102) (pc' := 97) (by decide +kernel) ?_ ?_
    · refine i_bl (pc' := 99) [(.bipush (46), 2)] [some (.ref a0), o1, o2, o3, o4, some (.int x5), some (.int x6), some (.int x7)] [.int 46, .ref a0] (by decide +kernel) rfl ?_
      refine i_go (t := 104) (off := 5) (by decide +kernel) ?_
      exact t_307_104 hN (h0 := h0) (hs0 := h0)
    · refine i_bl (pc' := 104) [(.bipush (42), 2)] [some (.ref a0), o1, o2, o3, o4, some (.int x5), some (.int x6), some (.int x7)] [.int 42, .ref a0] (by decide +kernel) rfl ?_
      exact t_307_104 hN (h0 := h0) (hs0 := h0)

theorem t_307_72 {L nx : Nat} (hN : okn nx) {b z : Nat} {m : Mm} {a0 : Nat} (h0 : ok nx a0 11) {x5 : Int32} {x6 : Int32} {x7 : Int32} {o1 : Option Value} {o2 : Option Value} {o3 : Option Value} {o4 : Option Value} : Im (d_307_72 a0 x5 x6 x7 m) (kL (wI L nx) (E_307_51 L nx b z a0)) (ev_dn b z 307 72 [some (.ref a0), o1, o2, o3, o4, some (.int x5), some (.int x6), some (.int x7)] [] (nx, mem L nx m)) := by
  exact i_it (f := fun s => s_307_72 a0 x5 x6 s.1 s.2) (E := E_307_72 L nx b z a0 x5 x6) (K := (kL (wI L nx) (E_307_51 L nx b z a0))) (fun d s => u_307_72 hN (h0 := h0)) (o1, o2, o3, o4) (x7, m)
noncomputable def s_307_51 (a0 : Nat) (x5 : Int32) (x6 : Int32) (m : Mm) : Option ((Int32 × Int32 × Mm) ⊕ (Int32 × Mm)) := if 6 ≤ x6 then ((d_307_138 a0 m).map Sum.inr) else (if x6 ≤ 0 then (d_307_72 a0 x5 x6 0 m) else ((d_305 a0 32 m).bind fun m13 => d_307_72 a0 x5 x6 0 m13))
noncomputable def d_307_51 (a0 : Nat) (x5 : Int32) (x6 : Int32) (m : Mm) : Option (Int32 × Mm) := it (fun s => s_307_51 a0 s.1 s.2.1 s.2.2) (x5, x6, m)
theorem e_307_51 (a0 : Nat) (x5 : Int32) (x6 : Int32) (m : Mm) : d_307_51 a0 x5 x6 m = oi (s_307_51 a0 x5 x6 m) (fun s => d_307_51 a0 s.1 s.2.1 s.2.2) := it_eq _
theorem u_307_51 {L nx : Nat} (hN : okn nx) {b z : Nat} {m : Mm} {a0 : Nat} (h0 : ok nx a0 11) {x5 : Int32} {x6 : Int32} {o1 : Option Value} {o2 : Option Value} {o3 : Option Value} {o4 : Option Value} {o7 : Option Value} : Im (s_307_51 a0 x5 x6 m) (kL (wI L nx) (E_307_51 L nx b z a0)) (ev_dn b z 307 51 [some (.ref a0), o1, o2, o3, o4, some (.int x5), some (.int x6), o7] [] (nx, mem L nx m)) := by
  unfold s_307_51
  refine i_bl (pc' := 55) [(.iload 6, 2), (.bipush (6), 2)] [some (.ref a0), o1, o2, o3, o4, some (.int x5), some (.int x6), o7] [.int 6, .int x6] (by decide +kernel) rfl ?_
  refine i_ic (c := .ge) (off := 83) (t := 138) (pc' := 58) (p := 6 ≤ x6) (by decide +kernel) rfl ?_ ?_
  · exact i_mr (t_307_138 hN (h0 := h0))
  · refine i_bl (pc' := 60) [(.iload 6, 2)] [some (.ref a0), o1, o2, o3, o4, some (.int x5), some (.int x6), o7] [.int x6] (by decide +kernel) rfl ?_
    refine i_if (c := .le) (off := 9) (t := 69) (pc' := 63) (p := x6 ≤ 0) (by decide +kernel) rfl ?_ ?_
    · refine i_bl (pc' := 72) [(.iconst 0, 1), (.istore 7, 2)] [some (.ref a0), o1, o2, o3, o4, some (.int x5), some (.int x6), some (.int 0)] [] (by decide +kernel) rfl ?_
      exact t_307_72 hN (h0 := h0)
    · refine i_bl (pc' := 66) [(.aload_n 0, 1), (.bipush (32), 2)] [some (.ref a0), o1, o2, o3, o4, some (.int x5), some (.int x6), o7] [.int 32, .ref a0] (by decide +kernel) rfl ?_
      refine i_cv (ci := 11) (t := 305) (na := 2) (ml := 2) (idx := 423) (pc' := 69) (st' := []) (en := [some (.ref a0), some (.int 32)]) (av := [.int 32]) (vo := fun _ => none) (mo := fun m => m) (s2 := fun _ => []) (by decide +kernel) (by decide +kernel) h0 ⟨rfl, rfl, rfl, rfl, rfl, rfl⟩ (fun _ => rfl) (t_305 hN (h0 := h0)) (fun m13 => ?_)
      refine i_bl (pc' := 72) [(.iconst 0, 1), (.istore 7, 2)] [some (.ref a0), o1, o2, o3, o4, some (.int x5), some (.int x6), some (.int 0)] [] (by decide +kernel) rfl ?_
      exact t_307_72 hN (h0 := h0)

theorem t_307_51 {L nx : Nat} (hN : okn nx) {b z : Nat} {m : Mm} {a0 : Nat} (h0 : ok nx a0 11) {x5 : Int32} {x6 : Int32} {o1 : Option Value} {o2 : Option Value} {o3 : Option Value} {o4 : Option Value} {o7 : Option Value} : Im (d_307_51 a0 x5 x6 m) (wI L nx) (ev_dn b z 307 51 [some (.ref a0), o1, o2, o3, o4, some (.int x5), some (.int x6), o7] [] (nx, mem L nx m)) := by
  exact i_it (f := fun s => s_307_51 a0 s.1 s.2.1 s.2.2) (E := E_307_51 L nx b z a0) (K := (wI L nx)) (fun d s => u_307_51 hN (h0 := h0)) (o1, o2, o3, o4, o7) (x5, x6, m)
noncomputable def d_307 (a0 : Nat) (x1 : Int32) (x2 : Int32) (x3 : Int32) (x4 : Int32) (m : Mm) : Option (Int32 × Mm) := (d_253 a0 x1 x2 x3 x4 m).bind fun v1 => (d_183 a0 v1 m).bind fun r2 => if r2.1 = true then (wb (wr r2.2 a0 30 0) fun m3 => (d_214 a0 x1 x2 m3).bind fun v4 => (d_214 a0 x3 x4 m3).bind fun v5 => (d_243 a0 v4 v5 m3).bind fun m6 => if ev_in 2 (sh_n (sh_r a0 1)) = true then (wb (m6 (sh_r a0 1) (ix 2)) fun y7 => d_307_51 a0 y7 0 m6) else none) else (some (0, r2.2))
theorem t_307 {L nx : Nat} (hN : okn nx) {b z : Nat} {m : Mm} {a0 : Nat} (h0 : ok nx a0 11) {x1 : Int32} {x2 : Int32} {x3 : Int32} {x4 : Int32}  : Im (d_307 a0 x1 x2 x3 x4 m) (wI L nx) (ev_dn b z 307 0 [some (.ref a0), some (.int x1), some (.int x2), some (.int x3), some (.int x4), none, none, none] [] (nx, mem L nx m)) := by
  unfold d_307
  refine i_bl (pc' := 7) [(.aload_n 0, 1), (.aload_n 0, 1), (.iload_n 1, 1), (.iload_n 2, 1), (.iload_n 3, 1), (.iload 4, 2)] [some (.ref a0), some (.int x1), some (.int x2), some (.int x3), some (.int x4), none, none, none] [.int x4, .int x3, .int x2, .int x1, .ref a0, .ref a0] (by decide +kernel) rfl ?_
  refine i_cv (ci := 11) (t := 253) (na := 5) (ml := 5) (idx := 239) (pc' := 10) (st' := [.ref a0]) (en := [some (.ref a0), some (.int x1), some (.int x2), some (.int x3), some (.int x4)]) (av := [.int x1, .int x2, .int x3, .int x4]) (vo := fun v => some (.int (bi v))) (mo := fun _ => m) (s2 := fun v => .int (bi v) :: [.ref a0]) (by decide +kernel) (by decide +kernel) h0 ⟨rfl, rfl, rfl, rfl, rfl, rfl⟩ (fun _ => rfl) (t_253 hN (h0 := h0)) (fun v1 => ?_)
  refine i_cv (ci := 11) (t := 183) (na := 2) (ml := 2) (idx := 77) (pc' := 13) (st' := []) (en := [some (.ref a0), some (.int (bi v1))]) (av := [.int (bi v1)]) (vo := fun v => some (.int (bi v.1))) (mo := fun v => v.2) (s2 := fun v => .int (bi v.1) :: []) (by decide +kernel) (by decide +kernel) h0 ⟨rfl, rfl, rfl, rfl, rfl, rfl⟩ (fun _ => rfl) (t_183 hN (h0 := h0)) (fun r2 => ?_)
  refine i_bn (off := 5) (t := 18) (pc' := 16) (by decide +kernel) ?_ ?_
  · refine i_bl (pc' := 20) [(.aload_n 0, 1), (.iconst 0, 1)] [some (.ref a0), some (.int x1), some (.int x2), some (.int x3), some (.int x4), none, none, none] [.int 0, .ref a0] (by decide +kernel) rfl ?_
    refine i_pf (x := 0) (idx := 418) (ci := 11) (k := 30) (p := 17023) (pc' := 23) (by decide +kernel) h0 (fun m3 => ?_)
    refine i_bl (pc' := 27) [(.aload_n 0, 1), (.aload_n 0, 1), (.iload_n 1, 1), (.iload_n 2, 1)] [some (.ref a0), some (.int x1), some (.int x2), some (.int x3), some (.int x4), none, none, none] [.int x2, .int x1, .ref a0, .ref a0] (by decide +kernel) rfl ?_
    refine i_cv (ci := 11) (t := 214) (na := 3) (ml := 3) (idx := 168) (pc' := 30) (st' := [.ref a0]) (en := [some (.ref a0), some (.int x1), some (.int x2)]) (av := [.int x1, .int x2]) (vo := fun v => some (.int v)) (mo := fun _ => m3) (s2 := fun v => .int v :: [.ref a0]) (by decide +kernel) (by decide +kernel) h0 ⟨rfl, rfl, rfl, rfl, rfl, rfl⟩ (fun _ => rfl) (t_214 hN (h0 := h0)) (fun v4 => ?_)
    refine i_bl (pc' := 34) [(.aload_n 0, 1), (.iload_n 3, 1), (.iload 4, 2)] [some (.ref a0), some (.int x1), some (.int x2), some (.int x3), some (.int x4), none, none, none] [.int x4, .int x3, .ref a0, .int v4, .ref a0] (by decide +kernel) rfl ?_
    refine i_cv (ci := 11) (t := 214) (na := 3) (ml := 3) (idx := 168) (pc' := 37) (st' := [.int v4, .ref a0]) (en := [some (.ref a0), some (.int x3), some (.int x4)]) (av := [.int x3, .int x4]) (vo := fun v => some (.int v)) (mo := fun _ => m3) (s2 := fun v => .int v :: [.int v4, .ref a0]) (by decide +kernel) (by decide +kernel) h0 ⟨rfl, rfl, rfl, rfl, rfl, rfl⟩ (fun _ => rfl) (t_214 hN (h0 := h0)) (fun v5 => ?_)
    refine i_cv (ci := 11) (t := 243) (na := 3) (ml := 3) (idx := 242) (pc' := 40) (st' := []) (en := [some (.ref a0), some (.int v4), some (.int v5)]) (av := [.int v4, .int v5]) (vo := fun _ => none) (mo := fun m => m) (s2 := fun _ => []) (by decide +kernel) (by decide +kernel) h0 ⟨rfl, rfl, rfl, rfl, rfl, rfl⟩ (fun _ => rfl) (t_243 hN (h0 := h0)) (fun m6 => ?_)
    refine i_bl (pc' := 41) [(.aload_n 0, 1)] [some (.ref a0), some (.int x1), some (.int x2), some (.int x3), some (.int x4), none, none, none] [.ref a0] (by decide +kernel) rfl ?_
    refine i_gr (idx := 7) (ci := 11) (k := 1) (t := 2) (p := 16234) (pc' := 44) (by decide +kernel) h0 ?_
    refine i_bl (pc' := 45) [(.iconst 2, 1)] [some (.ref a0), some (.int x1), some (.int x2), some (.int x3), some (.int x4), none, none, none] [.int 2, .ref (sh_r a0 1)] (by decide +kernel) rfl ?_
    refine i_al (pc' := 46) (by decide +kernel) (o_11_1 hN h0) ?_
    refine i_bl (pc' := 48) [(.istore 5, 2)] [some (.ref a0), some (.int x1), some (.int x2), some (.int x3), some (.int x4), some (.int (m6 (sh_r a0 1) (ix 2))), none, none] [] (by decide +kernel) rfl ?_
    refine i_wb (fun y7 => ev_dn b z 307 48 [some (.ref a0), some (.int x1), some (.int x2), some (.int x3), some (.int x4), some (.int y7), none, none] [] (nx, mem L nx m6)) (fun y7 => ?_)
    refine i_bl (pc' := 51) [(.iconst 0, 1), (.istore 6, 2)] [some (.ref a0), some (.int x1), some (.int x2), some (.int x3), some (.int x4), some (.int y7), some (.int 0), none] [] (by decide +kernel) rfl ?_
    exact t_307_51 hN (h0 := h0)
  · refine i_bl (pc' := 17) [(.iconst 0, 1)] [some (.ref a0), some (.int x1), some (.int x2), some (.int x3), some (.int x4), none, none, none] [.int 0] (by decide +kernel) rfl ?_
    exact i_ri (by decide +kernel) rfl

/-! 308 LanternChessModel.saysCell(I)V -/
noncomputable def d_308 (a0 : Nat) (x1 : Int32) (m : Mm) : Option Mm := (d_198 a0 x1 m).bind fun v1 => (d_305 a0 (97 + v1) m).bind fun m2 => (d_199 a0 x1 m2).bind fun v3 => (d_305 a0 (49 + v3) m2).bind fun m4 => some m4
theorem t_308 {L nx : Nat} (hN : okn nx) {b z : Nat} {m : Mm} {a0 : Nat} (h0 : ok nx a0 11) {x1 : Int32}  : Im (d_308 a0 x1 m) (wV L nx) (ev_dn b z 308 0 [some (.ref a0), some (.int x1)] [] (nx, mem L nx m)) := by
  unfold d_308
  refine i_bl (pc' := 5) [(.aload_n 0, 1), (.bipush (97), 2), (.aload_n 0, 1), (.iload_n 1, 1)] [some (.ref a0), some (.int x1)] [.int x1, .ref a0, .int 97, .ref a0] (by decide +kernel) rfl ?_
  refine i_cv (ci := 11) (t := 198) (na := 2) (ml := 2) (idx := 85) (pc' := 8) (st' := [.int 97, .ref a0]) (en := [some (.ref a0), some (.int x1)]) (av := [.int x1]) (vo := fun v => some (.int v)) (mo := fun _ => m) (s2 := fun v => .int v :: [.int 97, .ref a0]) (by decide +kernel) (by decide +kernel) h0 ⟨rfl, rfl, rfl, rfl, rfl, rfl⟩ (fun _ => rfl) (t_198 hN (h0 := h0)) (fun v1 => ?_)
  refine i_bl (pc' := 9) [(.iadd, 1)] [some (.ref a0), some (.int x1)] [.int (97 + v1), .ref a0] (by decide +kernel) rfl ?_
  refine i_cv (ci := 11) (t := 305) (na := 2) (ml := 2) (idx := 423) (pc' := 12) (st' := []) (en := [some (.ref a0), some (.int (97 + v1))]) (av := [.int (97 + v1)]) (vo := fun _ => none) (mo := fun m => m) (s2 := fun _ => []) (by decide +kernel) (by decide +kernel) h0 ⟨rfl, rfl, rfl, rfl, rfl, rfl⟩ (fun _ => rfl) (t_305 hN (h0 := h0)) (fun m2 => ?_)
  refine i_bl (pc' := 17) [(.aload_n 0, 1), (.bipush (49), 2), (.aload_n 0, 1), (.iload_n 1, 1)] [some (.ref a0), some (.int x1)] [.int x1, .ref a0, .int 49, .ref a0] (by decide +kernel) rfl ?_
  refine i_cv (ci := 11) (t := 199) (na := 2) (ml := 2) (idx := 92) (pc' := 20) (st' := [.int 49, .ref a0]) (en := [some (.ref a0), some (.int x1)]) (av := [.int x1]) (vo := fun v => some (.int v)) (mo := fun _ => m2) (s2 := fun v => .int v :: [.int 49, .ref a0]) (by decide +kernel) (by decide +kernel) h0 ⟨rfl, rfl, rfl, rfl, rfl, rfl⟩ (fun _ => rfl) (t_199 hN (h0 := h0)) (fun v3 => ?_)
  refine i_bl (pc' := 21) [(.iadd, 1)] [some (.ref a0), some (.int x1)] [.int (49 + v3), .ref a0] (by decide +kernel) rfl ?_
  refine i_cv (ci := 11) (t := 305) (na := 2) (ml := 2) (idx := 423) (pc' := 24) (st' := []) (en := [some (.ref a0), some (.int (49 + v3))]) (av := [.int (49 + v3)]) (vo := fun _ => none) (mo := fun m => m) (s2 := fun _ => []) (by decide +kernel) (by decide +kernel) h0 ⟨rfl, rfl, rfl, rfl, rfl, rfl⟩ (fun _ => rfl) (t_305 hN (h0 := h0)) (fun m4 => ?_)
  exact i_rv (by decide +kernel) rfl

/-! 309 LanternChessModel.printMoves()I -/
noncomputable def E_309_12 (L nx b z : Nat) (a0 : Nat) (d : Option Value × Option Value) (s : (Int32 × Mm)) : ev_Q := ev_dn b z 309 12 [some (.ref a0), some (.int s.1), d.1, d.2] [] (nx, mem L nx s.2)
noncomputable def d_309_134 (a0 : Nat) (m : Mm) : Option (Int32 × Mm) := some (m a0 30, m)
theorem t_309_134 {L nx : Nat} (hN : okn nx) {b z : Nat} {m : Mm} {a0 : Nat} (h0 : ok nx a0 11)  {o1 : Option Value} {o2 : Option Value} {o3 : Option Value} : Im (d_309_134 a0 m) (wI L nx) (ev_dn b z 309 134 [some (.ref a0), o1, o2, o3] [] (nx, mem L nx m)) := by
  unfold d_309_134
  refine i_bl (pc' := 135) [(.aload_n 0, 1)] [some (.ref a0), o1, o2, o3] [.ref a0] (by decide +kernel) rfl ?_
  refine i_gf (idx := 418) (ci := 11) (k := 30) (t := 0) (p := 17023) (pc' := 138) (by decide +kernel) h0 ?_
  exact i_ri (by decide +kernel) rfl

noncomputable def d_309_121 (a0 : Nat) (m : Mm) : Option (Int32 × Mm) := if ¬ (m a0 30) = 0 then (d_309_134 a0 m) else ((d_305 a0 46 m).bind fun m3 => d_309_134 a0 m3)
theorem t_309_121 {L nx : Nat} (hN : okn nx) {b z : Nat} {m : Mm} {a0 : Nat} (h0 : ok nx a0 11)  {o1 : Option Value} {o2 : Option Value} {o3 : Option Value} : Im (d_309_121 a0 m) (wI L nx) (ev_dn b z 309 121 [some (.ref a0), o1, o2, o3] [] (nx, mem L nx m)) := by
  unfold d_309_121
  refine i_bl (pc' := 122) [(.aload_n 0, 1)] [some (.ref a0), o1, o2, o3] [.ref a0] (by decide +kernel) rfl ?_
  refine i_gf (idx := 418) (ci := 11) (k := 30) (t := 0) (p := 17023) (pc' := 125) (by decide +kernel) h0 ?_
  refine i_if (c := .ne) (off := 9) (t := 134) (pc' := 128) (p := ¬ (m a0 30) = 0) (by decide +kernel) rfl ?_ ?_
  · exact t_309_134 hN (h0 := h0)
  · refine i_bl (pc' := 131) [(.aload_n 0, 1), (.bipush (46), 2)] [some (.ref a0), o1, o2, o3] [.int 46, .ref a0] (by decide +kernel) rfl ?_
    refine i_cv (ci := 11) (t := 305) (na := 2) (ml := 2) (idx := 423) (pc' := 134) (st' := []) (en := [some (.ref a0), some (.int 46)]) (av := [.int 46]) (vo := fun _ => none) (mo := fun m => m) (s2 := fun _ => []) (by decide +kernel) (by decide +kernel) h0 ⟨rfl, rfl, rfl, rfl, rfl, rfl⟩ (fun _ => rfl) (t_305 hN (h0 := h0)) (fun m3 => ?_)
    exact t_309_134 hN (h0 := h0)

noncomputable def E_309_91 (L nx b z : Nat) (a0 : Nat) (x1 : Int32) (x2 : Int32) (d : Unit) (s : (Int32 × Mm)) : ev_Q := ev_dn b z 309 91 [some (.ref a0), some (.int x1), some (.int x2), some (.int s.1)] [] (nx, mem L nx s.2)
noncomputable def s_309_91 (a0 : Nat) (x1 : Int32) (x2 : Int32) (x3 : Int32) (m : Mm) : Option ((Int32 × Mm) ⊕ ((Int32 × Mm) ⊕ (Int32 × Mm))) := if ev_in (x2 + 4) (sh_n (sh_r a0 1)) = true then (if (m (sh_r a0 1) (ix (x2 + 4))) ≤ x3 then (wb (x1 + 1) fun y8 => some (.inr (.inl (y8, m)))) else ((d_305 a0 63 m).bind fun m9 => wb (x3 + 1) fun y10 => some (.inl (y10, m9)))) else none
noncomputable def d_309_91 (a0 : Nat) (x1 : Int32) (x2 : Int32) (x3 : Int32) (m : Mm) : Option ((Int32 × Mm) ⊕ (Int32 × Mm)) := it (fun s => s_309_91 a0 x1 x2 s.1 s.2) (x3, m)
theorem e_309_91 (a0 : Nat) (x1 : Int32) (x2 : Int32) (x3 : Int32) (m : Mm) : d_309_91 a0 x1 x2 x3 m = oi (s_309_91 a0 x1 x2 x3 m) (fun s => d_309_91 a0 x1 x2 s.1 s.2) := it_eq _
theorem u_309_91 {L nx : Nat} (hN : okn nx) {b z : Nat} {m : Mm} {a0 : Nat} (h0 : ok nx a0 11) {x1 : Int32} {x2 : Int32} {x3 : Int32}  : Im (s_309_91 a0 x1 x2 x3 m) (kL (kL (wI L nx) (E_309_12 L nx b z a0)) (E_309_91 L nx b z a0 x1 x2)) (ev_dn b z 309 91 [some (.ref a0), some (.int x1), some (.int x2), some (.int x3)] [] (nx, mem L nx m)) := by
  unfold s_309_91
  refine i_bl (pc' := 93) [(.iload_n 3, 1), (.aload_n 0, 1)] [some (.ref a0), some (.int x1), some (.int x2), some (.int x3)] [.ref a0, .int x3] (by decide +kernel) rfl ?_
  refine i_gr (idx := 7) (ci := 11) (k := 1) (t := 2) (p := 16234) (pc' := 96) (by decide +kernel) h0 ?_
  refine i_bl (pc' := 99) [(.iload_n 2, 1), (.iconst 4, 1), (.iadd, 1)] [some (.ref a0), some (.int x1), some (.int x2), some (.int x3)] [.int (x2 + 4), .ref (sh_r a0 1), .int x3] (by decide +kernel) rfl ?_
  refine i_al (pc' := 100) (by decide +kernel) (o_11_1 hN h0) ?_
  refine i_ic (c := .ge) (off := 15) (t := 115) (pc' := 103) (p := (m (sh_r a0 1) (ix (x2 + 4))) ≤ x3) (by decide +kernel) rfl ?_ ?_
  · refine i_bl (pc' := 118) [(.iinc 1 (1), 3)] [some (.ref a0), some (.int (x1 + 1)), some (.int x2), some (.int x3)] [] (by decide +kernel) rfl ?_
    refine i_wb (fun y8 => ev_dn b z 309 118 [some (.ref a0), some (.int y8), some (.int x2), some (.int x3)] [] (nx, mem L nx m)) (fun y8 => ?_)
    refine i_go (t := 12) (off := -106) (by decide +kernel) ?_
    exact i_ir (i_co (some (.int x2), some (.int x3)) rfl)
  · refine i_bl (pc' := 106) [(.aload_n 0, 1), (.bipush (63), 2)] [some (.ref a0), some (.int x1), some (.int x2), some (.int x3)] [.int 63, .ref a0] (by decide +kernel) rfl ?_
    refine i_cv (ci := 11) (t := 305) (na := 2) (ml := 2) (idx := 423) (pc' := 109) (st' := []) (en := [some (.ref a0), some (.int 63)]) (av := [.int 63]) (vo := fun _ => none) (mo := fun m => m) (s2 := fun _ => []) (by decide +kernel) (by decide +kernel) h0 ⟨rfl, rfl, rfl, rfl, rfl, rfl⟩ (fun _ => rfl) (t_305 hN (h0 := h0)) (fun m9 => ?_)
    refine i_bl (pc' := 112) [(.iinc 3 (1), 3)] [some (.ref a0), some (.int x1), some (.int x2), some (.int (x3 + 1))] [] (by decide +kernel) rfl ?_
    refine i_wb (fun y10 => ev_dn b z 309 112 [some (.ref a0), some (.int x1), some (.int x2), some (.int y10)] [] (nx, mem L nx m9)) (fun y10 => ?_)
    refine i_go (t := 91) (off := -21) (by decide +kernel) ?_
    exact i_co () rfl

theorem t_309_91 {L nx : Nat} (hN : okn nx) {b z : Nat} {m : Mm} {a0 : Nat} (h0 : ok nx a0 11) {x1 : Int32} {x2 : Int32} {x3 : Int32}  : Im (d_309_91 a0 x1 x2 x3 m) (kL (wI L nx) (E_309_12 L nx b z a0)) (ev_dn b z 309 91 [some (.ref a0), some (.int x1), some (.int x2), some (.int x3)] [] (nx, mem L nx m)) := by
  exact i_it (f := fun s => s_309_91 a0 x1 x2 s.1 s.2) (E := E_309_91 L nx b z a0 x1 x2) (K := (kL (wI L nx) (E_309_12 L nx b z a0))) (fun d s => u_309_91 hN (h0 := h0)) () (x3, m)
noncomputable def d_309_74 (a0 : Nat) (x1 : Int32) (x2 : Int32) (s0 : Nat) (s1 : Int32) (m : Mm) : Option ((Int32 × Mm) ⊕ (Int32 × Mm)) := (d_305 s0 s1 m).bind fun m6 => if ev_in (x2 + 2) (sh_n (sh_r a0 1)) = true then ((d_308 a0 (m6 (sh_r a0 1) (ix (x2 + 2))) m6).bind fun m7 => d_309_91 a0 x1 x2 1 m7) else none
theorem t_309_74 {L nx : Nat} (hN : okn nx) {b z : Nat} {m : Mm} {a0 : Nat} (h0 : ok nx a0 11) {s0 : Nat} (hs0 : ok nx s0 11) {x1 : Int32} {x2 : Int32} {s1 : Int32} {o3 : Option Value} : Im (d_309_74 a0 x1 x2 s0 s1 m) (kL (wI L nx) (E_309_12 L nx b z a0)) (ev_dn b z 309 74 [some (.ref a0), some (.int x1), some (.int x2), o3] [.int s1, .ref s0] (nx, mem L nx m)) := by
  unfold d_309_74
  refine i_cv (ci := 11) (t := 305) (na := 2) (ml := 2) (idx := 423) (pc' := 77) (st' := []) (en := [some (.ref s0), some (.int s1)]) (av := [.int s1]) (vo := fun _ => none) (mo := fun m => m) (s2 := fun _ => []) (by decide +kernel) (by decide +kernel) hs0 ⟨rfl, rfl, rfl, rfl, rfl, rfl⟩ (fun _ => rfl) (t_305 hN (h0 := hs0)) (fun m6 => ?_)
  refine i_bl (pc' := 79) [(.aload_n 0, 1), (.aload_n 0, 1)] [some (.ref a0), some (.int x1), some (.int x2), o3] [.ref a0, .ref a0] (by decide +kernel) rfl ?_
  refine i_gr (idx := 7) (ci := 11) (k := 1) (t := 2) (p := 16234) (pc' := 82) (by decide +kernel) h0 ?_
  refine i_bl (pc' := 85) [(.iload_n 2, 1), (.iconst 2, 1), (.iadd, 1)] [some (.ref a0), some (.int x1), some (.int x2), o3] [.int (x2 + 2), .ref (sh_r a0 1), .ref a0] (by decide +kernel) rfl ?_
  refine i_al (pc' := 86) (by decide +kernel) (o_11_1 hN h0) ?_
  refine i_cv (ci := 11) (t := 308) (na := 2) (ml := 2) (idx := 426) (pc' := 89) (st' := []) (en := [some (.ref a0), some (.int (m6 (sh_r a0 1) (ix (x2 + 2))))]) (av := [.int (m6 (sh_r a0 1) (ix (x2 + 2)))]) (vo := fun _ => none) (mo := fun m => m) (s2 := fun _ => []) (by decide +kernel) (by decide +kernel) h0 ⟨rfl, rfl, rfl, rfl, rfl, rfl⟩ (fun _ => rfl) (t_308 hN (h0 := h0)) (fun m7 => ?_)
  refine i_bl (pc' := 91) [(.iconst 1, 1), (.istore_n 3, 1)] [some (.ref a0), some (.int x1), some (.int x2), some (.int 1)] [] (by decide +kernel) rfl ?_
  exact t_309_91 hN (h0 := h0)

noncomputable def d_309_42 (a0 : Nat) (x1 : Int32) (x2 : Int32) (m : Mm) : Option ((Int32 × Mm) ⊕ (Int32 × Mm)) := if ev_in (x2 + 1) (sh_n (sh_r a0 1)) = true then ((d_308 a0 (m (sh_r a0 1) (ix (x2 + 1))) m).bind fun m5 => if ev_in (x2 + 3) (sh_n (sh_r a0 1)) = true then (if ¬ (m5 (sh_r a0 1) (ix (x2 + 3))) = (-1) then (d_309_74 a0 x1 x2 a0 120 m5) else (d_309_74 a0 x1 x2 a0 45 m5)) else none) else none
theorem t_309_42 {L nx : Nat} (hN : okn nx) {b z : Nat} {m : Mm} {a0 : Nat} (h0 : ok nx a0 11) {x1 : Int32} {x2 : Int32} {o3 : Option Value} : Im (d_309_42 a0 x1 x2 m) (kL (wI L nx) (E_309_12 L nx b z a0)) (ev_dn b z 309 42 [some (.ref a0), some (.int x1), some (.int x2), o3] [] (nx, mem L nx m)) := by
  unfold d_309_42
  refine i_bl (pc' := 44) [(.aload_n 0, 1), (.aload_n 0, 1)] [some (.ref a0), some (.int x1), some (.int x2), o3] [.ref a0, .ref a0] (by decide +kernel) rfl ?_
  refine i_gr (idx := 7) (ci := 11) (k := 1) (t := 2) (p := 16234) (pc' := 47) (by decide +kernel) h0 ?_
  refine i_bl (pc' := 50) [(.iload_n 2, 1), (.iconst 1, 1), (.iadd, 1)] [some (.ref a0), some (.int x1), some (.int x2), o3] [.int (x2 + 1), .ref (sh_r a0 1), .ref a0] (by decide +kernel) rfl ?_
  refine i_al (pc' := 51) (by decide +kernel) (o_11_1 hN h0) ?_
  refine i_cv (ci := 11) (t := 308) (na := 2) (ml := 2) (idx := 426) (pc' := 54) (st' := []) (en := [some (.ref a0), some (.int (m (sh_r a0 1) (ix (x2 + 1))))]) (av := [.int (m (sh_r a0 1) (ix (x2 + 1)))]) (vo := fun _ => none) (mo := fun m => m) (s2 := fun _ => []) (by decide +kernel) (by decide +kernel) h0 ⟨rfl, rfl, rfl, rfl, rfl, rfl⟩ (fun _ => rfl) (t_308 hN (h0 := h0)) (fun m5 => ?_)
  refine i_bl (pc' := 56) [(.aload_n 0, 1), (.aload_n 0, 1)] [some (.ref a0), some (.int x1), some (.int x2), o3] [.ref a0, .ref a0] (by decide +kernel) rfl ?_
  refine i_gr (idx := 7) (ci := 11) (k := 1) (t := 2) (p := 16234) (pc' := 59) (by decide +kernel) h0 ?_
  refine i_bl (pc' := 62) [(.iload_n 2, 1), (.iconst 3, 1), (.iadd, 1)] [some (.ref a0), some (.int x1), some (.int x2), o3] [.int (x2 + 3), .ref (sh_r a0 1), .ref a0] (by decide +kernel) rfl ?_
  refine i_al (pc' := 63) (by decide +kernel) (o_11_1 hN h0) ?_
  refine i_bl (pc' := 64) [(.iconst (-1), 1)] [some (.ref a0), some (.int x1), some (.int x2), o3] [.int (-1), .int (m5 (sh_r a0 1) (ix (x2 + 3))), .ref a0] (by decide +kernel) rfl ?_
  refine i_ic (c := .ne) (off := 8) (t := 72) (pc' := 67) (p := ¬ (m5 (sh_r a0 1) (ix (x2 + 3))) = (-1)) (by decide +kernel) rfl ?_ ?_
  · refine i_bl (pc' := 74) [(.bipush (120), 2)] [some (.ref a0), some (.int x1), some (.int x2), o3] [.int 120, .ref a0] (by decide +kernel) rfl ?_
    exact t_309_74 hN (h0 := h0) (hs0 := h0)
  · refine i_bl (pc' := 69) [(.bipush (45), 2)] [some (.ref a0), some (.int x1), some (.int x2), o3] [.int 45, .ref a0] (by decide +kernel) rfl ?_
    refine i_go (t := 74) (off := 5) (by decide +kernel) ?_
    exact t_309_74 hN (h0 := h0) (hs0 := h0)

noncomputable def s_309_12 (a0 : Nat) (x1 : Int32) (m : Mm) : Option ((Int32 × Mm) ⊕ (Int32 × Mm)) := if ev_in 14 (sh_n (sh_r a0 1)) = true then (if (m (sh_r a0 1) (ix 14)) ≤ x1 then ((d_309_121 a0 m).map Sum.inr) else (wb (464 + (6 * x1)) fun y4 => if x1 ≤ 0 then (d_309_42 a0 x1 y4 m) else ((d_305 a0 32 m).bind fun m11 => d_309_42 a0 x1 y4 m11))) else none
noncomputable def d_309_12 (a0 : Nat) (x1 : Int32) (m : Mm) : Option (Int32 × Mm) := it (fun s => s_309_12 a0 s.1 s.2) (x1, m)
theorem e_309_12 (a0 : Nat) (x1 : Int32) (m : Mm) : d_309_12 a0 x1 m = oi (s_309_12 a0 x1 m) (fun s => d_309_12 a0 s.1 s.2) := it_eq _
theorem u_309_12 {L nx : Nat} (hN : okn nx) {b z : Nat} {m : Mm} {a0 : Nat} (h0 : ok nx a0 11) {x1 : Int32} {o2 : Option Value} {o3 : Option Value} : Im (s_309_12 a0 x1 m) (kL (wI L nx) (E_309_12 L nx b z a0)) (ev_dn b z 309 12 [some (.ref a0), some (.int x1), o2, o3] [] (nx, mem L nx m)) := by
  unfold s_309_12
  refine i_bl (pc' := 14) [(.iload_n 1, 1), (.aload_n 0, 1)] [some (.ref a0), some (.int x1), o2, o3] [.ref a0, .int x1] (by decide +kernel) rfl ?_
  refine i_gr (idx := 7) (ci := 11) (k := 1) (t := 2) (p := 16234) (pc' := 17) (by decide +kernel) h0 ?_
  refine i_bl (pc' := 19) [(.bipush (14), 2)] [some (.ref a0), some (.int x1), o2, o3] [.int 14, .ref (sh_r a0 1), .int x1] (by decide +kernel) rfl ?_
  refine i_al (pc' := 20) (by decide +kernel) (o_11_1 hN h0) ?_
  refine i_ic (c := .ge) (off := 101) (t := 121) (pc' := 23) (p := (m (sh_r a0 1) (ix 14)) ≤ x1) (by decide +kernel) rfl ?_ ?_
  · exact i_mr (t_309_121 hN (h0 := h0))
  · refine i_bl (pc' := 32) [(.sipush (464), 3), (.bipush (6), 2), (.iload_n 1, 1), (.imul, 1), (.iadd, 1), (.istore_n 2, 1)] [some (.ref a0), some (.int x1), some (.int (464 + (6 * x1))), o3] [] (by decide +kernel) rfl ?_
    refine i_wb (fun y4 => ev_dn b z 309 32 [some (.ref a0), some (.int x1), some (.int y4), o3] [] (nx, mem L nx m)) (fun y4 => ?_)
    refine i_bl (pc' := 33) [(.iload_n 1, 1)] [some (.ref a0), some (.int x1), some (.int y4), o3] [.int x1] (by decide +kernel) rfl ?_
    refine i_if (c := .le) (off := 9) (t := 42) (pc' := 36) (p := x1 ≤ 0) (by decide +kernel) rfl ?_ ?_
    · exact t_309_42 hN (h0 := h0)
    · refine i_bl (pc' := 39) [(.aload_n 0, 1), (.bipush (32), 2)] [some (.ref a0), some (.int x1), some (.int y4), o3] [.int 32, .ref a0] (by decide +kernel) rfl ?_
      refine i_cv (ci := 11) (t := 305) (na := 2) (ml := 2) (idx := 423) (pc' := 42) (st' := []) (en := [some (.ref a0), some (.int 32)]) (av := [.int 32]) (vo := fun _ => none) (mo := fun m => m) (s2 := fun _ => []) (by decide +kernel) (by decide +kernel) h0 ⟨rfl, rfl, rfl, rfl, rfl, rfl⟩ (fun _ => rfl) (t_305 hN (h0 := h0)) (fun m11 => ?_)
      exact t_309_42 hN (h0 := h0)

theorem t_309_12 {L nx : Nat} (hN : okn nx) {b z : Nat} {m : Mm} {a0 : Nat} (h0 : ok nx a0 11) {x1 : Int32} {o2 : Option Value} {o3 : Option Value} : Im (d_309_12 a0 x1 m) (wI L nx) (ev_dn b z 309 12 [some (.ref a0), some (.int x1), o2, o3] [] (nx, mem L nx m)) := by
  exact i_it (f := fun s => s_309_12 a0 s.1 s.2) (E := E_309_12 L nx b z a0) (K := (wI L nx)) (fun d s => u_309_12 hN (h0 := h0)) (o2, o3) (x1, m)
noncomputable def d_309 (a0 : Nat) (m : Mm) : Option (Int32 × Mm) := wb (wr m a0 0 0) fun m1 => wb (wr m1 a0 30 0) fun m2 => d_309_12 a0 0 m2
theorem t_309 {L nx : Nat} (hN : okn nx) {b z : Nat} {m : Mm} {a0 : Nat} (h0 : ok nx a0 11)   : Im (d_309 a0 m) (wI L nx) (ev_dn b z 309 0 [some (.ref a0), none, none, none] [] (nx, mem L nx m)) := by
  unfold d_309
  refine i_bl (pc' := 2) [(.aload_n 0, 1), (.iconst 0, 1)] [some (.ref a0), none, none, none] [.int 0, .ref a0] (by decide +kernel) rfl ?_
  refine i_pf (x := 0) (idx := 67) (ci := 11) (k := 0) (p := 16233) (pc' := 5) (by decide +kernel) h0 (fun m1 => ?_)
  refine i_bl (pc' := 7) [(.aload_n 0, 1), (.iconst 0, 1)] [some (.ref a0), none, none, none] [.int 0, .ref a0] (by decide +kernel) rfl ?_
  refine i_pf (x := 0) (idx := 418) (ci := 11) (k := 30) (p := 17023) (pc' := 10) (by decide +kernel) h0 (fun m2 => ?_)
  refine i_bl (pc' := 12) [(.iconst 0, 1), (.istore_n 1, 1)] [some (.ref a0), some (.int 0), none, none] [] (by decide +kernel) rfl ?_
  exact t_309_12 hN (h0 := h0)

/-! 310 LanternChessModel.outputByte(I)I -/
noncomputable def d_310 (a0 : Nat) (x1 : Int32) (m : Mm) : Option (Int32 × Mm) := wb (wr m a0 0 0) fun m1 => (d_185 x1 0 ((m1 a0 30) - 1)).bind fun v2 => if v2 = true then (if ev_in x1 (sh_n (sh_r a0 29)) = true then (some (m1 (sh_r a0 29) (ix x1), m1)) else none) else (some ((-1), m1))
theorem t_310 {L nx : Nat} (hN : okn nx) {b z : Nat} {m : Mm} {a0 : Nat} (h0 : ok nx a0 11) {x1 : Int32}  : Im (d_310 a0 x1 m) (wI L nx) (ev_dn b z 310 0 [some (.ref a0), some (.int x1)] [] (nx, mem L nx m)) := by
  unfold d_310
  refine i_bl (pc' := 2) [(.aload_n 0, 1), (.iconst 0, 1)] [some (.ref a0), some (.int x1)] [.int 0, .ref a0] (by decide +kernel) rfl ?_
  refine i_pf (x := 0) (idx := 67) (ci := 11) (k := 0) (p := 16233) (pc' := 5) (by decide +kernel) h0 (fun m1 => ?_)
  refine i_bl (pc' := 9) [(.iload_n 1, 1), (.i2l, 1), (.lconst 0, 1), (.aload_n 0, 1)] [some (.ref a0), some (.int x1)] [.ref a0, .long (0 : Int32).toInt64, .long x1.toInt64] (by decide +kernel) rfl ?_
  refine i_gf (idx := 418) (ci := 11) (k := 30) (t := 0) (p := 17023) (pc' := 12) (by decide +kernel) h0 ?_
  refine i_bl (pc' := 15) [(.iconst 1, 1), (.isub, 1), (.i2l, 1)] [some (.ref a0), some (.int x1)] [.long ((m1 a0 30) - 1).toInt64, .long (0 : Int32).toInt64, .long x1.toInt64] (by decide +kernel) rfl ?_
  refine i_cs (t := 185) (na := 3) (ml := 6) (idx := 148) (pc' := 18) (st' := []) (en := [some (.long x1.toInt64), none, some (.long (0 : Int32).toInt64), none, some (.long ((m1 a0 30) - 1).toInt64), none]) (av := [.long x1.toInt64, .long (0 : Int32).toInt64, .long ((m1 a0 30) - 1).toInt64]) (vo := fun v => some (.int (bi v))) (mo := fun _ => m1) (s2 := fun v => .int (bi v) :: []) (by decide +kernel) ⟨rfl, rfl, rfl, rfl, rfl, rfl⟩ (fun _ => rfl) (t_185 hN ) (fun v2 => ?_)
  refine i_bz (off := 12) (t := 30) (pc' := 21) (by decide +kernel) ?_ ?_
  · refine i_bl (pc' := 22) [(.aload_n 0, 1)] [some (.ref a0), some (.int x1)] [.ref a0] (by decide +kernel) rfl ?_
    refine i_gr (idx := 60) (ci := 11) (k := 29) (t := 2) (p := 17022) (pc' := 25) (by decide +kernel) h0 ?_
    refine i_bl (pc' := 26) [(.iload_n 1, 1)] [some (.ref a0), some (.int x1)] [.int x1, .ref (sh_r a0 29)] (by decide +kernel) rfl ?_
    refine i_ba (pc' := 27) (by decide +kernel) (o_11_29 hN h0) ?_
    refine i_go (t := 31) (off := 4) (by decide +kernel) ?_
    exact i_ri (by decide +kernel) rfl
  · refine i_bl (pc' := 31) [(.iconst (-1), 1)] [some (.ref a0), some (.int x1)] [.int (-1)] (by decide +kernel) rfl ?_
    exact i_ri (by decide +kernel) rfl

/-! 311 LanternChessLaw.count(LLanternChess;I[J)I -/
noncomputable def d_311 (a0 : Nat) (x1 : Int32) (a2 : Nat) (m : Mm) : Option (Int32 × Mm) := bE (d_125 a0 x1 m) (fun v2 m1 => if ev_in 0 (sh_n a2) = true then (wb (wr m1 a2 (ix 0) v2) fun m3 => some (0, m3)) else none) (fun e4 m1 => if e4 = 0 then (some (1, m1)) else none)
theorem t_311 {L nx : Nat} (hN : okn nx) {b z : Nat} (hb : 1 ≤ b) (hz : 6 ≤ z) {m : Mm} {a0 : Nat} (h0 : ok nx a0 10) {a2 : Nat} (h2 : ok nx a2 102) {x1 : Int32}  : Im (d_311 a0 x1 a2 m) (wI L nx) (ev_dn b z 311 0 [some (.ref a0), some (.int x1), some (.ref a2), none] [] (nx, mem L nx m)) := by
  unfold d_311
  refine i_bl (pc' := 4) [(.aload_n 2, 1), (.iconst 0, 1), (.aload_n 0, 1), (.iload_n 1, 1)] [some (.ref a0), some (.int x1), some (.ref a2), none] [.int x1, .ref a0, .int 0, .ref a2] (by decide +kernel) rfl ?_
  refine i_ev (ci := 10) (t := 125) (na := 2) (ml := 2) (idx := 7) (pc' := 7) (st' := [.int 0, .ref a2]) (en := [some (.ref a0), some (.int x1)]) (av := [.int x1]) (k1 := 1) (k2 := 6) (vo := fun v => some (.int v)) (s2 := fun v => .int v :: [.int 0, .ref a2]) (by decide +kernel) (by decide +kernel) h0 ⟨rfl, rfl, rfl, rfl, rfl, rfl⟩ ⟨by omega, by omega⟩ (fun _ => rfl) (t_125 hN (b := 1) (z := 6) (by decide) (by decide) (h0 := h0)) (fun v2 m1 => ?_) (fun e4 m1 => ?_)
  · refine i_bl (pc' := 8) [(.i2l, 1)] [some (.ref a0), some (.int x1), some (.ref a2), none] [.long v2.toInt64, .int 0, .ref a2] (by decide +kernel) rfl ?_
    refine i_ls (y := v2) (pc' := 9) (by decide +kernel) h2 (fun m3 => ?_)
    refine i_go (t := 15) (off := 6) (by decide +kernel) ?_
    refine i_bl (pc' := 16) [(.iconst 0, 1)] [some (.ref a0), some (.int x1), some (.ref a2), none] [.int 0] (by decide +kernel) rfl ?_
    exact i_ri (by decide +kernel) rfl
  · refine i_h1 (pc' := 13) (j := 3) (lo' := [some (.ref a0), some (.int x1), some (.ref a2), none]) (by decide +kernel) rfl ?_ ?_
    · refine i_bl (pc' := 14) [(.iconst 1, 1)] [some (.ref a0), some (.int x1), some (.ref a2), none] [.int 1] (by decide +kernel) rfl ?_
      exact i_ri (by decide +kernel) rfl
    exact i_no

/-! 312 LanternChessLaw.clock(LLanternChess;I[J)I -/
noncomputable def d_312 (a0 : Nat) (x1 : Int32) (a2 : Nat) (m : Mm) : Option (Int32 × Mm) := bE (d_126 a0 x1 m) (fun v2 m1 => if ev_in 0 (sh_n a2) = true then (wb (wr m1 a2 (ix 0) v2) fun m3 => some (0, m3)) else none) (fun e4 m1 => if e4 = 1 then (some (1, m1)) else none)
theorem t_312 {L nx : Nat} (hN : okn nx) {b z : Nat} (hb : 1 ≤ b) (hz : 6 ≤ z) {m : Mm} {a0 : Nat} (h0 : ok nx a0 10) {a2 : Nat} (h2 : ok nx a2 102) {x1 : Int32}  : Im (d_312 a0 x1 a2 m) (wI L nx) (ev_dn b z 312 0 [some (.ref a0), some (.int x1), some (.ref a2), none] [] (nx, mem L nx m)) := by
  unfold d_312
  refine i_bl (pc' := 4) [(.aload_n 2, 1), (.iconst 0, 1), (.aload_n 0, 1), (.iload_n 1, 1)] [some (.ref a0), some (.int x1), some (.ref a2), none] [.int x1, .ref a0, .int 0, .ref a2] (by decide +kernel) rfl ?_
  refine i_ev (ci := 10) (t := 126) (na := 2) (ml := 2) (idx := 15) (pc' := 7) (st' := [.int 0, .ref a2]) (en := [some (.ref a0), some (.int x1)]) (av := [.int x1]) (k1 := 1) (k2 := 6) (vo := fun v => some (.int v)) (s2 := fun v => .int v :: [.int 0, .ref a2]) (by decide +kernel) (by decide +kernel) h0 ⟨rfl, rfl, rfl, rfl, rfl, rfl⟩ ⟨by omega, by omega⟩ (fun _ => rfl) (t_126 hN (b := 1) (z := 6) (by decide) (by decide) (h0 := h0)) (fun v2 m1 => ?_) (fun e4 m1 => ?_)
  · refine i_bl (pc' := 8) [(.i2l, 1)] [some (.ref a0), some (.int x1), some (.ref a2), none] [.long v2.toInt64, .int 0, .ref a2] (by decide +kernel) rfl ?_
    refine i_ls (y := v2) (pc' := 9) (by decide +kernel) h2 (fun m3 => ?_)
    refine i_go (t := 15) (off := 6) (by decide +kernel) ?_
    refine i_bl (pc' := 16) [(.iconst 0, 1)] [some (.ref a0), some (.int x1), some (.ref a2), none] [.int 0] (by decide +kernel) rfl ?_
    exact i_ri (by decide +kernel) rfl
  · refine i_h1 (pc' := 13) (j := 3) (lo' := [some (.ref a0), some (.int x1), some (.ref a2), none]) (by decide +kernel) rfl ?_ ?_
    · refine i_bl (pc' := 14) [(.iconst 1, 1)] [some (.ref a0), some (.int x1), some (.ref a2), none] [.int 1] (by decide +kernel) rfl ?_
      exact i_ri (by decide +kernel) rfl
    exact i_no

/-! 313 LanternChessLaw.piece(LLanternChess;III[J)I -/
noncomputable def d_313 (a0 : Nat) (x1 : Int32) (x2 : Int32) (x3 : Int32) (a4 : Nat) (m : Mm) : Option (Int32 × Mm) := bE (d_127 a0 x1 x2 x3 m) (fun v2 m1 => if ev_in 0 (sh_n a4) = true then (wb (wr m1 a4 (ix 0) v2) fun m3 => some (0, m3)) else none) (fun e4 m1 => if e4 = 1 then (some (1, m1)) else if e4 = 0 then (some (2, m1)) else none)
theorem t_313 {L nx : Nat} (hN : okn nx) {b z : Nat} (hb : 2 ≤ b) (hz : 12 ≤ z) {m : Mm} {a0 : Nat} (h0 : ok nx a0 10) {a4 : Nat} (h4 : ok nx a4 102) {x1 : Int32} {x2 : Int32} {x3 : Int32}  : Im (d_313 a0 x1 x2 x3 a4 m) (wI L nx) (ev_dn b z 313 0 [some (.ref a0), some (.int x1), some (.int x2), some (.int x3), some (.ref a4), none] [] (nx, mem L nx m)) := by
  unfold d_313
  refine i_bl (pc' := 7) [(.aload 4, 2), (.iconst 0, 1), (.aload_n 0, 1), (.iload_n 1, 1), (.iload_n 2, 1), (.iload_n 3, 1)] [some (.ref a0), some (.int x1), some (.int x2), some (.int x3), some (.ref a4), none] [.int x3, .int x2, .int x1, .ref a0, .int 0, .ref a4] (by decide +kernel) rfl ?_
  refine i_ev (ci := 10) (t := 127) (na := 4) (ml := 4) (idx := 20) (pc' := 10) (st' := [.int 0, .ref a4]) (en := [some (.ref a0), some (.int x1), some (.int x2), some (.int x3)]) (av := [.int x1, .int x2, .int x3]) (k1 := 2) (k2 := 12) (vo := fun v => some (.int v)) (s2 := fun v => .int v :: [.int 0, .ref a4]) (by decide +kernel) (by decide +kernel) h0 ⟨rfl, rfl, rfl, rfl, rfl, rfl⟩ ⟨by omega, by omega⟩ (fun _ => rfl) (t_127 hN (b := 2) (z := 12) (by decide) (by decide) (h0 := h0)) (fun v2 m1 => ?_) (fun e4 m1 => ?_)
  · refine i_bl (pc' := 11) [(.i2l, 1)] [some (.ref a0), some (.int x1), some (.int x2), some (.int x3), some (.ref a4), none] [.long v2.toInt64, .int 0, .ref a4] (by decide +kernel) rfl ?_
    refine i_ls (y := v2) (pc' := 12) (by decide +kernel) h4 (fun m3 => ?_)
    refine i_go (t := 23) (off := 11) (by decide +kernel) ?_
    refine i_bl (pc' := 24) [(.iconst 0, 1)] [some (.ref a0), some (.int x1), some (.int x2), some (.int x3), some (.ref a4), none] [.int 0] (by decide +kernel) rfl ?_
    exact i_ri (by decide +kernel) rfl
  · refine i_h1 (pc' := 17) (j := 5) (lo' := [some (.ref a0), some (.int x1), some (.int x2), some (.int x3), some (.ref a4), none]) (by decide +kernel) rfl ?_ ?_
    · refine i_bl (pc' := 18) [(.iconst 1, 1)] [some (.ref a0), some (.int x1), some (.int x2), some (.int x3), some (.ref a4), none] [.int 1] (by decide +kernel) rfl ?_
      exact i_ri (by decide +kernel) rfl
    refine i_h1 (pc' := 21) (j := 5) (lo' := [some (.ref a0), some (.int x1), some (.int x2), some (.int x3), some (.ref a4), none]) (by decide +kernel) rfl ?_ ?_
    · refine i_bl (pc' := 22) [(.iconst 2, 1)] [some (.ref a0), some (.int x1), some (.int x2), some (.int x3), some (.ref a4), none] [.int 2] (by decide +kernel) rfl ?_
      exact i_ri (by decide +kernel) rfl
    exact i_no

/-! 314 LanternChessLaw.isMove(LLanternChess;IIIIII[J)I -/
noncomputable def d_314_24 (s0 : Nat) (s1 : Bool) (s2 : Int32) (m : Mm) : Option (Int32 × Mm) := if ev_in (bi s1) (sh_n s0) = true then (wb (wr m s0 (ix (bi s1)) s2) fun m3 => some (0, m3)) else none
theorem t_314_24 {L nx : Nat} (hN : okn nx) {b z : Nat} {m : Mm} {s0 : Nat} (hs0 : ok nx s0 102) {s1 : Bool} {s2 : Int32} {o0 : Option Value} {o1 : Option Value} {o2 : Option Value} {o3 : Option Value} {o4 : Option Value} {o5 : Option Value} {o6 : Option Value} {o7 : Option Value} : Im (d_314_24 s0 s1 s2 m) (wI L nx) (ev_dn b z 314 24 [o0, o1, o2, o3, o4, o5, o6, o7, none] [.long s2.toInt64, .int (bi s1), .ref s0] (nx, mem L nx m)) := by
  unfold d_314_24
  refine i_ls (y := s2) (pc' := 25) (by decide +kernel) hs0 (fun m3 => ?_)
  refine i_go (t := 36) (off := 11) (by decide +kernel) ?_
  refine i_bl (pc' := 37) [(.iconst 0, 1)] [o0, o1, o2, o3, o4, o5, o6, o7, none] [.int 0] (by decide +kernel) rfl ?_
  exact i_ri (by decide +kernel) rfl

noncomputable def d_314 (a0 : Nat) (x1 : Int32) (x2 : Int32) (x3 : Int32) (x4 : Int32) (x5 : Int32) (x6 : Int32) (a7 : Nat) (m : Mm) : Option (Int32 × Mm) := bE (d_128 a0 x1 x2 x3 x4 x5 x6 m) (fun v2 m1 => if v2 = true then (d_314_24 a7 false 1 m1) else (d_314_24 a7 false 0 m1)) (fun e4 m1 => if e4 = 1 then (some (1, m1)) else if e4 = 0 then (some (2, m1)) else none)
theorem t_314 {L nx : Nat} (hN : okn nx) {b z : Nat} (hb : 4 ≤ b) (hz : 24 ≤ z) {m : Mm} {a0 : Nat} (h0 : ok nx a0 10) {a7 : Nat} (h7 : ok nx a7 102) {x1 : Int32} {x2 : Int32} {x3 : Int32} {x4 : Int32} {x5 : Int32} {x6 : Int32}  : Im (d_314 a0 x1 x2 x3 x4 x5 x6 a7 m) (wI L nx) (ev_dn b z 314 0 [some (.ref a0), some (.int x1), some (.int x2), some (.int x3), some (.int x4), some (.int x5), some (.int x6), some (.ref a7), none] [] (nx, mem L nx m)) := by
  unfold d_314
  refine i_bl (pc' := 13) [(.aload 7, 2), (.iconst 0, 1), (.aload_n 0, 1), (.iload_n 1, 1), (.iload_n 2, 1), (.iload_n 3, 1), (.iload 4, 2), (.iload 5, 2), (.iload 6, 2)] [some (.ref a0), some (.int x1), some (.int x2), some (.int x3), some (.int x4), some (.int x5), some (.int x6), some (.ref a7), none] [.int x6, .int x5, .int x4, .int x3, .int x2, .int x1, .ref a0, .int 0, .ref a7] (by decide +kernel) rfl ?_
  refine i_ev (ci := 10) (t := 128) (na := 7) (ml := 7) (idx := 24) (pc' := 16) (st' := [.int 0, .ref a7]) (en := [some (.ref a0), some (.int x1), some (.int x2), some (.int x3), some (.int x4), some (.int x5), some (.int x6)]) (av := [.int x1, .int x2, .int x3, .int x4, .int x5, .int x6]) (k1 := 4) (k2 := 24) (vo := fun v => some (.int (bi v))) (s2 := fun v => .int (bi v) :: [.int 0, .ref a7]) (by decide +kernel) (by decide +kernel) h0 ⟨rfl, rfl, rfl, rfl, rfl, rfl⟩ ⟨by omega, by omega⟩ (fun _ => rfl) (t_128 hN (b := 4) (z := 24) (by decide) (by decide) (h0 := h0)) (fun v2 m1 => ?_) (fun e4 m1 => ?_)
  · refine i_bz (off := 7) (t := 23) (pc' := 19) (by decide +kernel) ?_ ?_
    · refine i_bl (pc' := 20) [(.lconst 1, 1)] [some (.ref a0), some (.int x1), some (.int x2), some (.int x3), some (.int x4), some (.int x5), some (.int x6), some (.ref a7), none] [.long (1 : Int32).toInt64, .int 0, .ref a7] (by decide +kernel) rfl ?_
      refine i_go (t := 24) (off := 4) (by decide +kernel) ?_
      exact t_314_24 hN (hs0 := h7)
    · refine i_bl (pc' := 24) [(.lconst 0, 1)] [some (.ref a0), some (.int x1), some (.int x2), some (.int x3), some (.int x4), some (.int x5), some (.int x6), some (.ref a7), none] [.long (0 : Int32).toInt64, .int 0, .ref a7] (by decide +kernel) rfl ?_
      exact t_314_24 hN (hs0 := h7)
  · refine i_h1 (pc' := 30) (j := 8) (lo' := [some (.ref a0), some (.int x1), some (.int x2), some (.int x3), some (.int x4), some (.int x5), some (.int x6), some (.ref a7), none]) (by decide +kernel) rfl ?_ ?_
    · refine i_bl (pc' := 31) [(.iconst 1, 1)] [some (.ref a0), some (.int x1), some (.int x2), some (.int x3), some (.int x4), some (.int x5), some (.int x6), some (.ref a7), none] [.int 1] (by decide +kernel) rfl ?_
      exact i_ri (by decide +kernel) rfl
    refine i_h1 (pc' := 34) (j := 8) (lo' := [some (.ref a0), some (.int x1), some (.int x2), some (.int x3), some (.int x4), some (.int x5), some (.int x6), some (.ref a7), none]) (by decide +kernel) rfl ?_ ?_
    · refine i_bl (pc' := 35) [(.iconst 2, 1)] [some (.ref a0), some (.int x1), some (.int x2), some (.int x3), some (.int x4), some (.int x5), some (.int x6), some (.ref a7), none] [.int 2] (by decide +kernel) rfl ?_
      exact i_ri (by decide +kernel) rfl
    exact i_no

/-! 315 LanternChessLaw.moves(LLanternChess;II[J)I -/
noncomputable def d_315 (a0 : Nat) (x1 : Int32) (x2 : Int32) (a3 : Nat) (m : Mm) : Option (Int32 × Mm) := bE (d_129 a0 x1 x2 m) (fun v2 m1 => if ev_in 0 (sh_n a3) = true then (wb (wr m1 a3 (ix 0) v2) fun m3 => some (0, m3)) else none) (fun e4 m1 => if e4 = 1 then (some (1, m1)) else none)
theorem t_315 {L nx : Nat} (hN : okn nx) {b z : Nat} (hb : 2 ≤ b) (hz : 12 ≤ z) {m : Mm} {a0 : Nat} (h0 : ok nx a0 10) {a3 : Nat} (h3 : ok nx a3 102) {x1 : Int32} {x2 : Int32}  : Im (d_315 a0 x1 x2 a3 m) (wI L nx) (ev_dn b z 315 0 [some (.ref a0), some (.int x1), some (.int x2), some (.ref a3), none] [] (nx, mem L nx m)) := by
  unfold d_315
  refine i_bl (pc' := 5) [(.aload_n 3, 1), (.iconst 0, 1), (.aload_n 0, 1), (.iload_n 1, 1), (.iload_n 2, 1)] [some (.ref a0), some (.int x1), some (.int x2), some (.ref a3), none] [.int x2, .int x1, .ref a0, .int 0, .ref a3] (by decide +kernel) rfl ?_
  refine i_ev (ci := 10) (t := 129) (na := 3) (ml := 3) (idx := 28) (pc' := 8) (st' := [.int 0, .ref a3]) (en := [some (.ref a0), some (.int x1), some (.int x2)]) (av := [.int x1, .int x2]) (k1 := 2) (k2 := 12) (vo := fun v => some (.int v)) (s2 := fun v => .int v :: [.int 0, .ref a3]) (by decide +kernel) (by decide +kernel) h0 ⟨rfl, rfl, rfl, rfl, rfl, rfl⟩ ⟨by omega, by omega⟩ (fun _ => rfl) (t_129 hN (b := 2) (z := 12) (by decide) (by decide) (h0 := h0)) (fun v2 m1 => ?_) (fun e4 m1 => ?_)
  · refine i_bl (pc' := 9) [(.i2l, 1)] [some (.ref a0), some (.int x1), some (.int x2), some (.ref a3), none] [.long v2.toInt64, .int 0, .ref a3] (by decide +kernel) rfl ?_
    refine i_ls (y := v2) (pc' := 10) (by decide +kernel) h3 (fun m3 => ?_)
    refine i_go (t := 17) (off := 7) (by decide +kernel) ?_
    refine i_bl (pc' := 18) [(.iconst 0, 1)] [some (.ref a0), some (.int x1), some (.int x2), some (.ref a3), none] [.int 0] (by decide +kernel) rfl ?_
    exact i_ri (by decide +kernel) rfl
  · refine i_h1 (pc' := 15) (j := 4) (lo' := [some (.ref a0), some (.int x1), some (.int x2), some (.ref a3), none]) (by decide +kernel) rfl ?_ ?_
    · refine i_bl (pc' := 16) [(.iconst 1, 1)] [some (.ref a0), some (.int x1), some (.int x2), some (.ref a3), none] [.int 1] (by decide +kernel) rfl ?_
      exact i_ri (by decide +kernel) rfl
    exact i_no

/-! 316 LanternChessLaw.move(LLanternChess;IIII[J)I -/
noncomputable def d_316 (a0 : Nat) (x1 : Int32) (x2 : Int32) (x3 : Int32) (x4 : Int32) (a5 : Nat) (m : Mm) : Option (Int32 × Mm) := bE (d_130 a0 x1 x2 x3 x4 m) (fun v2 m1 => if ev_in 0 (sh_n a5) = true then (wb (wr m1 a5 (ix 0) v2) fun m3 => some (0, m3)) else none) (fun e4 m1 => if e4 = 1 then (some (1, m1)) else if e4 = 0 then (some (2, m1)) else none)
theorem t_316 {L nx : Nat} (hN : okn nx) {b z : Nat} (hb : 4 ≤ b) (hz : 24 ≤ z) {m : Mm} {a0 : Nat} (h0 : ok nx a0 10) {a5 : Nat} (h5 : ok nx a5 102) {x1 : Int32} {x2 : Int32} {x3 : Int32} {x4 : Int32}  : Im (d_316 a0 x1 x2 x3 x4 a5 m) (wI L nx) (ev_dn b z 316 0 [some (.ref a0), some (.int x1), some (.int x2), some (.int x3), some (.int x4), some (.ref a5), none] [] (nx, mem L nx m)) := by
  unfold d_316
  refine i_bl (pc' := 9) [(.aload 5, 2), (.iconst 0, 1), (.aload_n 0, 1), (.iload_n 1, 1), (.iload_n 2, 1), (.iload_n 3, 1), (.iload 4, 2)] [some (.ref a0), some (.int x1), some (.int x2), some (.int x3), some (.int x4), some (.ref a5), none] [.int x4, .int x3, .int x2, .int x1, .ref a0, .int 0, .ref a5] (by decide +kernel) rfl ?_
  refine i_ev (ci := 10) (t := 130) (na := 5) (ml := 6) (idx := 32) (pc' := 12) (st' := [.int 0, .ref a5]) (en := [some (.ref a0), some (.int x1), some (.int x2), some (.int x3), some (.int x4), none]) (av := [.int x1, .int x2, .int x3, .int x4]) (k1 := 4) (k2 := 24) (vo := fun v => some (.int v)) (s2 := fun v => .int v :: [.int 0, .ref a5]) (by decide +kernel) (by decide +kernel) h0 ⟨rfl, rfl, rfl, rfl, rfl, rfl⟩ ⟨by omega, by omega⟩ (fun _ => rfl) (t_130 hN (b := 4) (z := 24) (by decide) (by decide) (h0 := h0)) (fun v2 m1 => ?_) (fun e4 m1 => ?_)
  · refine i_bl (pc' := 13) [(.i2l, 1)] [some (.ref a0), some (.int x1), some (.int x2), some (.int x3), some (.int x4), some (.ref a5), none] [.long v2.toInt64, .int 0, .ref a5] (by decide +kernel) rfl ?_
    refine i_ls (y := v2) (pc' := 14) (by decide +kernel) h5 (fun m3 => ?_)
    refine i_go (t := 25) (off := 11) (by decide +kernel) ?_
    refine i_bl (pc' := 26) [(.iconst 0, 1)] [some (.ref a0), some (.int x1), some (.int x2), some (.int x3), some (.int x4), some (.ref a5), none] [.int 0] (by decide +kernel) rfl ?_
    exact i_ri (by decide +kernel) rfl
  · refine i_h1 (pc' := 19) (j := 6) (lo' := [some (.ref a0), some (.int x1), some (.int x2), some (.int x3), some (.int x4), some (.ref a5), none]) (by decide +kernel) rfl ?_ ?_
    · refine i_bl (pc' := 20) [(.iconst 1, 1)] [some (.ref a0), some (.int x1), some (.int x2), some (.int x3), some (.int x4), some (.ref a5), none] [.int 1] (by decide +kernel) rfl ?_
      exact i_ri (by decide +kernel) rfl
    refine i_h1 (pc' := 23) (j := 6) (lo' := [some (.ref a0), some (.int x1), some (.int x2), some (.int x3), some (.int x4), some (.ref a5), none]) (by decide +kernel) rfl ?_ ?_
    · refine i_bl (pc' := 24) [(.iconst 2, 1)] [some (.ref a0), some (.int x1), some (.int x2), some (.int x3), some (.int x4), some (.ref a5), none] [.int 2] (by decide +kernel) rfl ?_
      exact i_ri (by decide +kernel) rfl
    exact i_no

/-! 317 LanternChessLaw.ranked(LLanternChess;II[J)I -/
noncomputable def d_317 (a0 : Nat) (x1 : Int32) (x2 : Int32) (a3 : Nat) (m : Mm) : Option (Int32 × Mm) := bE (d_131 a0 x1 x2 m) (fun v2 m1 => if ev_in 0 (sh_n a3) = true then (wb (wr m1 a3 (ix 0) v2) fun m3 => some (0, m3)) else none) (fun e4 m1 => if e4 = 1 then (some (1, m1)) else if e4 = 0 then (some (2, m1)) else none)
theorem t_317 {L nx : Nat} (hN : okn nx) {b z : Nat} (hb : 2 ≤ b) (hz : 12 ≤ z) {m : Mm} {a0 : Nat} (h0 : ok nx a0 10) {a3 : Nat} (h3 : ok nx a3 102) {x1 : Int32} {x2 : Int32}  : Im (d_317 a0 x1 x2 a3 m) (wI L nx) (ev_dn b z 317 0 [some (.ref a0), some (.int x1), some (.int x2), some (.ref a3), none] [] (nx, mem L nx m)) := by
  unfold d_317
  refine i_bl (pc' := 5) [(.aload_n 3, 1), (.iconst 0, 1), (.aload_n 0, 1), (.iload_n 1, 1), (.iload_n 2, 1)] [some (.ref a0), some (.int x1), some (.int x2), some (.ref a3), none] [.int x2, .int x1, .ref a0, .int 0, .ref a3] (by decide +kernel) rfl ?_
  refine i_ev (ci := 10) (t := 131) (na := 3) (ml := 4) (idx := 36) (pc' := 8) (st' := [.int 0, .ref a3]) (en := [some (.ref a0), some (.int x1), some (.int x2), none]) (av := [.int x1, .int x2]) (k1 := 2) (k2 := 12) (vo := fun v => some (.int v)) (s2 := fun v => .int v :: [.int 0, .ref a3]) (by decide +kernel) (by decide +kernel) h0 ⟨rfl, rfl, rfl, rfl, rfl, rfl⟩ ⟨by omega, by omega⟩ (fun _ => rfl) (t_131 hN (b := 2) (z := 12) (by decide) (by decide) (h0 := h0)) (fun v2 m1 => ?_) (fun e4 m1 => ?_)
  · refine i_bl (pc' := 9) [(.i2l, 1)] [some (.ref a0), some (.int x1), some (.int x2), some (.ref a3), none] [.long v2.toInt64, .int 0, .ref a3] (by decide +kernel) rfl ?_
    refine i_ls (y := v2) (pc' := 10) (by decide +kernel) h3 (fun m3 => ?_)
    refine i_go (t := 21) (off := 11) (by decide +kernel) ?_
    refine i_bl (pc' := 22) [(.iconst 0, 1)] [some (.ref a0), some (.int x1), some (.int x2), some (.ref a3), none] [.int 0] (by decide +kernel) rfl ?_
    exact i_ri (by decide +kernel) rfl
  · refine i_h1 (pc' := 15) (j := 4) (lo' := [some (.ref a0), some (.int x1), some (.int x2), some (.ref a3), none]) (by decide +kernel) rfl ?_ ?_
    · refine i_bl (pc' := 16) [(.iconst 1, 1)] [some (.ref a0), some (.int x1), some (.int x2), some (.ref a3), none] [.int 1] (by decide +kernel) rfl ?_
      exact i_ri (by decide +kernel) rfl
    refine i_h1 (pc' := 19) (j := 4) (lo' := [some (.ref a0), some (.int x1), some (.int x2), some (.ref a3), none]) (by decide +kernel) rfl ?_ ?_
    · refine i_bl (pc' := 20) [(.iconst 2, 1)] [some (.ref a0), some (.int x1), some (.int x2), some (.ref a3), none] [.int 2] (by decide +kernel) rfl ?_
      exact i_ri (by decide +kernel) rfl
    exact i_no

/-! 318 LanternChessLaw.attackers(LLanternChess;IIII[J)I -/
noncomputable def d_318 (a0 : Nat) (x1 : Int32) (x2 : Int32) (x3 : Int32) (x4 : Int32) (a5 : Nat) (m : Mm) : Option (Int32 × Mm) := bE (d_133 a0 x1 x2 x3 x4 m) (fun v2 m1 => if ev_in 0 (sh_n a5) = true then (wb (wr m1 a5 (ix 0) v2) fun m3 => some (0, m3)) else none) (fun e4 m1 => if e4 = 1 then (some (1, m1)) else if e4 = 0 then (some (2, m1)) else none)
theorem t_318 {L nx : Nat} (hN : okn nx) {b z : Nat} (hb : 3 ≤ b) (hz : 18 ≤ z) {m : Mm} {a0 : Nat} (h0 : ok nx a0 10) {a5 : Nat} (h5 : ok nx a5 102) {x1 : Int32} {x2 : Int32} {x3 : Int32} {x4 : Int32}  : Im (d_318 a0 x1 x2 x3 x4 a5 m) (wI L nx) (ev_dn b z 318 0 [some (.ref a0), some (.int x1), some (.int x2), some (.int x3), some (.int x4), some (.ref a5), none] [] (nx, mem L nx m)) := by
  unfold d_318
  refine i_bl (pc' := 9) [(.aload 5, 2), (.iconst 0, 1), (.aload_n 0, 1), (.iload_n 1, 1), (.iload_n 2, 1), (.iload_n 3, 1), (.iload 4, 2)] [some (.ref a0), some (.int x1), some (.int x2), some (.int x3), some (.int x4), some (.ref a5), none] [.int x4, .int x3, .int x2, .int x1, .ref a0, .int 0, .ref a5] (by decide +kernel) rfl ?_
  refine i_ev (ci := 10) (t := 133) (na := 5) (ml := 5) (idx := 39) (pc' := 12) (st' := [.int 0, .ref a5]) (en := [some (.ref a0), some (.int x1), some (.int x2), some (.int x3), some (.int x4)]) (av := [.int x1, .int x2, .int x3, .int x4]) (k1 := 3) (k2 := 18) (vo := fun v => some (.int v)) (s2 := fun v => .int v :: [.int 0, .ref a5]) (by decide +kernel) (by decide +kernel) h0 ⟨rfl, rfl, rfl, rfl, rfl, rfl⟩ ⟨by omega, by omega⟩ (fun _ => rfl) (t_133 hN (b := 3) (z := 18) (by decide) (by decide) (h0 := h0)) (fun v2 m1 => ?_) (fun e4 m1 => ?_)
  · refine i_bl (pc' := 13) [(.i2l, 1)] [some (.ref a0), some (.int x1), some (.int x2), some (.int x3), some (.int x4), some (.ref a5), none] [.long v2.toInt64, .int 0, .ref a5] (by decide +kernel) rfl ?_
    refine i_ls (y := v2) (pc' := 14) (by decide +kernel) h5 (fun m3 => ?_)
    refine i_go (t := 25) (off := 11) (by decide +kernel) ?_
    refine i_bl (pc' := 26) [(.iconst 0, 1)] [some (.ref a0), some (.int x1), some (.int x2), some (.int x3), some (.int x4), some (.ref a5), none] [.int 0] (by decide +kernel) rfl ?_
    exact i_ri (by decide +kernel) rfl
  · refine i_h1 (pc' := 19) (j := 6) (lo' := [some (.ref a0), some (.int x1), some (.int x2), some (.int x3), some (.int x4), some (.ref a5), none]) (by decide +kernel) rfl ?_ ?_
    · refine i_bl (pc' := 20) [(.iconst 1, 1)] [some (.ref a0), some (.int x1), some (.int x2), some (.int x3), some (.int x4), some (.ref a5), none] [.int 1] (by decide +kernel) rfl ?_
      exact i_ri (by decide +kernel) rfl
    refine i_h1 (pc' := 23) (j := 6) (lo' := [some (.ref a0), some (.int x1), some (.int x2), some (.int x3), some (.int x4), some (.ref a5), none]) (by decide +kernel) rfl ?_ ?_
    · refine i_bl (pc' := 24) [(.iconst 2, 1)] [some (.ref a0), some (.int x1), some (.int x2), some (.int x3), some (.int x4), some (.ref a5), none] [.int 2] (by decide +kernel) rfl ?_
      exact i_ri (by decide +kernel) rfl
    exact i_no

/-! 319 LanternChessLaw.isInCheck(LLanternChess;II[J)I -/
noncomputable def d_319_16 (s0 : Nat) (s1 : Bool) (s2 : Int32) (m : Mm) : Option (Int32 × Mm) := if ev_in (bi s1) (sh_n s0) = true then (wb (wr m s0 (ix (bi s1)) s2) fun m3 => some (0, m3)) else none
theorem t_319_16 {L nx : Nat} (hN : okn nx) {b z : Nat} {m : Mm} {s0 : Nat} (hs0 : ok nx s0 102) {s1 : Bool} {s2 : Int32} {o0 : Option Value} {o1 : Option Value} {o2 : Option Value} {o3 : Option Value} : Im (d_319_16 s0 s1 s2 m) (wI L nx) (ev_dn b z 319 16 [o0, o1, o2, o3, none] [.long s2.toInt64, .int (bi s1), .ref s0] (nx, mem L nx m)) := by
  unfold d_319_16
  refine i_ls (y := s2) (pc' := 17) (by decide +kernel) hs0 (fun m3 => ?_)
  refine i_go (t := 24) (off := 7) (by decide +kernel) ?_
  refine i_bl (pc' := 25) [(.iconst 0, 1)] [o0, o1, o2, o3, none] [.int 0] (by decide +kernel) rfl ?_
  exact i_ri (by decide +kernel) rfl

noncomputable def d_319 (a0 : Nat) (x1 : Int32) (x2 : Int32) (a3 : Nat) (m : Mm) : Option (Int32 × Mm) := bE (d_134 a0 x1 x2 m) (fun v2 m1 => if v2 = true then (d_319_16 a3 false 1 m1) else (d_319_16 a3 false 0 m1)) (fun e4 m1 => if e4 = 1 then (some (1, m1)) else none)
theorem t_319 {L nx : Nat} (hN : okn nx) {b z : Nat} (hb : 2 ≤ b) (hz : 12 ≤ z) {m : Mm} {a0 : Nat} (h0 : ok nx a0 10) {a3 : Nat} (h3 : ok nx a3 102) {x1 : Int32} {x2 : Int32}  : Im (d_319 a0 x1 x2 a3 m) (wI L nx) (ev_dn b z 319 0 [some (.ref a0), some (.int x1), some (.int x2), some (.ref a3), none] [] (nx, mem L nx m)) := by
  unfold d_319
  refine i_bl (pc' := 5) [(.aload_n 3, 1), (.iconst 0, 1), (.aload_n 0, 1), (.iload_n 1, 1), (.iload_n 2, 1)] [some (.ref a0), some (.int x1), some (.int x2), some (.ref a3), none] [.int x2, .int x1, .ref a0, .int 0, .ref a3] (by decide +kernel) rfl ?_
  refine i_ev (ci := 10) (t := 134) (na := 3) (ml := 3) (idx := 42) (pc' := 8) (st' := [.int 0, .ref a3]) (en := [some (.ref a0), some (.int x1), some (.int x2)]) (av := [.int x1, .int x2]) (k1 := 2) (k2 := 12) (vo := fun v => some (.int (bi v))) (s2 := fun v => .int (bi v) :: [.int 0, .ref a3]) (by decide +kernel) (by decide +kernel) h0 ⟨rfl, rfl, rfl, rfl, rfl, rfl⟩ ⟨by omega, by omega⟩ (fun _ => rfl) (t_134 hN (b := 2) (z := 12) (by decide) (by decide) (h0 := h0)) (fun v2 m1 => ?_) (fun e4 m1 => ?_)
  · refine i_bz (off := 7) (t := 15) (pc' := 11) (by decide +kernel) ?_ ?_
    · refine i_bl (pc' := 12) [(.lconst 1, 1)] [some (.ref a0), some (.int x1), some (.int x2), some (.ref a3), none] [.long (1 : Int32).toInt64, .int 0, .ref a3] (by decide +kernel) rfl ?_
      refine i_go (t := 16) (off := 4) (by decide +kernel) ?_
      exact t_319_16 hN (hs0 := h3)
    · refine i_bl (pc' := 16) [(.lconst 0, 1)] [some (.ref a0), some (.int x1), some (.int x2), some (.ref a3), none] [.long (0 : Int32).toInt64, .int 0, .ref a3] (by decide +kernel) rfl ?_
      exact t_319_16 hN (hs0 := h3)
  · refine i_h1 (pc' := 22) (j := 4) (lo' := [some (.ref a0), some (.int x1), some (.int x2), some (.ref a3), none]) (by decide +kernel) rfl ?_ ?_
    · refine i_bl (pc' := 23) [(.iconst 1, 1)] [some (.ref a0), some (.int x1), some (.int x2), some (.ref a3), none] [.int 1] (by decide +kernel) rfl ?_
      exact i_ri (by decide +kernel) rfl
    exact i_no

/-! 320 LanternChessLaw.material(LLanternChess;II[J)I -/
noncomputable def d_320 (a0 : Nat) (x1 : Int32) (x2 : Int32) (a3 : Nat) (m : Mm) : Option (Int32 × Mm) := bE (d_135 a0 x1 x2 m) (fun v2 m1 => if ev_in 0 (sh_n a3) = true then (wb (wr m1 a3 (ix 0) v2) fun m3 => some (0, m3)) else none) (fun e4 m1 => if e4 = 1 then (some (1, m1)) else none)
theorem t_320 {L nx : Nat} (hN : okn nx) {b z : Nat} (hb : 2 ≤ b) (hz : 12 ≤ z) {m : Mm} {a0 : Nat} (h0 : ok nx a0 10) {a3 : Nat} (h3 : ok nx a3 102) {x1 : Int32} {x2 : Int32}  : Im (d_320 a0 x1 x2 a3 m) (wI L nx) (ev_dn b z 320 0 [some (.ref a0), some (.int x1), some (.int x2), some (.ref a3), none] [] (nx, mem L nx m)) := by
  unfold d_320
  refine i_bl (pc' := 5) [(.aload_n 3, 1), (.iconst 0, 1), (.aload_n 0, 1), (.iload_n 1, 1), (.iload_n 2, 1)] [some (.ref a0), some (.int x1), some (.int x2), some (.ref a3), none] [.int x2, .int x1, .ref a0, .int 0, .ref a3] (by decide +kernel) rfl ?_
  refine i_ev (ci := 10) (t := 135) (na := 3) (ml := 3) (idx := 46) (pc' := 8) (st' := [.int 0, .ref a3]) (en := [some (.ref a0), some (.int x1), some (.int x2)]) (av := [.int x1, .int x2]) (k1 := 2) (k2 := 12) (vo := fun v => some (.int v)) (s2 := fun v => .int v :: [.int 0, .ref a3]) (by decide +kernel) (by decide +kernel) h0 ⟨rfl, rfl, rfl, rfl, rfl, rfl⟩ ⟨by omega, by omega⟩ (fun _ => rfl) (t_135 hN (b := 2) (z := 12) (by decide) (by decide) (h0 := h0)) (fun v2 m1 => ?_) (fun e4 m1 => ?_)
  · refine i_bl (pc' := 9) [(.i2l, 1)] [some (.ref a0), some (.int x1), some (.int x2), some (.ref a3), none] [.long v2.toInt64, .int 0, .ref a3] (by decide +kernel) rfl ?_
    refine i_ls (y := v2) (pc' := 10) (by decide +kernel) h3 (fun m3 => ?_)
    refine i_go (t := 17) (off := 7) (by decide +kernel) ?_
    refine i_bl (pc' := 18) [(.iconst 0, 1)] [some (.ref a0), some (.int x1), some (.int x2), some (.ref a3), none] [.int 0] (by decide +kernel) rfl ?_
    exact i_ri (by decide +kernel) rfl
  · refine i_h1 (pc' := 15) (j := 4) (lo' := [some (.ref a0), some (.int x1), some (.int x2), some (.ref a3), none]) (by decide +kernel) rfl ?_ ?_
    · refine i_bl (pc' := 16) [(.iconst 1, 1)] [some (.ref a0), some (.int x1), some (.int x2), some (.ref a3), none] [.int 1] (by decide +kernel) rfl ?_
      exact i_ri (by decide +kernel) rfl
    exact i_no

/-! 321 LanternChessLaw.sum(LLanternChess;I[J)I -/
noncomputable def d_321 (a0 : Nat) (x1 : Int32) (a2 : Nat) (m : Mm) : Option (Int32 × Mm) := bE (d_136 a0 x1 m) (fun v2 m1 => if ev_in 0 (sh_n a2) = true then (wb (wr m1 a2 (ix 0) v2) fun m3 => some (0, m3)) else none) (fun e4 m1 => if e4 = 1 then (some (1, m1)) else none)
theorem t_321 {L nx : Nat} (hN : okn nx) {b z : Nat} (hb : 1 ≤ b) (hz : 6 ≤ z) {m : Mm} {a0 : Nat} (h0 : ok nx a0 10) {a2 : Nat} (h2 : ok nx a2 102) {x1 : Int32}  : Im (d_321 a0 x1 a2 m) (wI L nx) (ev_dn b z 321 0 [some (.ref a0), some (.int x1), some (.ref a2), none] [] (nx, mem L nx m)) := by
  unfold d_321
  refine i_bl (pc' := 4) [(.aload_n 2, 1), (.iconst 0, 1), (.aload_n 0, 1), (.iload_n 1, 1)] [some (.ref a0), some (.int x1), some (.ref a2), none] [.int x1, .ref a0, .int 0, .ref a2] (by decide +kernel) rfl ?_
  refine i_ev (ci := 10) (t := 136) (na := 2) (ml := 2) (idx := 49) (pc' := 7) (st' := [.int 0, .ref a2]) (en := [some (.ref a0), some (.int x1)]) (av := [.int x1]) (k1 := 1) (k2 := 6) (vo := fun v => some (.int v)) (s2 := fun v => .int v :: [.int 0, .ref a2]) (by decide +kernel) (by decide +kernel) h0 ⟨rfl, rfl, rfl, rfl, rfl, rfl⟩ ⟨by omega, by omega⟩ (fun _ => rfl) (t_136 hN (b := 1) (z := 6) (by decide) (by decide) (h0 := h0)) (fun v2 m1 => ?_) (fun e4 m1 => ?_)
  · refine i_bl (pc' := 8) [(.i2l, 1)] [some (.ref a0), some (.int x1), some (.ref a2), none] [.long v2.toInt64, .int 0, .ref a2] (by decide +kernel) rfl ?_
    refine i_ls (y := v2) (pc' := 9) (by decide +kernel) h2 (fun m3 => ?_)
    refine i_go (t := 15) (off := 6) (by decide +kernel) ?_
    refine i_bl (pc' := 16) [(.iconst 0, 1)] [some (.ref a0), some (.int x1), some (.ref a2), none] [.int 0] (by decide +kernel) rfl ?_
    exact i_ri (by decide +kernel) rfl
  · refine i_h1 (pc' := 13) (j := 3) (lo' := [some (.ref a0), some (.int x1), some (.ref a2), none]) (by decide +kernel) rfl ?_ ?_
    · refine i_bl (pc' := 14) [(.iconst 1, 1)] [some (.ref a0), some (.int x1), some (.ref a2), none] [.int 1] (by decide +kernel) rfl ?_
      exact i_ri (by decide +kernel) rfl
    exact i_no

/-! 322 LanternChessLaw.differ(LLanternChess;I[J)I -/
noncomputable def d_322 (a0 : Nat) (x1 : Int32) (a2 : Nat) (m : Mm) : Option (Int32 × Mm) := bE (d_137 a0 x1 m) (fun v2 m1 => if ev_in 0 (sh_n a2) = true then (wb (wr m1 a2 (ix 0) v2) fun m3 => some (0, m3)) else none) (fun e4 m1 => if e4 = 0 then (some (1, m1)) else none)
theorem t_322 {L nx : Nat} (hN : okn nx) {b z : Nat} (hb : 1 ≤ b) (hz : 6 ≤ z) {m : Mm} {a0 : Nat} (h0 : ok nx a0 10) {a2 : Nat} (h2 : ok nx a2 102) {x1 : Int32}  : Im (d_322 a0 x1 a2 m) (wI L nx) (ev_dn b z 322 0 [some (.ref a0), some (.int x1), some (.ref a2), none] [] (nx, mem L nx m)) := by
  unfold d_322
  refine i_bl (pc' := 4) [(.aload_n 2, 1), (.iconst 0, 1), (.aload_n 0, 1), (.iload_n 1, 1)] [some (.ref a0), some (.int x1), some (.ref a2), none] [.int x1, .ref a0, .int 0, .ref a2] (by decide +kernel) rfl ?_
  refine i_ev (ci := 10) (t := 137) (na := 2) (ml := 2) (idx := 52) (pc' := 7) (st' := [.int 0, .ref a2]) (en := [some (.ref a0), some (.int x1)]) (av := [.int x1]) (k1 := 1) (k2 := 6) (vo := fun v => some (.int v)) (s2 := fun v => .int v :: [.int 0, .ref a2]) (by decide +kernel) (by decide +kernel) h0 ⟨rfl, rfl, rfl, rfl, rfl, rfl⟩ ⟨by omega, by omega⟩ (fun _ => rfl) (t_137 hN (b := 1) (z := 6) (by decide) (by decide) (h0 := h0)) (fun v2 m1 => ?_) (fun e4 m1 => ?_)
  · refine i_bl (pc' := 8) [(.i2l, 1)] [some (.ref a0), some (.int x1), some (.ref a2), none] [.long v2.toInt64, .int 0, .ref a2] (by decide +kernel) rfl ?_
    refine i_ls (y := v2) (pc' := 9) (by decide +kernel) h2 (fun m3 => ?_)
    refine i_go (t := 15) (off := 6) (by decide +kernel) ?_
    refine i_bl (pc' := 16) [(.iconst 0, 1)] [some (.ref a0), some (.int x1), some (.ref a2), none] [.int 0] (by decide +kernel) rfl ?_
    exact i_ri (by decide +kernel) rfl
  · refine i_h1 (pc' := 13) (j := 3) (lo' := [some (.ref a0), some (.int x1), some (.ref a2), none]) (by decide +kernel) rfl ?_ ?_
    · refine i_bl (pc' := 14) [(.iconst 1, 1)] [some (.ref a0), some (.int x1), some (.ref a2), none] [.int 1] (by decide +kernel) rfl ?_
      exact i_ri (by decide +kernel) rfl
    exact i_no

/-! 323 LanternChessLaw.fewestMoves(LLanternChess;IIIII[J)I -/
noncomputable def d_323 (a0 : Nat) (x1 : Int32) (x2 : Int32) (x3 : Int32) (x4 : Int32) (x5 : Int32) (a6 : Nat) (m : Mm) : Option (Int32 × Mm) := bE (d_138 a0 x1 x2 x3 x4 x5 m) (fun v2 m1 => if ev_in 0 (sh_n a6) = true then (wb (wr m1 a6 (ix 0) v2) fun m3 => some (0, m3)) else none) (fun e4 m1 => if e4 = 1 then (some (1, m1)) else if e4 = 0 then (some (2, m1)) else none)
theorem t_323 {L nx : Nat} (hN : okn nx) {b z : Nat} (hb : 3 ≤ b) (hz : 18 ≤ z) {m : Mm} {a0 : Nat} (h0 : ok nx a0 10) {a6 : Nat} (h6 : ok nx a6 102) {x1 : Int32} {x2 : Int32} {x3 : Int32} {x4 : Int32} {x5 : Int32}  : Im (d_323 a0 x1 x2 x3 x4 x5 a6 m) (wI L nx) (ev_dn b z 323 0 [some (.ref a0), some (.int x1), some (.int x2), some (.int x3), some (.int x4), some (.int x5), some (.ref a6), none] [] (nx, mem L nx m)) := by
  unfold d_323
  refine i_bl (pc' := 11) [(.aload 6, 2), (.iconst 0, 1), (.aload_n 0, 1), (.iload_n 1, 1), (.iload_n 2, 1), (.iload_n 3, 1), (.iload 4, 2), (.iload 5, 2)] [some (.ref a0), some (.int x1), some (.int x2), some (.int x3), some (.int x4), some (.int x5), some (.ref a6), none] [.int x5, .int x4, .int x3, .int x2, .int x1, .ref a0, .int 0, .ref a6] (by decide +kernel) rfl ?_
  refine i_ev (ci := 10) (t := 138) (na := 6) (ml := 6) (idx := 55) (pc' := 14) (st' := [.int 0, .ref a6]) (en := [some (.ref a0), some (.int x1), some (.int x2), some (.int x3), some (.int x4), some (.int x5)]) (av := [.int x1, .int x2, .int x3, .int x4, .int x5]) (k1 := 3) (k2 := 18) (vo := fun v => some (.int v)) (s2 := fun v => .int v :: [.int 0, .ref a6]) (by decide +kernel) (by decide +kernel) h0 ⟨rfl, rfl, rfl, rfl, rfl, rfl⟩ ⟨by omega, by omega⟩ (fun _ => rfl) (t_138 hN (b := 3) (z := 18) (by decide) (by decide) (h0 := h0)) (fun v2 m1 => ?_) (fun e4 m1 => ?_)
  · refine i_bl (pc' := 15) [(.i2l, 1)] [some (.ref a0), some (.int x1), some (.int x2), some (.int x3), some (.int x4), some (.int x5), some (.ref a6), none] [.long v2.toInt64, .int 0, .ref a6] (by decide +kernel) rfl ?_
    refine i_ls (y := v2) (pc' := 16) (by decide +kernel) h6 (fun m3 => ?_)
    refine i_go (t := 27) (off := 11) (by decide +kernel) ?_
    refine i_bl (pc' := 28) [(.iconst 0, 1)] [some (.ref a0), some (.int x1), some (.int x2), some (.int x3), some (.int x4), some (.int x5), some (.ref a6), none] [.int 0] (by decide +kernel) rfl ?_
    exact i_ri (by decide +kernel) rfl
  · refine i_h1 (pc' := 21) (j := 7) (lo' := [some (.ref a0), some (.int x1), some (.int x2), some (.int x3), some (.int x4), some (.int x5), some (.ref a6), none]) (by decide +kernel) rfl ?_ ?_
    · refine i_bl (pc' := 22) [(.iconst 1, 1)] [some (.ref a0), some (.int x1), some (.int x2), some (.int x3), some (.int x4), some (.int x5), some (.ref a6), none] [.int 1] (by decide +kernel) rfl ?_
      exact i_ri (by decide +kernel) rfl
    refine i_h1 (pc' := 25) (j := 7) (lo' := [some (.ref a0), some (.int x1), some (.int x2), some (.int x3), some (.int x4), some (.int x5), some (.ref a6), none]) (by decide +kernel) rfl ?_ ?_
    · refine i_bl (pc' := 26) [(.iconst 2, 1)] [some (.ref a0), some (.int x1), some (.int x2), some (.int x3), some (.int x4), some (.int x5), some (.ref a6), none] [.int 2] (by decide +kernel) rfl ?_
      exact i_ri (by decide +kernel) rfl
    exact i_no

/-! 324 LanternChessLaw.isHidden(LLanternChess;I[J)I -/
noncomputable def d_324_15 (s0 : Nat) (s1 : Bool) (s2 : Int32) (m : Mm) : Option (Int32 × Mm) := if ev_in (bi s1) (sh_n s0) = true then (wb (wr m s0 (ix (bi s1)) s2) fun m3 => some (0, m3)) else none
theorem t_324_15 {L nx : Nat} (hN : okn nx) {b z : Nat} {m : Mm} {s0 : Nat} (hs0 : ok nx s0 102) {s1 : Bool} {s2 : Int32} {o0 : Option Value} {o1 : Option Value} {o2 : Option Value} : Im (d_324_15 s0 s1 s2 m) (wI L nx) (ev_dn b z 324 15 [o0, o1, o2, none] [.long s2.toInt64, .int (bi s1), .ref s0] (nx, mem L nx m)) := by
  unfold d_324_15
  refine i_ls (y := s2) (pc' := 16) (by decide +kernel) hs0 (fun m3 => ?_)
  refine i_go (t := 22) (off := 6) (by decide +kernel) ?_
  refine i_bl (pc' := 23) [(.iconst 0, 1)] [o0, o1, o2, none] [.int 0] (by decide +kernel) rfl ?_
  exact i_ri (by decide +kernel) rfl

noncomputable def d_324 (a0 : Nat) (x1 : Int32) (a2 : Nat) (m : Mm) : Option (Int32 × Mm) := bE (d_139 a0 x1 m) (fun v2 m1 => if v2 = true then (d_324_15 a2 false 1 m1) else (d_324_15 a2 false 0 m1)) (fun e4 m1 => if e4 = 0 then (some (1, m1)) else none)
theorem t_324 {L nx : Nat} (hN : okn nx) {b z : Nat} (hb : 1 ≤ b) (hz : 6 ≤ z) {m : Mm} {a0 : Nat} (h0 : ok nx a0 10) {a2 : Nat} (h2 : ok nx a2 102) {x1 : Int32}  : Im (d_324 a0 x1 a2 m) (wI L nx) (ev_dn b z 324 0 [some (.ref a0), some (.int x1), some (.ref a2), none] [] (nx, mem L nx m)) := by
  unfold d_324
  refine i_bl (pc' := 4) [(.aload_n 2, 1), (.iconst 0, 1), (.aload_n 0, 1), (.iload_n 1, 1)] [some (.ref a0), some (.int x1), some (.ref a2), none] [.int x1, .ref a0, .int 0, .ref a2] (by decide +kernel) rfl ?_
  refine i_ev (ci := 10) (t := 139) (na := 2) (ml := 2) (idx := 59) (pc' := 7) (st' := [.int 0, .ref a2]) (en := [some (.ref a0), some (.int x1)]) (av := [.int x1]) (k1 := 1) (k2 := 6) (vo := fun v => some (.int (bi v))) (s2 := fun v => .int (bi v) :: [.int 0, .ref a2]) (by decide +kernel) (by decide +kernel) h0 ⟨rfl, rfl, rfl, rfl, rfl, rfl⟩ ⟨by omega, by omega⟩ (fun _ => rfl) (t_139 hN (b := 1) (z := 6) (by decide) (by decide) (h0 := h0)) (fun v2 m1 => ?_) (fun e4 m1 => ?_)
  · refine i_bz (off := 7) (t := 14) (pc' := 10) (by decide +kernel) ?_ ?_
    · refine i_bl (pc' := 11) [(.lconst 1, 1)] [some (.ref a0), some (.int x1), some (.ref a2), none] [.long (1 : Int32).toInt64, .int 0, .ref a2] (by decide +kernel) rfl ?_
      refine i_go (t := 15) (off := 4) (by decide +kernel) ?_
      exact t_324_15 hN (hs0 := h2)
    · refine i_bl (pc' := 15) [(.lconst 0, 1)] [some (.ref a0), some (.int x1), some (.ref a2), none] [.long (0 : Int32).toInt64, .int 0, .ref a2] (by decide +kernel) rfl ?_
      exact t_324_15 hN (hs0 := h2)
  · refine i_h1 (pc' := 20) (j := 3) (lo' := [some (.ref a0), some (.int x1), some (.ref a2), none]) (by decide +kernel) rfl ?_ ?_
    · refine i_bl (pc' := 21) [(.iconst 1, 1)] [some (.ref a0), some (.int x1), some (.ref a2), none] [.int 1] (by decide +kernel) rfl ?_
      exact i_ri (by decide +kernel) rfl
    exact i_no

/-! 325 LanternChessLaw.hiddenTicks(LLanternChess;II[J)I -/
noncomputable def d_325 (a0 : Nat) (x1 : Int32) (x2 : Int32) (a3 : Nat) (m : Mm) : Option (Int32 × Mm) := bE (d_140 a0 x1 x2 m) (fun v2 m1 => if ev_in 0 (sh_n a3) = true then (wb (wr m1 a3 (ix 0) v2) fun m3 => some (0, m3)) else none) (fun e4 m1 => if e4 = 0 then (some (1, m1)) else none)
theorem t_325 {L nx : Nat} (hN : okn nx) {b z : Nat} (hb : 2 ≤ b) (hz : 12 ≤ z) {m : Mm} {a0 : Nat} (h0 : ok nx a0 10) {a3 : Nat} (h3 : ok nx a3 102) {x1 : Int32} {x2 : Int32}  : Im (d_325 a0 x1 x2 a3 m) (wI L nx) (ev_dn b z 325 0 [some (.ref a0), some (.int x1), some (.int x2), some (.ref a3), none] [] (nx, mem L nx m)) := by
  unfold d_325
  refine i_bl (pc' := 5) [(.aload_n 3, 1), (.iconst 0, 1), (.aload_n 0, 1), (.iload_n 1, 1), (.iload_n 2, 1)] [some (.ref a0), some (.int x1), some (.int x2), some (.ref a3), none] [.int x2, .int x1, .ref a0, .int 0, .ref a3] (by decide +kernel) rfl ?_
  refine i_ev (ci := 10) (t := 140) (na := 3) (ml := 3) (idx := 63) (pc' := 8) (st' := [.int 0, .ref a3]) (en := [some (.ref a0), some (.int x1), some (.int x2)]) (av := [.int x1, .int x2]) (k1 := 2) (k2 := 12) (vo := fun v => some (.int v)) (s2 := fun v => .int v :: [.int 0, .ref a3]) (by decide +kernel) (by decide +kernel) h0 ⟨rfl, rfl, rfl, rfl, rfl, rfl⟩ ⟨by omega, by omega⟩ (fun _ => rfl) (t_140 hN (b := 2) (z := 12) (by decide) (by decide) (h0 := h0)) (fun v2 m1 => ?_) (fun e4 m1 => ?_)
  · refine i_bl (pc' := 9) [(.i2l, 1)] [some (.ref a0), some (.int x1), some (.int x2), some (.ref a3), none] [.long v2.toInt64, .int 0, .ref a3] (by decide +kernel) rfl ?_
    refine i_ls (y := v2) (pc' := 10) (by decide +kernel) h3 (fun m3 => ?_)
    refine i_go (t := 17) (off := 7) (by decide +kernel) ?_
    refine i_bl (pc' := 18) [(.iconst 0, 1)] [some (.ref a0), some (.int x1), some (.int x2), some (.ref a3), none] [.int 0] (by decide +kernel) rfl ?_
    exact i_ri (by decide +kernel) rfl
  · refine i_h1 (pc' := 15) (j := 4) (lo' := [some (.ref a0), some (.int x1), some (.int x2), some (.ref a3), none]) (by decide +kernel) rfl ?_ ?_
    · refine i_bl (pc' := 16) [(.iconst 1, 1)] [some (.ref a0), some (.int x1), some (.int x2), some (.ref a3), none] [.int 1] (by decide +kernel) rfl ?_
      exact i_ri (by decide +kernel) rfl
    exact i_no

/-! 326 LanternChessLaw.clearFrom(LLanternChess;I[J)I -/
noncomputable def d_326 (a0 : Nat) (x1 : Int32) (a2 : Nat) (m : Mm) : Option (Int32 × Mm) := bE (d_141 a0 x1 m) (fun v2 m1 => if ev_in 0 (sh_n a2) = true then (wb (wr m1 a2 (ix 0) v2) fun m3 => some (0, m3)) else none) (fun e4 m1 => if e4 = 0 then (some (1, m1)) else none)
theorem t_326 {L nx : Nat} (hN : okn nx) {b z : Nat} (hb : 1 ≤ b) (hz : 6 ≤ z) {m : Mm} {a0 : Nat} (h0 : ok nx a0 10) {a2 : Nat} (h2 : ok nx a2 102) {x1 : Int32}  : Im (d_326 a0 x1 a2 m) (wI L nx) (ev_dn b z 326 0 [some (.ref a0), some (.int x1), some (.ref a2), none] [] (nx, mem L nx m)) := by
  unfold d_326
  refine i_bl (pc' := 4) [(.aload_n 2, 1), (.iconst 0, 1), (.aload_n 0, 1), (.iload_n 1, 1)] [some (.ref a0), some (.int x1), some (.ref a2), none] [.int x1, .ref a0, .int 0, .ref a2] (by decide +kernel) rfl ?_
  refine i_ev (ci := 10) (t := 141) (na := 2) (ml := 2) (idx := 66) (pc' := 7) (st' := [.int 0, .ref a2]) (en := [some (.ref a0), some (.int x1)]) (av := [.int x1]) (k1 := 1) (k2 := 6) (vo := fun v => some (.int v)) (s2 := fun v => .int v :: [.int 0, .ref a2]) (by decide +kernel) (by decide +kernel) h0 ⟨rfl, rfl, rfl, rfl, rfl, rfl⟩ ⟨by omega, by omega⟩ (fun _ => rfl) (t_141 hN (b := 1) (z := 6) (by decide) (by decide) (h0 := h0)) (fun v2 m1 => ?_) (fun e4 m1 => ?_)
  · refine i_bl (pc' := 8) [(.i2l, 1)] [some (.ref a0), some (.int x1), some (.ref a2), none] [.long v2.toInt64, .int 0, .ref a2] (by decide +kernel) rfl ?_
    refine i_ls (y := v2) (pc' := 9) (by decide +kernel) h2 (fun m3 => ?_)
    refine i_go (t := 15) (off := 6) (by decide +kernel) ?_
    refine i_bl (pc' := 16) [(.iconst 0, 1)] [some (.ref a0), some (.int x1), some (.ref a2), none] [.int 0] (by decide +kernel) rfl ?_
    exact i_ri (by decide +kernel) rfl
  · refine i_h1 (pc' := 13) (j := 3) (lo' := [some (.ref a0), some (.int x1), some (.ref a2), none]) (by decide +kernel) rfl ?_ ?_
    · refine i_bl (pc' := 14) [(.iconst 1, 1)] [some (.ref a0), some (.int x1), some (.ref a2), none] [.int 1] (by decide +kernel) rfl ?_
      exact i_ri (by decide +kernel) rfl
    exact i_no

/-! 327 LanternChessLaw.fog(LLanternChess;II[J)I -/
noncomputable def d_327 (a0 : Nat) (x1 : Int32) (x2 : Int32) (a3 : Nat) (m : Mm) : Option (Int32 × Mm) := bE (d_142 a0 x1 x2 m) (fun v2 m1 => if ev_in 0 (sh_n a3) = true then (wb (wr m1 a3 (ix 0) v2) fun m3 => some (0, m3)) else none) (fun e4 m1 => if e4 = 1 then (some (1, m1)) else if e4 = 0 then (some (2, m1)) else none)
theorem t_327 {L nx : Nat} (hN : okn nx) {b z : Nat} (hb : 2 ≤ b) (hz : 12 ≤ z) {m : Mm} {a0 : Nat} (h0 : ok nx a0 10) {a3 : Nat} (h3 : ok nx a3 102) {x1 : Int32} {x2 : Int32}  : Im (d_327 a0 x1 x2 a3 m) (wI L nx) (ev_dn b z 327 0 [some (.ref a0), some (.int x1), some (.int x2), some (.ref a3), none] [] (nx, mem L nx m)) := by
  unfold d_327
  refine i_bl (pc' := 5) [(.aload_n 3, 1), (.iconst 0, 1), (.aload_n 0, 1), (.iload_n 1, 1), (.iload_n 2, 1)] [some (.ref a0), some (.int x1), some (.int x2), some (.ref a3), none] [.int x2, .int x1, .ref a0, .int 0, .ref a3] (by decide +kernel) rfl ?_
  refine i_ev (ci := 10) (t := 142) (na := 3) (ml := 3) (idx := 69) (pc' := 8) (st' := [.int 0, .ref a3]) (en := [some (.ref a0), some (.int x1), some (.int x2)]) (av := [.int x1, .int x2]) (k1 := 2) (k2 := 12) (vo := fun v => some (.int v)) (s2 := fun v => .int v :: [.int 0, .ref a3]) (by decide +kernel) (by decide +kernel) h0 ⟨rfl, rfl, rfl, rfl, rfl, rfl⟩ ⟨by omega, by omega⟩ (fun _ => rfl) (t_142 hN (b := 2) (z := 12) (by decide) (by decide) (h0 := h0)) (fun v2 m1 => ?_) (fun e4 m1 => ?_)
  · refine i_bl (pc' := 9) [(.i2l, 1)] [some (.ref a0), some (.int x1), some (.int x2), some (.ref a3), none] [.long v2.toInt64, .int 0, .ref a3] (by decide +kernel) rfl ?_
    refine i_ls (y := v2) (pc' := 10) (by decide +kernel) h3 (fun m3 => ?_)
    refine i_go (t := 21) (off := 11) (by decide +kernel) ?_
    refine i_bl (pc' := 22) [(.iconst 0, 1)] [some (.ref a0), some (.int x1), some (.int x2), some (.ref a3), none] [.int 0] (by decide +kernel) rfl ?_
    exact i_ri (by decide +kernel) rfl
  · refine i_h1 (pc' := 15) (j := 4) (lo' := [some (.ref a0), some (.int x1), some (.int x2), some (.ref a3), none]) (by decide +kernel) rfl ?_ ?_
    · refine i_bl (pc' := 16) [(.iconst 1, 1)] [some (.ref a0), some (.int x1), some (.int x2), some (.ref a3), none] [.int 1] (by decide +kernel) rfl ?_
      exact i_ri (by decide +kernel) rfl
    refine i_h1 (pc' := 19) (j := 4) (lo' := [some (.ref a0), some (.int x1), some (.int x2), some (.ref a3), none]) (by decide +kernel) rfl ?_ ?_
    · refine i_bl (pc' := 20) [(.iconst 2, 1)] [some (.ref a0), some (.int x1), some (.int x2), some (.ref a3), none] [.int 2] (by decide +kernel) rfl ?_
      exact i_ri (by decide +kernel) rfl
    exact i_no

/-! 328 LanternChessLaw.group(LLanternChess;IIIII[J)I -/
noncomputable def d_328 (a0 : Nat) (x1 : Int32) (x2 : Int32) (x3 : Int32) (x4 : Int32) (x5 : Int32) (a6 : Nat) (m : Mm) : Option (Int32 × Mm) := bE (d_143 a0 x1 x2 x3 x4 x5 m) (fun v2 m1 => if ev_in 0 (sh_n a6) = true then (wb (wr m1 a6 (ix 0) v2) fun m3 => some (0, m3)) else none) (fun e4 m1 => if e4 = 1 then (some (1, m1)) else if e4 = 0 then (some (2, m1)) else none)
theorem t_328 {L nx : Nat} (hN : okn nx) {b z : Nat} (hb : 3 ≤ b) (hz : 18 ≤ z) {m : Mm} {a0 : Nat} (h0 : ok nx a0 10) {a6 : Nat} (h6 : ok nx a6 102) {x1 : Int32} {x2 : Int32} {x3 : Int32} {x4 : Int32} {x5 : Int32}  : Im (d_328 a0 x1 x2 x3 x4 x5 a6 m) (wI L nx) (ev_dn b z 328 0 [some (.ref a0), some (.int x1), some (.int x2), some (.int x3), some (.int x4), some (.int x5), some (.ref a6), none] [] (nx, mem L nx m)) := by
  unfold d_328
  refine i_bl (pc' := 11) [(.aload 6, 2), (.iconst 0, 1), (.aload_n 0, 1), (.iload_n 1, 1), (.iload_n 2, 1), (.iload_n 3, 1), (.iload 4, 2), (.iload 5, 2)] [some (.ref a0), some (.int x1), some (.int x2), some (.int x3), some (.int x4), some (.int x5), some (.ref a6), none] [.int x5, .int x4, .int x3, .int x2, .int x1, .ref a0, .int 0, .ref a6] (by decide +kernel) rfl ?_
  refine i_ev (ci := 10) (t := 143) (na := 6) (ml := 6) (idx := 72) (pc' := 14) (st' := [.int 0, .ref a6]) (en := [some (.ref a0), some (.int x1), some (.int x2), some (.int x3), some (.int x4), some (.int x5)]) (av := [.int x1, .int x2, .int x3, .int x4, .int x5]) (k1 := 3) (k2 := 18) (vo := fun v => some (.int v)) (s2 := fun v => .int v :: [.int 0, .ref a6]) (by decide +kernel) (by decide +kernel) h0 ⟨rfl, rfl, rfl, rfl, rfl, rfl⟩ ⟨by omega, by omega⟩ (fun _ => rfl) (t_143 hN (b := 3) (z := 18) (by decide) (by decide) (h0 := h0)) (fun v2 m1 => ?_) (fun e4 m1 => ?_)
  · refine i_bl (pc' := 15) [(.i2l, 1)] [some (.ref a0), some (.int x1), some (.int x2), some (.int x3), some (.int x4), some (.int x5), some (.ref a6), none] [.long v2.toInt64, .int 0, .ref a6] (by decide +kernel) rfl ?_
    refine i_ls (y := v2) (pc' := 16) (by decide +kernel) h6 (fun m3 => ?_)
    refine i_go (t := 27) (off := 11) (by decide +kernel) ?_
    refine i_bl (pc' := 28) [(.iconst 0, 1)] [some (.ref a0), some (.int x1), some (.int x2), some (.int x3), some (.int x4), some (.int x5), some (.ref a6), none] [.int 0] (by decide +kernel) rfl ?_
    exact i_ri (by decide +kernel) rfl
  · refine i_h1 (pc' := 21) (j := 7) (lo' := [some (.ref a0), some (.int x1), some (.int x2), some (.int x3), some (.int x4), some (.int x5), some (.ref a6), none]) (by decide +kernel) rfl ?_ ?_
    · refine i_bl (pc' := 22) [(.iconst 1, 1)] [some (.ref a0), some (.int x1), some (.int x2), some (.int x3), some (.int x4), some (.int x5), some (.ref a6), none] [.int 1] (by decide +kernel) rfl ?_
      exact i_ri (by decide +kernel) rfl
    refine i_h1 (pc' := 25) (j := 7) (lo' := [some (.ref a0), some (.int x1), some (.int x2), some (.int x3), some (.int x4), some (.int x5), some (.ref a6), none]) (by decide +kernel) rfl ?_ ?_
    · refine i_bl (pc' := 26) [(.iconst 2, 1)] [some (.ref a0), some (.int x1), some (.int x2), some (.int x3), some (.int x4), some (.int x5), some (.ref a6), none] [.int 2] (by decide +kernel) rfl ?_
      exact i_ri (by decide +kernel) rfl
    exact i_no

/-! 329 LanternChessLaw.seenOf(LLanternChess;IIIII[J)I -/
noncomputable def d_329 (a0 : Nat) (x1 : Int32) (x2 : Int32) (x3 : Int32) (x4 : Int32) (x5 : Int32) (a6 : Nat) (m : Mm) : Option (Int32 × Mm) := bE (d_144 a0 x1 x2 x3 x4 x5 m) (fun v2 m1 => if ev_in 0 (sh_n a6) = true then (wb (wr m1 a6 (ix 0) v2) fun m3 => some (0, m3)) else none) (fun e4 m1 => if e4 = 1 then (some (1, m1)) else if e4 = 0 then (some (2, m1)) else none)
theorem t_329 {L nx : Nat} (hN : okn nx) {b z : Nat} (hb : 3 ≤ b) (hz : 18 ≤ z) {m : Mm} {a0 : Nat} (h0 : ok nx a0 10) {a6 : Nat} (h6 : ok nx a6 102) {x1 : Int32} {x2 : Int32} {x3 : Int32} {x4 : Int32} {x5 : Int32}  : Im (d_329 a0 x1 x2 x3 x4 x5 a6 m) (wI L nx) (ev_dn b z 329 0 [some (.ref a0), some (.int x1), some (.int x2), some (.int x3), some (.int x4), some (.int x5), some (.ref a6), none] [] (nx, mem L nx m)) := by
  unfold d_329
  refine i_bl (pc' := 11) [(.aload 6, 2), (.iconst 0, 1), (.aload_n 0, 1), (.iload_n 1, 1), (.iload_n 2, 1), (.iload_n 3, 1), (.iload 4, 2), (.iload 5, 2)] [some (.ref a0), some (.int x1), some (.int x2), some (.int x3), some (.int x4), some (.int x5), some (.ref a6), none] [.int x5, .int x4, .int x3, .int x2, .int x1, .ref a0, .int 0, .ref a6] (by decide +kernel) rfl ?_
  refine i_ev (ci := 10) (t := 144) (na := 6) (ml := 6) (idx := 75) (pc' := 14) (st' := [.int 0, .ref a6]) (en := [some (.ref a0), some (.int x1), some (.int x2), some (.int x3), some (.int x4), some (.int x5)]) (av := [.int x1, .int x2, .int x3, .int x4, .int x5]) (k1 := 3) (k2 := 18) (vo := fun v => some (.int v)) (s2 := fun v => .int v :: [.int 0, .ref a6]) (by decide +kernel) (by decide +kernel) h0 ⟨rfl, rfl, rfl, rfl, rfl, rfl⟩ ⟨by omega, by omega⟩ (fun _ => rfl) (t_144 hN (b := 3) (z := 18) (by decide) (by decide) (h0 := h0)) (fun v2 m1 => ?_) (fun e4 m1 => ?_)
  · refine i_bl (pc' := 15) [(.i2l, 1)] [some (.ref a0), some (.int x1), some (.int x2), some (.int x3), some (.int x4), some (.int x5), some (.ref a6), none] [.long v2.toInt64, .int 0, .ref a6] (by decide +kernel) rfl ?_
    refine i_ls (y := v2) (pc' := 16) (by decide +kernel) h6 (fun m3 => ?_)
    refine i_go (t := 27) (off := 11) (by decide +kernel) ?_
    refine i_bl (pc' := 28) [(.iconst 0, 1)] [some (.ref a0), some (.int x1), some (.int x2), some (.int x3), some (.int x4), some (.int x5), some (.ref a6), none] [.int 0] (by decide +kernel) rfl ?_
    exact i_ri (by decide +kernel) rfl
  · refine i_h1 (pc' := 21) (j := 7) (lo' := [some (.ref a0), some (.int x1), some (.int x2), some (.int x3), some (.int x4), some (.int x5), some (.ref a6), none]) (by decide +kernel) rfl ?_ ?_
    · refine i_bl (pc' := 22) [(.iconst 1, 1)] [some (.ref a0), some (.int x1), some (.int x2), some (.int x3), some (.int x4), some (.int x5), some (.ref a6), none] [.int 1] (by decide +kernel) rfl ?_
      exact i_ri (by decide +kernel) rfl
    refine i_h1 (pc' := 25) (j := 7) (lo' := [some (.ref a0), some (.int x1), some (.int x2), some (.int x3), some (.int x4), some (.int x5), some (.ref a6), none]) (by decide +kernel) rfl ?_ ?_
    · refine i_bl (pc' := 26) [(.iconst 2, 1)] [some (.ref a0), some (.int x1), some (.int x2), some (.int x3), some (.int x4), some (.int x5), some (.ref a6), none] [.int 2] (by decide +kernel) rfl ?_
      exact i_ri (by decide +kernel) rfl
    exact i_no

/-! 330 LanternChessLaw.messageTicks(LLanternChess;IIII[J)I -/
noncomputable def d_330 (a0 : Nat) (x1 : Int32) (x2 : Int32) (x3 : Int32) (x4 : Int32) (a5 : Nat) (m : Mm) : Option (Int32 × Mm) := bE (d_145 a0 x1 x2 x3 x4 m) (fun v2 m1 => if ev_in 0 (sh_n a5) = true then (wb (wr m1 a5 (ix 0) v2) fun m3 => some (0, m3)) else none) (fun e4 m1 => if e4 = 0 then (some (1, m1)) else none)
theorem t_330 {L nx : Nat} (hN : okn nx) {b z : Nat} (hb : 2 ≤ b) (hz : 12 ≤ z) {m : Mm} {a0 : Nat} (h0 : ok nx a0 10) {a5 : Nat} (h5 : ok nx a5 102) {x1 : Int32} {x2 : Int32} {x3 : Int32} {x4 : Int32}  : Im (d_330 a0 x1 x2 x3 x4 a5 m) (wI L nx) (ev_dn b z 330 0 [some (.ref a0), some (.int x1), some (.int x2), some (.int x3), some (.int x4), some (.ref a5), none] [] (nx, mem L nx m)) := by
  unfold d_330
  refine i_bl (pc' := 9) [(.aload 5, 2), (.iconst 0, 1), (.aload_n 0, 1), (.iload_n 1, 1), (.iload_n 2, 1), (.iload_n 3, 1), (.iload 4, 2)] [some (.ref a0), some (.int x1), some (.int x2), some (.int x3), some (.int x4), some (.ref a5), none] [.int x4, .int x3, .int x2, .int x1, .ref a0, .int 0, .ref a5] (by decide +kernel) rfl ?_
  refine i_ev (ci := 10) (t := 145) (na := 5) (ml := 5) (idx := 78) (pc' := 12) (st' := [.int 0, .ref a5]) (en := [some (.ref a0), some (.int x1), some (.int x2), some (.int x3), some (.int x4)]) (av := [.int x1, .int x2, .int x3, .int x4]) (k1 := 2) (k2 := 12) (vo := fun v => some (.int v)) (s2 := fun v => .int v :: [.int 0, .ref a5]) (by decide +kernel) (by decide +kernel) h0 ⟨rfl, rfl, rfl, rfl, rfl, rfl⟩ ⟨by omega, by omega⟩ (fun _ => rfl) (t_145 hN (b := 2) (z := 12) (by decide) (by decide) (h0 := h0)) (fun v2 m1 => ?_) (fun e4 m1 => ?_)
  · refine i_bl (pc' := 13) [(.i2l, 1)] [some (.ref a0), some (.int x1), some (.int x2), some (.int x3), some (.int x4), some (.ref a5), none] [.long v2.toInt64, .int 0, .ref a5] (by decide +kernel) rfl ?_
    refine i_ls (y := v2) (pc' := 14) (by decide +kernel) h5 (fun m3 => ?_)
    refine i_go (t := 21) (off := 7) (by decide +kernel) ?_
    refine i_bl (pc' := 22) [(.iconst 0, 1)] [some (.ref a0), some (.int x1), some (.int x2), some (.int x3), some (.int x4), some (.ref a5), none] [.int 0] (by decide +kernel) rfl ?_
    exact i_ri (by decide +kernel) rfl
  · refine i_h1 (pc' := 19) (j := 6) (lo' := [some (.ref a0), some (.int x1), some (.int x2), some (.int x3), some (.int x4), some (.ref a5), none]) (by decide +kernel) rfl ?_ ?_
    · refine i_bl (pc' := 20) [(.iconst 1, 1)] [some (.ref a0), some (.int x1), some (.int x2), some (.int x3), some (.int x4), some (.ref a5), none] [.int 1] (by decide +kernel) rfl ?_
      exact i_ri (by decide +kernel) rfl
    exact i_no

/-! 331 LanternChessLaw.readsAs(LLanternChess;IIII[J)I -/
noncomputable def d_331 (a0 : Nat) (x1 : Int32) (x2 : Int32) (x3 : Int32) (x4 : Int32) (a5 : Nat) (m : Mm) : Option (Int32 × Mm) := bE (d_146 a0 x1 x2 x3 x4 m) (fun v2 m1 => if ev_in 0 (sh_n a5) = true then (wb (wr m1 a5 (ix 0) v2) fun m3 => some (0, m3)) else none) (fun e4 m1 => if e4 = 0 then (some (1, m1)) else none)
theorem t_331 {L nx : Nat} (hN : okn nx) {b z : Nat} (hb : 2 ≤ b) (hz : 12 ≤ z) {m : Mm} {a0 : Nat} (h0 : ok nx a0 10) {a5 : Nat} (h5 : ok nx a5 102) {x1 : Int32} {x2 : Int32} {x3 : Int32} {x4 : Int32}  : Im (d_331 a0 x1 x2 x3 x4 a5 m) (wI L nx) (ev_dn b z 331 0 [some (.ref a0), some (.int x1), some (.int x2), some (.int x3), some (.int x4), some (.ref a5), none] [] (nx, mem L nx m)) := by
  unfold d_331
  refine i_bl (pc' := 9) [(.aload 5, 2), (.iconst 0, 1), (.aload_n 0, 1), (.iload_n 1, 1), (.iload_n 2, 1), (.iload_n 3, 1), (.iload 4, 2)] [some (.ref a0), some (.int x1), some (.int x2), some (.int x3), some (.int x4), some (.ref a5), none] [.int x4, .int x3, .int x2, .int x1, .ref a0, .int 0, .ref a5] (by decide +kernel) rfl ?_
  refine i_ev (ci := 10) (t := 146) (na := 5) (ml := 5) (idx := 81) (pc' := 12) (st' := [.int 0, .ref a5]) (en := [some (.ref a0), some (.int x1), some (.int x2), some (.int x3), some (.int x4)]) (av := [.int x1, .int x2, .int x3, .int x4]) (k1 := 2) (k2 := 12) (vo := fun v => some (.int v)) (s2 := fun v => .int v :: [.int 0, .ref a5]) (by decide +kernel) (by decide +kernel) h0 ⟨rfl, rfl, rfl, rfl, rfl, rfl⟩ ⟨by omega, by omega⟩ (fun _ => rfl) (t_146 hN (b := 2) (z := 12) (by decide) (by decide) (h0 := h0)) (fun v2 m1 => ?_) (fun e4 m1 => ?_)
  · refine i_bl (pc' := 13) [(.i2l, 1)] [some (.ref a0), some (.int x1), some (.int x2), some (.int x3), some (.int x4), some (.ref a5), none] [.long v2.toInt64, .int 0, .ref a5] (by decide +kernel) rfl ?_
    refine i_ls (y := v2) (pc' := 14) (by decide +kernel) h5 (fun m3 => ?_)
    refine i_go (t := 21) (off := 7) (by decide +kernel) ?_
    refine i_bl (pc' := 22) [(.iconst 0, 1)] [some (.ref a0), some (.int x1), some (.int x2), some (.int x3), some (.int x4), some (.ref a5), none] [.int 0] (by decide +kernel) rfl ?_
    exact i_ri (by decide +kernel) rfl
  · refine i_h1 (pc' := 19) (j := 6) (lo' := [some (.ref a0), some (.int x1), some (.int x2), some (.int x3), some (.int x4), some (.ref a5), none]) (by decide +kernel) rfl ?_ ?_
    · refine i_bl (pc' := 20) [(.iconst 1, 1)] [some (.ref a0), some (.int x1), some (.int x2), some (.int x3), some (.int x4), some (.ref a5), none] [.int 1] (by decide +kernel) rfl ?_
      exact i_ri (by decide +kernel) rfl
    exact i_no

/-! 332 LanternChessLaw.ifPlayed(LLanternChess;IIIII[J)I -/
noncomputable def d_332 (a0 : Nat) (x1 : Int32) (x2 : Int32) (x3 : Int32) (x4 : Int32) (x5 : Int32) (a6 : Nat) (m : Mm) : Option (Int32 × Mm) := bE (d_148 a0 x1 x2 x3 x4 x5 m) (fun v2 m1 => if ev_in 0 (sh_n a6) = true then (wb (wr m1 a6 (ix 0) v2) fun m3 => some (0, m3)) else none) (fun e4 m1 => if e4 = 0 then (some (1, m1)) else if e4 = 2 then (some (2, m1)) else none)
theorem t_332 {L nx : Nat} (hN : okn nx) {b z : Nat} (hb : 4 ≤ b) (hz : 24 ≤ z) {m : Mm} {a0 : Nat} (h0 : ok nx a0 10) {a6 : Nat} (h6 : ok nx a6 102) {x1 : Int32} {x2 : Int32} {x3 : Int32} {x4 : Int32} {x5 : Int32}  : Im (d_332 a0 x1 x2 x3 x4 x5 a6 m) (wI L nx) (ev_dn b z 332 0 [some (.ref a0), some (.int x1), some (.int x2), some (.int x3), some (.int x4), some (.int x5), some (.ref a6), none] [] (nx, mem L nx m)) := by
  unfold d_332
  refine i_bl (pc' := 11) [(.aload 6, 2), (.iconst 0, 1), (.aload_n 0, 1), (.iload_n 1, 1), (.iload_n 2, 1), (.iload_n 3, 1), (.iload 4, 2), (.iload 5, 2)] [some (.ref a0), some (.int x1), some (.int x2), some (.int x3), some (.int x4), some (.int x5), some (.ref a6), none] [.int x5, .int x4, .int x3, .int x2, .int x1, .ref a0, .int 0, .ref a6] (by decide +kernel) rfl ?_
  refine i_ev (ci := 10) (t := 148) (na := 6) (ml := 7) (idx := 84) (pc' := 14) (st' := [.int 0, .ref a6]) (en := [some (.ref a0), some (.int x1), some (.int x2), some (.int x3), some (.int x4), some (.int x5), none]) (av := [.int x1, .int x2, .int x3, .int x4, .int x5]) (k1 := 4) (k2 := 24) (vo := fun v => some (.int v)) (s2 := fun v => .int v :: [.int 0, .ref a6]) (by decide +kernel) (by decide +kernel) h0 ⟨rfl, rfl, rfl, rfl, rfl, rfl⟩ ⟨by omega, by omega⟩ (fun _ => rfl) (t_148 hN (b := 4) (z := 24) (by decide) (by decide) (h0 := h0)) (fun v2 m1 => ?_) (fun e4 m1 => ?_)
  · refine i_bl (pc' := 15) [(.i2l, 1)] [some (.ref a0), some (.int x1), some (.int x2), some (.int x3), some (.int x4), some (.int x5), some (.ref a6), none] [.long v2.toInt64, .int 0, .ref a6] (by decide +kernel) rfl ?_
    refine i_ls (y := v2) (pc' := 16) (by decide +kernel) h6 (fun m3 => ?_)
    refine i_go (t := 27) (off := 11) (by decide +kernel) ?_
    refine i_bl (pc' := 28) [(.iconst 0, 1)] [some (.ref a0), some (.int x1), some (.int x2), some (.int x3), some (.int x4), some (.int x5), some (.ref a6), none] [.int 0] (by decide +kernel) rfl ?_
    exact i_ri (by decide +kernel) rfl
  · refine i_h1 (pc' := 21) (j := 7) (lo' := [some (.ref a0), some (.int x1), some (.int x2), some (.int x3), some (.int x4), some (.int x5), some (.ref a6), none]) (by decide +kernel) rfl ?_ ?_
    · refine i_bl (pc' := 22) [(.iconst 1, 1)] [some (.ref a0), some (.int x1), some (.int x2), some (.int x3), some (.int x4), some (.int x5), some (.ref a6), none] [.int 1] (by decide +kernel) rfl ?_
      exact i_ri (by decide +kernel) rfl
    refine i_h1 (pc' := 25) (j := 7) (lo' := [some (.ref a0), some (.int x1), some (.int x2), some (.int x3), some (.int x4), some (.int x5), some (.ref a6), none]) (by decide +kernel) rfl ?_ ?_
    · refine i_bl (pc' := 26) [(.iconst 2, 1)] [some (.ref a0), some (.int x1), some (.int x2), some (.int x3), some (.int x4), some (.int x5), some (.ref a6), none] [.int 2] (by decide +kernel) rfl ?_
      exact i_ri (by decide +kernel) rfl
    exact i_no

/-! 333 LanternChessLaw.delay(LLanternChess;IIIII[J)I -/
noncomputable def d_333 (a0 : Nat) (x1 : Int32) (x2 : Int32) (x3 : Int32) (x4 : Int32) (x5 : Int32) (a6 : Nat) (m : Mm) : Option (Int32 × Mm) := bE (d_149 a0 x1 x2 x3 x4 x5 m) (fun v2 m1 => if ev_in 0 (sh_n a6) = true then (wb (wr m1 a6 (ix 0) v2) fun m3 => some (0, m3)) else none) (fun e4 m1 => if e4 = 0 then (some (1, m1)) else if e4 = 2 then (some (2, m1)) else none)
theorem t_333 {L nx : Nat} (hN : okn nx) {b z : Nat} (hb : 4 ≤ b) (hz : 24 ≤ z) {m : Mm} {a0 : Nat} (h0 : ok nx a0 10) {a6 : Nat} (h6 : ok nx a6 102) {x1 : Int32} {x2 : Int32} {x3 : Int32} {x4 : Int32} {x5 : Int32}  : Im (d_333 a0 x1 x2 x3 x4 x5 a6 m) (wI L nx) (ev_dn b z 333 0 [some (.ref a0), some (.int x1), some (.int x2), some (.int x3), some (.int x4), some (.int x5), some (.ref a6), none] [] (nx, mem L nx m)) := by
  unfold d_333
  refine i_bl (pc' := 11) [(.aload 6, 2), (.iconst 0, 1), (.aload_n 0, 1), (.iload_n 1, 1), (.iload_n 2, 1), (.iload_n 3, 1), (.iload 4, 2), (.iload 5, 2)] [some (.ref a0), some (.int x1), some (.int x2), some (.int x3), some (.int x4), some (.int x5), some (.ref a6), none] [.int x5, .int x4, .int x3, .int x2, .int x1, .ref a0, .int 0, .ref a6] (by decide +kernel) rfl ?_
  refine i_ev (ci := 10) (t := 149) (na := 6) (ml := 10) (idx := 89) (pc' := 14) (st' := [.int 0, .ref a6]) (en := [some (.ref a0), some (.int x1), some (.int x2), some (.int x3), some (.int x4), some (.int x5), none, none, none, none]) (av := [.int x1, .int x2, .int x3, .int x4, .int x5]) (k1 := 4) (k2 := 24) (vo := fun v => some (.int v)) (s2 := fun v => .int v :: [.int 0, .ref a6]) (by decide +kernel) (by decide +kernel) h0 ⟨rfl, rfl, rfl, rfl, rfl, rfl⟩ ⟨by omega, by omega⟩ (fun _ => rfl) (t_149 hN (b := 4) (z := 24) (by decide) (by decide) (h0 := h0)) (fun v2 m1 => ?_) (fun e4 m1 => ?_)
  · refine i_bl (pc' := 15) [(.i2l, 1)] [some (.ref a0), some (.int x1), some (.int x2), some (.int x3), some (.int x4), some (.int x5), some (.ref a6), none] [.long v2.toInt64, .int 0, .ref a6] (by decide +kernel) rfl ?_
    refine i_ls (y := v2) (pc' := 16) (by decide +kernel) h6 (fun m3 => ?_)
    refine i_go (t := 27) (off := 11) (by decide +kernel) ?_
    refine i_bl (pc' := 28) [(.iconst 0, 1)] [some (.ref a0), some (.int x1), some (.int x2), some (.int x3), some (.int x4), some (.int x5), some (.ref a6), none] [.int 0] (by decide +kernel) rfl ?_
    exact i_ri (by decide +kernel) rfl
  · refine i_h1 (pc' := 21) (j := 7) (lo' := [some (.ref a0), some (.int x1), some (.int x2), some (.int x3), some (.int x4), some (.int x5), some (.ref a6), none]) (by decide +kernel) rfl ?_ ?_
    · refine i_bl (pc' := 22) [(.iconst 1, 1)] [some (.ref a0), some (.int x1), some (.int x2), some (.int x3), some (.int x4), some (.int x5), some (.ref a6), none] [.int 1] (by decide +kernel) rfl ?_
      exact i_ri (by decide +kernel) rfl
    refine i_h1 (pc' := 25) (j := 7) (lo' := [some (.ref a0), some (.int x1), some (.int x2), some (.int x3), some (.int x4), some (.int x5), some (.ref a6), none]) (by decide +kernel) rfl ?_ ?_
    · refine i_bl (pc' := 26) [(.iconst 2, 1)] [some (.ref a0), some (.int x1), some (.int x2), some (.int x3), some (.int x4), some (.int x5), some (.ref a6), none] [.int 2] (by decide +kernel) rfl ?_
      exact i_ri (by decide +kernel) rfl
    exact i_no

/-! 334 LanternChessLaw.sent(LLanternChess;II[J)I -/
noncomputable def d_334 (a0 : Nat) (x1 : Int32) (x2 : Int32) (a3 : Nat) (m : Mm) : Option (Int32 × Mm) := bE (d_150 a0 x1 x2 m) (fun v2 m1 => if ev_in 0 (sh_n a3) = true then (wb (wr m1 a3 (ix 0) v2) fun m3 => some (0, m3)) else none) (fun e4 m1 => if e4 = 1 then (some (1, m1)) else if e4 = 0 then (some (2, m1)) else none)
theorem t_334 {L nx : Nat} (hN : okn nx) {b z : Nat} (hb : 2 ≤ b) (hz : 12 ≤ z) {m : Mm} {a0 : Nat} (h0 : ok nx a0 10) {a3 : Nat} (h3 : ok nx a3 102) {x1 : Int32} {x2 : Int32}  : Im (d_334 a0 x1 x2 a3 m) (wI L nx) (ev_dn b z 334 0 [some (.ref a0), some (.int x1), some (.int x2), some (.ref a3), none] [] (nx, mem L nx m)) := by
  unfold d_334
  refine i_bl (pc' := 5) [(.aload_n 3, 1), (.iconst 0, 1), (.aload_n 0, 1), (.iload_n 1, 1), (.iload_n 2, 1)] [some (.ref a0), some (.int x1), some (.int x2), some (.ref a3), none] [.int x2, .int x1, .ref a0, .int 0, .ref a3] (by decide +kernel) rfl ?_
  refine i_ev (ci := 10) (t := 150) (na := 3) (ml := 3) (idx := 92) (pc' := 8) (st' := [.int 0, .ref a3]) (en := [some (.ref a0), some (.int x1), some (.int x2)]) (av := [.int x1, .int x2]) (k1 := 2) (k2 := 12) (vo := fun v => some (.int v)) (s2 := fun v => .int v :: [.int 0, .ref a3]) (by decide +kernel) (by decide +kernel) h0 ⟨rfl, rfl, rfl, rfl, rfl, rfl⟩ ⟨by omega, by omega⟩ (fun _ => rfl) (t_150 hN (b := 2) (z := 12) (by decide) (by decide) (h0 := h0)) (fun v2 m1 => ?_) (fun e4 m1 => ?_)
  · refine i_bl (pc' := 9) [(.i2l, 1)] [some (.ref a0), some (.int x1), some (.int x2), some (.ref a3), none] [.long v2.toInt64, .int 0, .ref a3] (by decide +kernel) rfl ?_
    refine i_ls (y := v2) (pc' := 10) (by decide +kernel) h3 (fun m3 => ?_)
    refine i_go (t := 21) (off := 11) (by decide +kernel) ?_
    refine i_bl (pc' := 22) [(.iconst 0, 1)] [some (.ref a0), some (.int x1), some (.int x2), some (.ref a3), none] [.int 0] (by decide +kernel) rfl ?_
    exact i_ri (by decide +kernel) rfl
  · refine i_h1 (pc' := 15) (j := 4) (lo' := [some (.ref a0), some (.int x1), some (.int x2), some (.ref a3), none]) (by decide +kernel) rfl ?_ ?_
    · refine i_bl (pc' := 16) [(.iconst 1, 1)] [some (.ref a0), some (.int x1), some (.int x2), some (.ref a3), none] [.int 1] (by decide +kernel) rfl ?_
      exact i_ri (by decide +kernel) rfl
    refine i_h1 (pc' := 19) (j := 4) (lo' := [some (.ref a0), some (.int x1), some (.int x2), some (.ref a3), none]) (by decide +kernel) rfl ?_ ?_
    · refine i_bl (pc' := 20) [(.iconst 2, 1)] [some (.ref a0), some (.int x1), some (.int x2), some (.ref a3), none] [.int 2] (by decide +kernel) rfl ?_
      exact i_ri (by decide +kernel) rfl
    exact i_no

/-! 335 LanternChessLaw.made(LLanternChess;II[J)I -/
noncomputable def d_335 (a0 : Nat) (x1 : Int32) (x2 : Int32) (a3 : Nat) (m : Mm) : Option (Int32 × Mm) := bE (d_151 a0 x1 x2 m) (fun v2 m1 => if ev_in 0 (sh_n a3) = true then (wb (wr m1 a3 (ix 0) v2) fun m3 => some (0, m3)) else none) (fun e4 m1 => if e4 = 1 then (some (1, m1)) else if e4 = 0 then (some (2, m1)) else none)
theorem t_335 {L nx : Nat} (hN : okn nx) {b z : Nat} (hb : 2 ≤ b) (hz : 12 ≤ z) {m : Mm} {a0 : Nat} (h0 : ok nx a0 10) {a3 : Nat} (h3 : ok nx a3 102) {x1 : Int32} {x2 : Int32}  : Im (d_335 a0 x1 x2 a3 m) (wI L nx) (ev_dn b z 335 0 [some (.ref a0), some (.int x1), some (.int x2), some (.ref a3), none] [] (nx, mem L nx m)) := by
  unfold d_335
  refine i_bl (pc' := 5) [(.aload_n 3, 1), (.iconst 0, 1), (.aload_n 0, 1), (.iload_n 1, 1), (.iload_n 2, 1)] [some (.ref a0), some (.int x1), some (.int x2), some (.ref a3), none] [.int x2, .int x1, .ref a0, .int 0, .ref a3] (by decide +kernel) rfl ?_
  refine i_ev (ci := 10) (t := 151) (na := 3) (ml := 4) (idx := 95) (pc' := 8) (st' := [.int 0, .ref a3]) (en := [some (.ref a0), some (.int x1), some (.int x2), none]) (av := [.int x1, .int x2]) (k1 := 2) (k2 := 12) (vo := fun v => some (.int v)) (s2 := fun v => .int v :: [.int 0, .ref a3]) (by decide +kernel) (by decide +kernel) h0 ⟨rfl, rfl, rfl, rfl, rfl, rfl⟩ ⟨by omega, by omega⟩ (fun _ => rfl) (t_151 hN (b := 2) (z := 12) (by decide) (by decide) (h0 := h0)) (fun v2 m1 => ?_) (fun e4 m1 => ?_)
  · refine i_bl (pc' := 9) [(.i2l, 1)] [some (.ref a0), some (.int x1), some (.int x2), some (.ref a3), none] [.long v2.toInt64, .int 0, .ref a3] (by decide +kernel) rfl ?_
    refine i_ls (y := v2) (pc' := 10) (by decide +kernel) h3 (fun m3 => ?_)
    refine i_go (t := 21) (off := 11) (by decide +kernel) ?_
    refine i_bl (pc' := 22) [(.iconst 0, 1)] [some (.ref a0), some (.int x1), some (.int x2), some (.ref a3), none] [.int 0] (by decide +kernel) rfl ?_
    exact i_ri (by decide +kernel) rfl
  · refine i_h1 (pc' := 15) (j := 4) (lo' := [some (.ref a0), some (.int x1), some (.int x2), some (.ref a3), none]) (by decide +kernel) rfl ?_ ?_
    · refine i_bl (pc' := 16) [(.iconst 1, 1)] [some (.ref a0), some (.int x1), some (.int x2), some (.ref a3), none] [.int 1] (by decide +kernel) rfl ?_
      exact i_ri (by decide +kernel) rfl
    refine i_h1 (pc' := 19) (j := 4) (lo' := [some (.ref a0), some (.int x1), some (.int x2), some (.ref a3), none]) (by decide +kernel) rfl ?_ ?_
    · refine i_bl (pc' := 20) [(.iconst 2, 1)] [some (.ref a0), some (.int x1), some (.int x2), some (.ref a3), none] [.int 2] (by decide +kernel) rfl ?_
      exact i_ri (by decide +kernel) rfl
    exact i_no

/-! 336 LanternChessLaw.play(LLanternChess;IIII[J)I -/
noncomputable def d_336 (a0 : Nat) (x1 : Int32) (x2 : Int32) (x3 : Int32) (x4 : Int32) (a5 : Nat) (m : Mm) : Option (Int32 × Mm) := bE (d_154 a0 x1 x2 x3 x4 m) (fun v2 m1 => if ev_in 0 (sh_n a5) = true then (wb (wr m1 a5 (ix 0) v2) fun m3 => some (0, m3)) else none) (fun e4 m1 => if e4 = 0 then (some (1, m1)) else if e4 = 2 then (some (2, m1)) else none)
theorem t_336 {L nx : Nat} (hN : okn nx) {b z : Nat} (hb : 3 ≤ b) (hz : 18 ≤ z) {m : Mm} {a0 : Nat} (h0 : ok nx a0 10) {a5 : Nat} (h5 : ok nx a5 102) {x1 : Int32} {x2 : Int32} {x3 : Int32} {x4 : Int32}  : Im (d_336 a0 x1 x2 x3 x4 a5 m) (wI L nx) (ev_dn b z 336 0 [some (.ref a0), some (.int x1), some (.int x2), some (.int x3), some (.int x4), some (.ref a5), none] [] (nx, mem L nx m)) := by
  unfold d_336
  refine i_bl (pc' := 9) [(.aload 5, 2), (.iconst 0, 1), (.aload_n 0, 1), (.iload_n 1, 1), (.iload_n 2, 1), (.iload_n 3, 1), (.iload 4, 2)] [some (.ref a0), some (.int x1), some (.int x2), some (.int x3), some (.int x4), some (.ref a5), none] [.int x4, .int x3, .int x2, .int x1, .ref a0, .int 0, .ref a5] (by decide +kernel) rfl ?_
  refine i_ev (ci := 10) (t := 154) (na := 5) (ml := 7) (idx := 98) (pc' := 12) (st' := [.int 0, .ref a5]) (en := [some (.ref a0), some (.int x1), some (.int x2), some (.int x3), some (.int x4), none, none]) (av := [.int x1, .int x2, .int x3, .int x4]) (k1 := 3) (k2 := 18) (vo := fun v => some (.int v)) (s2 := fun v => .int v :: [.int 0, .ref a5]) (by decide +kernel) (by decide +kernel) h0 ⟨rfl, rfl, rfl, rfl, rfl, rfl⟩ ⟨by omega, by omega⟩ (fun _ => rfl) (t_154 hN (b := 3) (z := 18) (by decide) (by decide) (h0 := h0)) (fun v2 m1 => ?_) (fun e4 m1 => ?_)
  · refine i_bl (pc' := 13) [(.i2l, 1)] [some (.ref a0), some (.int x1), some (.int x2), some (.int x3), some (.int x4), some (.ref a5), none] [.long v2.toInt64, .int 0, .ref a5] (by decide +kernel) rfl ?_
    refine i_ls (y := v2) (pc' := 14) (by decide +kernel) h5 (fun m3 => ?_)
    refine i_go (t := 25) (off := 11) (by decide +kernel) ?_
    refine i_bl (pc' := 26) [(.iconst 0, 1)] [some (.ref a0), some (.int x1), some (.int x2), some (.int x3), some (.int x4), some (.ref a5), none] [.int 0] (by decide +kernel) rfl ?_
    exact i_ri (by decide +kernel) rfl
  · refine i_h1 (pc' := 19) (j := 6) (lo' := [some (.ref a0), some (.int x1), some (.int x2), some (.int x3), some (.int x4), some (.ref a5), none]) (by decide +kernel) rfl ?_ ?_
    · refine i_bl (pc' := 20) [(.iconst 1, 1)] [some (.ref a0), some (.int x1), some (.int x2), some (.int x3), some (.int x4), some (.ref a5), none] [.int 1] (by decide +kernel) rfl ?_
      exact i_ri (by decide +kernel) rfl
    refine i_h1 (pc' := 23) (j := 6) (lo' := [some (.ref a0), some (.int x1), some (.int x2), some (.int x3), some (.int x4), some (.ref a5), none]) (by decide +kernel) rfl ?_ ?_
    · refine i_bl (pc' := 24) [(.iconst 2, 1)] [some (.ref a0), some (.int x1), some (.int x2), some (.int x3), some (.int x4), some (.ref a5), none] [.int 2] (by decide +kernel) rfl ?_
      exact i_ri (by decide +kernel) rfl
    exact i_no

/-! 337 LanternChessLaw.think(LLanternChess;I[J)I -/
noncomputable def d_337 (a0 : Nat) (x1 : Int32) (a2 : Nat) (m : Mm) : Option (Int32 × Mm) := bE (d_155 a0 x1 m) (fun v2 m1 => if ev_in 0 (sh_n a2) = true then (wb (wr m1 a2 (ix 0) v2) fun m3 => some (0, m3)) else none) (fun e4 m1 => if e4 = 0 then (some (1, m1)) else if e4 = 2 then (some (2, m1)) else none)
theorem t_337 {L nx : Nat} (hN : okn nx) {b z : Nat} (hb : 2 ≤ b) (hz : 12 ≤ z) {m : Mm} {a0 : Nat} (h0 : ok nx a0 10) {a2 : Nat} (h2 : ok nx a2 102) {x1 : Int32}  : Im (d_337 a0 x1 a2 m) (wI L nx) (ev_dn b z 337 0 [some (.ref a0), some (.int x1), some (.ref a2), none] [] (nx, mem L nx m)) := by
  unfold d_337
  refine i_bl (pc' := 4) [(.aload_n 2, 1), (.iconst 0, 1), (.aload_n 0, 1), (.iload_n 1, 1)] [some (.ref a0), some (.int x1), some (.ref a2), none] [.int x1, .ref a0, .int 0, .ref a2] (by decide +kernel) rfl ?_
  refine i_ev (ci := 10) (t := 155) (na := 2) (ml := 2) (idx := 101) (pc' := 7) (st' := [.int 0, .ref a2]) (en := [some (.ref a0), some (.int x1)]) (av := [.int x1]) (k1 := 2) (k2 := 12) (vo := fun v => some (.int v)) (s2 := fun v => .int v :: [.int 0, .ref a2]) (by decide +kernel) (by decide +kernel) h0 ⟨rfl, rfl, rfl, rfl, rfl, rfl⟩ ⟨by omega, by omega⟩ (fun _ => rfl) (t_155 hN (b := 2) (z := 12) (by decide) (by decide) (h0 := h0)) (fun v2 m1 => ?_) (fun e4 m1 => ?_)
  · refine i_bl (pc' := 8) [(.i2l, 1)] [some (.ref a0), some (.int x1), some (.ref a2), none] [.long v2.toInt64, .int 0, .ref a2] (by decide +kernel) rfl ?_
    refine i_ls (y := v2) (pc' := 9) (by decide +kernel) h2 (fun m3 => ?_)
    refine i_go (t := 18) (off := 9) (by decide +kernel) ?_
    refine i_bl (pc' := 19) [(.iconst 0, 1)] [some (.ref a0), some (.int x1), some (.ref a2), none] [.int 0] (by decide +kernel) rfl ?_
    exact i_ri (by decide +kernel) rfl
  · refine i_h1 (pc' := 13) (j := 3) (lo' := [some (.ref a0), some (.int x1), some (.ref a2), none]) (by decide +kernel) rfl ?_ ?_
    · refine i_bl (pc' := 14) [(.iconst 1, 1)] [some (.ref a0), some (.int x1), some (.ref a2), none] [.int 1] (by decide +kernel) rfl ?_
      exact i_ri (by decide +kernel) rfl
    refine i_h1 (pc' := 16) (j := 3) (lo' := [some (.ref a0), some (.int x1), some (.ref a2), none]) (by decide +kernel) rfl ?_ ?_
    · refine i_bl (pc' := 17) [(.iconst 2, 1)] [some (.ref a0), some (.int x1), some (.ref a2), none] [.int 2] (by decide +kernel) rfl ?_
      exact i_ri (by decide +kernel) rfl
    exact i_no

/-! 338 LanternChessLaw.resign(LLanternChess;[J)I -/
noncomputable def d_338 (a0 : Nat) (a1 : Nat) (m : Mm) : Option (Int32 × Mm) := bE (d_156 a0 m) (fun v2 m1 => if ev_in 0 (sh_n a1) = true then (wb (wr m1 a1 (ix 0) v2) fun m3 => some (0, m3)) else none) (fun e4 m1 => if e4 = 2 then (some (1, m1)) else none)
theorem t_338 {L nx : Nat} (hN : okn nx) {b z : Nat} (hb : 1 ≤ b) (hz : 6 ≤ z) {m : Mm} {a0 : Nat} (h0 : ok nx a0 10) {a1 : Nat} (h1 : ok nx a1 102)   : Im (d_338 a0 a1 m) (wI L nx) (ev_dn b z 338 0 [some (.ref a0), some (.ref a1), none] [] (nx, mem L nx m)) := by
  unfold d_338
  refine i_bl (pc' := 3) [(.aload_n 1, 1), (.iconst 0, 1), (.aload_n 0, 1)] [some (.ref a0), some (.ref a1), none] [.ref a0, .int 0, .ref a1] (by decide +kernel) rfl ?_
  refine i_ev (ci := 10) (t := 156) (na := 1) (ml := 2) (idx := 104) (pc' := 6) (st' := [.int 0, .ref a1]) (en := [some (.ref a0), none]) (av := []) (k1 := 1) (k2 := 6) (vo := fun v => some (.int v)) (s2 := fun v => .int v :: [.int 0, .ref a1]) (by decide +kernel) (by decide +kernel) h0 ⟨rfl, rfl, rfl, rfl, rfl, rfl⟩ ⟨by omega, by omega⟩ (fun _ => rfl) (t_156 hN (b := 1) (z := 6) (by decide) (by decide) (h0 := h0)) (fun v2 m1 => ?_) (fun e4 m1 => ?_)
  · refine i_bl (pc' := 7) [(.i2l, 1)] [some (.ref a0), some (.ref a1), none] [.long v2.toInt64, .int 0, .ref a1] (by decide +kernel) rfl ?_
    refine i_ls (y := v2) (pc' := 8) (by decide +kernel) h1 (fun m3 => ?_)
    refine i_go (t := 14) (off := 6) (by decide +kernel) ?_
    refine i_bl (pc' := 15) [(.iconst 0, 1)] [some (.ref a0), some (.ref a1), none] [.int 0] (by decide +kernel) rfl ?_
    exact i_ri (by decide +kernel) rfl
  · refine i_h1 (pc' := 12) (j := 2) (lo' := [some (.ref a0), some (.ref a1), none]) (by decide +kernel) rfl ?_ ?_
    · refine i_bl (pc' := 13) [(.iconst 1, 1)] [some (.ref a0), some (.ref a1), none] [.int 1] (by decide +kernel) rfl ?_
      exact i_ri (by decide +kernel) rfl
    exact i_no

/-! 339 LanternChessLaw.settle(LLanternChess;I[J)I -/
noncomputable def d_339 (a0 : Nat) (x1 : Int32) (a2 : Nat) (m : Mm) : Option (Int32 × Mm) := bE (d_157 a0 x1 m) (fun v2 m1 => if ev_in 0 (sh_n a2) = true then (wb (wr m1 a2 (ix 0) v2) fun m3 => some (0, m3)) else none) (fun e4 m1 => if e4 = 1 then (some (1, m1)) else none)
theorem t_339 {L nx : Nat} (hN : okn nx) {b z : Nat} (hb : 1 ≤ b) (hz : 6 ≤ z) {m : Mm} {a0 : Nat} (h0 : ok nx a0 10) {a2 : Nat} (h2 : ok nx a2 102) {x1 : Int32}  : Im (d_339 a0 x1 a2 m) (wI L nx) (ev_dn b z 339 0 [some (.ref a0), some (.int x1), some (.ref a2), none] [] (nx, mem L nx m)) := by
  unfold d_339
  refine i_bl (pc' := 4) [(.aload_n 2, 1), (.iconst 0, 1), (.aload_n 0, 1), (.iload_n 1, 1)] [some (.ref a0), some (.int x1), some (.ref a2), none] [.int x1, .ref a0, .int 0, .ref a2] (by decide +kernel) rfl ?_
  refine i_ev (ci := 10) (t := 157) (na := 2) (ml := 3) (idx := 108) (pc' := 7) (st' := [.int 0, .ref a2]) (en := [some (.ref a0), some (.int x1), none]) (av := [.int x1]) (k1 := 1) (k2 := 6) (vo := fun v => some (.int v)) (s2 := fun v => .int v :: [.int 0, .ref a2]) (by decide +kernel) (by decide +kernel) h0 ⟨rfl, rfl, rfl, rfl, rfl, rfl⟩ ⟨by omega, by omega⟩ (fun _ => rfl) (t_157 hN (b := 1) (z := 6) (by decide) (by decide) (h0 := h0)) (fun v2 m1 => ?_) (fun e4 m1 => ?_)
  · refine i_bl (pc' := 8) [(.i2l, 1)] [some (.ref a0), some (.int x1), some (.ref a2), none] [.long v2.toInt64, .int 0, .ref a2] (by decide +kernel) rfl ?_
    refine i_ls (y := v2) (pc' := 9) (by decide +kernel) h2 (fun m3 => ?_)
    refine i_go (t := 15) (off := 6) (by decide +kernel) ?_
    refine i_bl (pc' := 16) [(.iconst 0, 1)] [some (.ref a0), some (.int x1), some (.ref a2), none] [.int 0] (by decide +kernel) rfl ?_
    exact i_ri (by decide +kernel) rfl
  · refine i_h1 (pc' := 13) (j := 3) (lo' := [some (.ref a0), some (.int x1), some (.ref a2), none]) (by decide +kernel) rfl ?_ ?_
    · refine i_bl (pc' := 14) [(.iconst 1, 1)] [some (.ref a0), some (.int x1), some (.ref a2), none] [.int 1] (by decide +kernel) rfl ?_
      exact i_ri (by decide +kernel) rfl
    exact i_no

/-! 340 LanternChessLaw.wind(LLanternChess;II[J)I -/
noncomputable def d_340 (a0 : Nat) (x1 : Int32) (x2 : Int32) (a3 : Nat) (m : Mm) : Option (Int32 × Mm) := bE (d_158 a0 x1 x2 m) (fun v2 m1 => if ev_in 0 (sh_n a3) = true then (wb (wr m1 a3 (ix 0) v2) fun m3 => some (0, m3)) else none) (fun e4 m1 => if e4 = 1 then (some (1, m1)) else if e4 = 0 then (some (2, m1)) else if e4 = 2 then (some (3, m1)) else none)
theorem t_340 {L nx : Nat} (hN : okn nx) {b z : Nat} (hb : 3 ≤ b) (hz : 18 ≤ z) {m : Mm} {a0 : Nat} (h0 : ok nx a0 10) {a3 : Nat} (h3 : ok nx a3 102) {x1 : Int32} {x2 : Int32}  : Im (d_340 a0 x1 x2 a3 m) (wI L nx) (ev_dn b z 340 0 [some (.ref a0), some (.int x1), some (.int x2), some (.ref a3), none] [] (nx, mem L nx m)) := by
  unfold d_340
  refine i_bl (pc' := 5) [(.aload_n 3, 1), (.iconst 0, 1), (.aload_n 0, 1), (.iload_n 1, 1), (.iload_n 2, 1)] [some (.ref a0), some (.int x1), some (.int x2), some (.ref a3), none] [.int x2, .int x1, .ref a0, .int 0, .ref a3] (by decide +kernel) rfl ?_
  refine i_ev (ci := 10) (t := 158) (na := 3) (ml := 4) (idx := 111) (pc' := 8) (st' := [.int 0, .ref a3]) (en := [some (.ref a0), some (.int x1), some (.int x2), none]) (av := [.int x1, .int x2]) (k1 := 3) (k2 := 18) (vo := fun v => some (.int v)) (s2 := fun v => .int v :: [.int 0, .ref a3]) (by decide +kernel) (by decide +kernel) h0 ⟨rfl, rfl, rfl, rfl, rfl, rfl⟩ ⟨by omega, by omega⟩ (fun _ => rfl) (t_158 hN (b := 3) (z := 18) (by decide) (by decide) (h0 := h0)) (fun v2 m1 => ?_) (fun e4 m1 => ?_)
  · refine i_bl (pc' := 9) [(.i2l, 1)] [some (.ref a0), some (.int x1), some (.int x2), some (.ref a3), none] [.long v2.toInt64, .int 0, .ref a3] (by decide +kernel) rfl ?_
    refine i_ls (y := v2) (pc' := 10) (by decide +kernel) h3 (fun m3 => ?_)
    refine i_go (t := 25) (off := 15) (by decide +kernel) ?_
    refine i_bl (pc' := 26) [(.iconst 0, 1)] [some (.ref a0), some (.int x1), some (.int x2), some (.ref a3), none] [.int 0] (by decide +kernel) rfl ?_
    exact i_ri (by decide +kernel) rfl
  · refine i_h1 (pc' := 15) (j := 4) (lo' := [some (.ref a0), some (.int x1), some (.int x2), some (.ref a3), none]) (by decide +kernel) rfl ?_ ?_
    · refine i_bl (pc' := 16) [(.iconst 1, 1)] [some (.ref a0), some (.int x1), some (.int x2), some (.ref a3), none] [.int 1] (by decide +kernel) rfl ?_
      exact i_ri (by decide +kernel) rfl
    refine i_h1 (pc' := 19) (j := 4) (lo' := [some (.ref a0), some (.int x1), some (.int x2), some (.ref a3), none]) (by decide +kernel) rfl ?_ ?_
    · refine i_bl (pc' := 20) [(.iconst 2, 1)] [some (.ref a0), some (.int x1), some (.int x2), some (.ref a3), none] [.int 2] (by decide +kernel) rfl ?_
      exact i_ri (by decide +kernel) rfl
    refine i_h1 (pc' := 23) (j := 4) (lo' := [some (.ref a0), some (.int x1), some (.int x2), some (.ref a3), none]) (by decide +kernel) rfl ?_ ?_
    · refine i_bl (pc' := 24) [(.iconst 3, 1)] [some (.ref a0), some (.int x1), some (.int x2), some (.ref a3), none] [.int 3] (by decide +kernel) rfl ?_
      exact i_ri (by decide +kernel) rfl
    exact i_no

/-! 341 LanternChessLaw.addFog(LLanternChess;III[J)I -/
noncomputable def d_341 (a0 : Nat) (x1 : Int32) (x2 : Int32) (x3 : Int32) (a4 : Nat) (m : Mm) : Option (Int32 × Mm) := bE (d_159 a0 x1 x2 x3 m) (fun v2 m1 => if ev_in 0 (sh_n a4) = true then (wb (wr m1 a4 (ix 0) v2) fun m3 => some (0, m3)) else none) (fun e4 m1 => if e4 = 0 then (some (1, m1)) else if e4 = 2 then (some (2, m1)) else none)
theorem t_341 {L nx : Nat} (hN : okn nx) {b z : Nat} (hb : 4 ≤ b) (hz : 24 ≤ z) {m : Mm} {a0 : Nat} (h0 : ok nx a0 10) {a4 : Nat} (h4 : ok nx a4 102) {x1 : Int32} {x2 : Int32} {x3 : Int32}  : Im (d_341 a0 x1 x2 x3 a4 m) (wI L nx) (ev_dn b z 341 0 [some (.ref a0), some (.int x1), some (.int x2), some (.int x3), some (.ref a4), none] [] (nx, mem L nx m)) := by
  unfold d_341
  refine i_bl (pc' := 7) [(.aload 4, 2), (.iconst 0, 1), (.aload_n 0, 1), (.iload_n 1, 1), (.iload_n 2, 1), (.iload_n 3, 1)] [some (.ref a0), some (.int x1), some (.int x2), some (.int x3), some (.ref a4), none] [.int x3, .int x2, .int x1, .ref a0, .int 0, .ref a4] (by decide +kernel) rfl ?_
  refine i_ev (ci := 10) (t := 159) (na := 4) (ml := 4) (idx := 114) (pc' := 10) (st' := [.int 0, .ref a4]) (en := [some (.ref a0), some (.int x1), some (.int x2), some (.int x3)]) (av := [.int x1, .int x2, .int x3]) (k1 := 4) (k2 := 24) (vo := fun v => some (.int v)) (s2 := fun v => .int v :: [.int 0, .ref a4]) (by decide +kernel) (by decide +kernel) h0 ⟨rfl, rfl, rfl, rfl, rfl, rfl⟩ ⟨by omega, by omega⟩ (fun _ => rfl) (t_159 hN (b := 4) (z := 24) (by decide) (by decide) (h0 := h0)) (fun v2 m1 => ?_) (fun e4 m1 => ?_)
  · refine i_bl (pc' := 11) [(.i2l, 1)] [some (.ref a0), some (.int x1), some (.int x2), some (.int x3), some (.ref a4), none] [.long v2.toInt64, .int 0, .ref a4] (by decide +kernel) rfl ?_
    refine i_ls (y := v2) (pc' := 12) (by decide +kernel) h4 (fun m3 => ?_)
    refine i_go (t := 23) (off := 11) (by decide +kernel) ?_
    refine i_bl (pc' := 24) [(.iconst 0, 1)] [some (.ref a0), some (.int x1), some (.int x2), some (.int x3), some (.ref a4), none] [.int 0] (by decide +kernel) rfl ?_
    exact i_ri (by decide +kernel) rfl
  · refine i_h1 (pc' := 17) (j := 5) (lo' := [some (.ref a0), some (.int x1), some (.int x2), some (.int x3), some (.ref a4), none]) (by decide +kernel) rfl ?_ ?_
    · refine i_bl (pc' := 18) [(.iconst 1, 1)] [some (.ref a0), some (.int x1), some (.int x2), some (.int x3), some (.ref a4), none] [.int 1] (by decide +kernel) rfl ?_
      exact i_ri (by decide +kernel) rfl
    refine i_h1 (pc' := 21) (j := 5) (lo' := [some (.ref a0), some (.int x1), some (.int x2), some (.int x3), some (.ref a4), none]) (by decide +kernel) rfl ?_ ?_
    · refine i_bl (pc' := 22) [(.iconst 2, 1)] [some (.ref a0), some (.int x1), some (.int x2), some (.int x3), some (.ref a4), none] [.int 2] (by decide +kernel) rfl ?_
      exact i_ri (by decide +kernel) rfl
    exact i_no

/-! 342 LanternChessLaw.dropFog(LLanternChess;I[J)I -/
noncomputable def d_342 (a0 : Nat) (x1 : Int32) (a2 : Nat) (m : Mm) : Option (Int32 × Mm) := bE (d_160 a0 x1 m) (fun v2 m1 => if ev_in 0 (sh_n a2) = true then (wb (wr m1 a2 (ix 0) v2) fun m3 => some (0, m3)) else none) (fun e4 m1 => if e4 = 1 then (some (1, m1)) else none)
theorem t_342 {L nx : Nat} (hN : okn nx) {b z : Nat} (hb : 1 ≤ b) (hz : 6 ≤ z) {m : Mm} {a0 : Nat} (h0 : ok nx a0 10) {a2 : Nat} (h2 : ok nx a2 102) {x1 : Int32}  : Im (d_342 a0 x1 a2 m) (wI L nx) (ev_dn b z 342 0 [some (.ref a0), some (.int x1), some (.ref a2), none] [] (nx, mem L nx m)) := by
  unfold d_342
  refine i_bl (pc' := 4) [(.aload_n 2, 1), (.iconst 0, 1), (.aload_n 0, 1), (.iload_n 1, 1)] [some (.ref a0), some (.int x1), some (.ref a2), none] [.int x1, .ref a0, .int 0, .ref a2] (by decide +kernel) rfl ?_
  refine i_ev (ci := 10) (t := 160) (na := 2) (ml := 2) (idx := 117) (pc' := 7) (st' := [.int 0, .ref a2]) (en := [some (.ref a0), some (.int x1)]) (av := [.int x1]) (k1 := 1) (k2 := 6) (vo := fun v => some (.int v)) (s2 := fun v => .int v :: [.int 0, .ref a2]) (by decide +kernel) (by decide +kernel) h0 ⟨rfl, rfl, rfl, rfl, rfl, rfl⟩ ⟨by omega, by omega⟩ (fun _ => rfl) (t_160 hN (b := 1) (z := 6) (by decide) (by decide) (h0 := h0)) (fun v2 m1 => ?_) (fun e4 m1 => ?_)
  · refine i_bl (pc' := 8) [(.i2l, 1)] [some (.ref a0), some (.int x1), some (.ref a2), none] [.long v2.toInt64, .int 0, .ref a2] (by decide +kernel) rfl ?_
    refine i_ls (y := v2) (pc' := 9) (by decide +kernel) h2 (fun m3 => ?_)
    refine i_go (t := 15) (off := 6) (by decide +kernel) ?_
    refine i_bl (pc' := 16) [(.iconst 0, 1)] [some (.ref a0), some (.int x1), some (.ref a2), none] [.int 0] (by decide +kernel) rfl ?_
    exact i_ri (by decide +kernel) rfl
  · refine i_h1 (pc' := 13) (j := 3) (lo' := [some (.ref a0), some (.int x1), some (.ref a2), none]) (by decide +kernel) rfl ?_ ?_
    · refine i_bl (pc' := 14) [(.iconst 1, 1)] [some (.ref a0), some (.int x1), some (.ref a2), none] [.int 1] (by decide +kernel) rfl ?_
      exact i_ri (by decide +kernel) rfl
    exact i_no

/-! 343 LanternChessLaw.set(LLanternChess;II[J)I -/
noncomputable def d_343 (a0 : Nat) (x1 : Int32) (x2 : Int32) (a3 : Nat) (m : Mm) : Option (Int32 × Mm) := bE (d_161 a0 x1 x2 m) (fun v2 m1 => if ev_in 0 (sh_n a3) = true then (wb (wr m1 a3 (ix 0) v2) fun m3 => some (0, m3)) else none) (fun e4 m1 => if e4 = 0 then (some (1, m1)) else none)
theorem t_343 {L nx : Nat} (hN : okn nx) {b z : Nat} (hb : 4 ≤ b) (hz : 24 ≤ z) {m : Mm} {a0 : Nat} (h0 : ok nx a0 10) {a3 : Nat} (h3 : ok nx a3 102) {x1 : Int32} {x2 : Int32}  : Im (d_343 a0 x1 x2 a3 m) (wI L nx) (ev_dn b z 343 0 [some (.ref a0), some (.int x1), some (.int x2), some (.ref a3), none] [] (nx, mem L nx m)) := by
  unfold d_343
  refine i_bl (pc' := 5) [(.aload_n 3, 1), (.iconst 0, 1), (.aload_n 0, 1), (.iload_n 1, 1), (.iload_n 2, 1)] [some (.ref a0), some (.int x1), some (.int x2), some (.ref a3), none] [.int x2, .int x1, .ref a0, .int 0, .ref a3] (by decide +kernel) rfl ?_
  refine i_ev (ci := 10) (t := 161) (na := 3) (ml := 3) (idx := 120) (pc' := 8) (st' := [.int 0, .ref a3]) (en := [some (.ref a0), some (.int x1), some (.int x2)]) (av := [.int x1, .int x2]) (k1 := 4) (k2 := 24) (vo := fun v => some (.int v)) (s2 := fun v => .int v :: [.int 0, .ref a3]) (by decide +kernel) (by decide +kernel) h0 ⟨rfl, rfl, rfl, rfl, rfl, rfl⟩ ⟨by omega, by omega⟩ (fun _ => rfl) (t_161 hN (b := 4) (z := 24) (by decide) (by decide) (h0 := h0)) (fun v2 m1 => ?_) (fun e4 m1 => ?_)
  · refine i_bl (pc' := 9) [(.i2l, 1)] [some (.ref a0), some (.int x1), some (.int x2), some (.ref a3), none] [.long v2.toInt64, .int 0, .ref a3] (by decide +kernel) rfl ?_
    refine i_ls (y := v2) (pc' := 10) (by decide +kernel) h3 (fun m3 => ?_)
    refine i_go (t := 17) (off := 7) (by decide +kernel) ?_
    refine i_bl (pc' := 18) [(.iconst 0, 1)] [some (.ref a0), some (.int x1), some (.int x2), some (.ref a3), none] [.int 0] (by decide +kernel) rfl ?_
    exact i_ri (by decide +kernel) rfl
  · refine i_h1 (pc' := 15) (j := 4) (lo' := [some (.ref a0), some (.int x1), some (.int x2), some (.ref a3), none]) (by decide +kernel) rfl ?_ ?_
    · refine i_bl (pc' := 16) [(.iconst 1, 1)] [some (.ref a0), some (.int x1), some (.int x2), some (.ref a3), none] [.int 1] (by decide +kernel) rfl ?_
      exact i_ri (by decide +kernel) rfl
    exact i_no

/-! 344 LanternChessLaw.undo(LLanternChess;[J)I -/
noncomputable def d_344 (a0 : Nat) (a1 : Nat) (m : Mm) : Option (Int32 × Mm) := bE (d_165 a0 m) (fun v2 m1 => if ev_in 0 (sh_n a1) = true then (wb (wr m1 a1 (ix 0) v2) fun m3 => some (0, m3)) else none) (fun e4 m1 => if e4 = 3 then (some (1, m1)) else none)
theorem t_344 {L nx : Nat} (hN : okn nx) {b z : Nat} (hb : 1 ≤ b) (hz : 6 ≤ z) {m : Mm} {a0 : Nat} (h0 : ok nx a0 10) {a1 : Nat} (h1 : ok nx a1 102)   : Im (d_344 a0 a1 m) (wI L nx) (ev_dn b z 344 0 [some (.ref a0), some (.ref a1), none] [] (nx, mem L nx m)) := by
  unfold d_344
  refine i_bl (pc' := 3) [(.aload_n 1, 1), (.iconst 0, 1), (.aload_n 0, 1)] [some (.ref a0), some (.ref a1), none] [.ref a0, .int 0, .ref a1] (by decide +kernel) rfl ?_
  refine i_ev (ci := 10) (t := 165) (na := 1) (ml := 1) (idx := 123) (pc' := 6) (st' := [.int 0, .ref a1]) (en := [some (.ref a0)]) (av := []) (k1 := 1) (k2 := 6) (vo := fun v => some (.int v)) (s2 := fun v => .int v :: [.int 0, .ref a1]) (by decide +kernel) (by decide +kernel) h0 ⟨rfl, rfl, rfl, rfl, rfl, rfl⟩ ⟨by omega, by omega⟩ (fun _ => rfl) (t_165 hN (b := 1) (z := 6) (by decide) (by decide) (h0 := h0)) (fun v2 m1 => ?_) (fun e4 m1 => ?_)
  · refine i_bl (pc' := 7) [(.i2l, 1)] [some (.ref a0), some (.ref a1), none] [.long v2.toInt64, .int 0, .ref a1] (by decide +kernel) rfl ?_
    refine i_ls (y := v2) (pc' := 8) (by decide +kernel) h1 (fun m3 => ?_)
    refine i_go (t := 14) (off := 6) (by decide +kernel) ?_
    refine i_bl (pc' := 15) [(.iconst 0, 1)] [some (.ref a0), some (.ref a1), none] [.int 0] (by decide +kernel) rfl ?_
    exact i_ri (by decide +kernel) rfl
  · refine i_h1 (pc' := 12) (j := 2) (lo' := [some (.ref a0), some (.ref a1), none]) (by decide +kernel) rfl ?_ ?_
    · refine i_bl (pc' := 13) [(.iconst 1, 1)] [some (.ref a0), some (.ref a1), none] [.int 1] (by decide +kernel) rfl ?_
      exact i_ri (by decide +kernel) rfl
    exact i_no

/-! 345 LanternChessLaw.printRow(LLanternChess;II[J)I -/
noncomputable def d_345 (a0 : Nat) (x1 : Int32) (x2 : Int32) (a3 : Nat) (m : Mm) : Option (Int32 × Mm) := bE (d_166 a0 x1 x2 m) (fun v2 m1 => if ev_in 0 (sh_n a3) = true then (wb (wr m1 a3 (ix 0) v2) fun m3 => some (0, m3)) else none) (fun e4 m1 => if e4 = 1 then (some (1, m1)) else if e4 = 0 then (some (2, m1)) else none)
theorem t_345 {L nx : Nat} (hN : okn nx) {b z : Nat} (hb : 2 ≤ b) (hz : 12 ≤ z) {m : Mm} {a0 : Nat} (h0 : ok nx a0 10) {a3 : Nat} (h3 : ok nx a3 102) {x1 : Int32} {x2 : Int32}  : Im (d_345 a0 x1 x2 a3 m) (wI L nx) (ev_dn b z 345 0 [some (.ref a0), some (.int x1), some (.int x2), some (.ref a3), none] [] (nx, mem L nx m)) := by
  unfold d_345
  refine i_bl (pc' := 5) [(.aload_n 3, 1), (.iconst 0, 1), (.aload_n 0, 1), (.iload_n 1, 1), (.iload_n 2, 1)] [some (.ref a0), some (.int x1), some (.int x2), some (.ref a3), none] [.int x2, .int x1, .ref a0, .int 0, .ref a3] (by decide +kernel) rfl ?_
  refine i_ev (ci := 10) (t := 166) (na := 3) (ml := 6) (idx := 128) (pc' := 8) (st' := [.int 0, .ref a3]) (en := [some (.ref a0), some (.int x1), some (.int x2), none, none, none]) (av := [.int x1, .int x2]) (k1 := 2) (k2 := 12) (vo := fun v => some (.int v)) (s2 := fun v => .int v :: [.int 0, .ref a3]) (by decide +kernel) (by decide +kernel) h0 ⟨rfl, rfl, rfl, rfl, rfl, rfl⟩ ⟨by omega, by omega⟩ (fun _ => rfl) (t_166 hN (b := 2) (z := 12) (by decide) (by decide) (h0 := h0)) (fun v2 m1 => ?_) (fun e4 m1 => ?_)
  · refine i_bl (pc' := 9) [(.i2l, 1)] [some (.ref a0), some (.int x1), some (.int x2), some (.ref a3), none] [.long v2.toInt64, .int 0, .ref a3] (by decide +kernel) rfl ?_
    refine i_ls (y := v2) (pc' := 10) (by decide +kernel) h3 (fun m3 => ?_)
    refine i_go (t := 21) (off := 11) (by decide +kernel) ?_
    refine i_bl (pc' := 22) [(.iconst 0, 1)] [some (.ref a0), some (.int x1), some (.int x2), some (.ref a3), none] [.int 0] (by decide +kernel) rfl ?_
    exact i_ri (by decide +kernel) rfl
  · refine i_h1 (pc' := 15) (j := 4) (lo' := [some (.ref a0), some (.int x1), some (.int x2), some (.ref a3), none]) (by decide +kernel) rfl ?_ ?_
    · refine i_bl (pc' := 16) [(.iconst 1, 1)] [some (.ref a0), some (.int x1), some (.int x2), some (.ref a3), none] [.int 1] (by decide +kernel) rfl ?_
      exact i_ri (by decide +kernel) rfl
    refine i_h1 (pc' := 19) (j := 4) (lo' := [some (.ref a0), some (.int x1), some (.int x2), some (.ref a3), none]) (by decide +kernel) rfl ?_ ?_
    · refine i_bl (pc' := 20) [(.iconst 2, 1)] [some (.ref a0), some (.int x1), some (.int x2), some (.ref a3), none] [.int 2] (by decide +kernel) rfl ?_
      exact i_ri (by decide +kernel) rfl
    exact i_no

/-! 346 LanternChessLaw.printMessage(LLanternChess;IIII[J)I -/
noncomputable def d_346 (a0 : Nat) (x1 : Int32) (x2 : Int32) (x3 : Int32) (x4 : Int32) (a5 : Nat) (m : Mm) : Option (Int32 × Mm) := bE (d_167 a0 x1 x2 x3 x4 m) (fun v2 m1 => if ev_in 0 (sh_n a5) = true then (wb (wr m1 a5 (ix 0) v2) fun m3 => some (0, m3)) else none) (fun e4 m1 => if e4 = 0 then (some (1, m1)) else none)
theorem t_346 {L nx : Nat} (hN : okn nx) {b z : Nat} (hb : 2 ≤ b) (hz : 12 ≤ z) {m : Mm} {a0 : Nat} (h0 : ok nx a0 10) {a5 : Nat} (h5 : ok nx a5 102) {x1 : Int32} {x2 : Int32} {x3 : Int32} {x4 : Int32}  : Im (d_346 a0 x1 x2 x3 x4 a5 m) (wI L nx) (ev_dn b z 346 0 [some (.ref a0), some (.int x1), some (.int x2), some (.int x3), some (.int x4), some (.ref a5), none] [] (nx, mem L nx m)) := by
  unfold d_346
  refine i_bl (pc' := 9) [(.aload 5, 2), (.iconst 0, 1), (.aload_n 0, 1), (.iload_n 1, 1), (.iload_n 2, 1), (.iload_n 3, 1), (.iload 4, 2)] [some (.ref a0), some (.int x1), some (.int x2), some (.int x3), some (.int x4), some (.ref a5), none] [.int x4, .int x3, .int x2, .int x1, .ref a0, .int 0, .ref a5] (by decide +kernel) rfl ?_
  refine i_ev (ci := 10) (t := 167) (na := 5) (ml := 8) (idx := 131) (pc' := 12) (st' := [.int 0, .ref a5]) (en := [some (.ref a0), some (.int x1), some (.int x2), some (.int x3), some (.int x4), none, none, none]) (av := [.int x1, .int x2, .int x3, .int x4]) (k1 := 2) (k2 := 12) (vo := fun v => some (.int v)) (s2 := fun v => .int v :: [.int 0, .ref a5]) (by decide +kernel) (by decide +kernel) h0 ⟨rfl, rfl, rfl, rfl, rfl, rfl⟩ ⟨by omega, by omega⟩ (fun _ => rfl) (t_167 hN (b := 2) (z := 12) (by decide) (by decide) (h0 := h0)) (fun v2 m1 => ?_) (fun e4 m1 => ?_)
  · refine i_bl (pc' := 13) [(.i2l, 1)] [some (.ref a0), some (.int x1), some (.int x2), some (.int x3), some (.int x4), some (.ref a5), none] [.long v2.toInt64, .int 0, .ref a5] (by decide +kernel) rfl ?_
    refine i_ls (y := v2) (pc' := 14) (by decide +kernel) h5 (fun m3 => ?_)
    refine i_go (t := 21) (off := 7) (by decide +kernel) ?_
    refine i_bl (pc' := 22) [(.iconst 0, 1)] [some (.ref a0), some (.int x1), some (.int x2), some (.int x3), some (.int x4), some (.ref a5), none] [.int 0] (by decide +kernel) rfl ?_
    exact i_ri (by decide +kernel) rfl
  · refine i_h1 (pc' := 19) (j := 6) (lo' := [some (.ref a0), some (.int x1), some (.int x2), some (.int x3), some (.int x4), some (.ref a5), none]) (by decide +kernel) rfl ?_ ?_
    · refine i_bl (pc' := 20) [(.iconst 1, 1)] [some (.ref a0), some (.int x1), some (.int x2), some (.int x3), some (.int x4), some (.ref a5), none] [.int 1] (by decide +kernel) rfl ?_
      exact i_ri (by decide +kernel) rfl
    exact i_no

/-! 347 LanternChessLaw.restoreState(LLanternChess;[J)I -/
noncomputable def d_347 (a0 : Nat) (a1 : Nat) (m : Mm) : Option (Int32 × Mm) := bE (d_174 a0 m) (fun v2 m1 => if ev_in 0 (sh_n a1) = true then (wb (wr m1 a1 (ix 0) v2) fun m3 => some (0, m3)) else none) (fun e4 m1 => if e4 = 3 then (some (1, m1)) else none)
theorem t_347 {L nx : Nat} (hN : okn nx) {b z : Nat} (hb : 1 ≤ b) (hz : 6 ≤ z) {m : Mm} {a0 : Nat} (h0 : ok nx a0 10) {a1 : Nat} (h1 : ok nx a1 102)   : Im (d_347 a0 a1 m) (wI L nx) (ev_dn b z 347 0 [some (.ref a0), some (.ref a1), none] [] (nx, mem L nx m)) := by
  unfold d_347
  refine i_bl (pc' := 3) [(.aload_n 1, 1), (.iconst 0, 1), (.aload_n 0, 1)] [some (.ref a0), some (.ref a1), none] [.ref a0, .int 0, .ref a1] (by decide +kernel) rfl ?_
  refine i_ev (ci := 10) (t := 174) (na := 1) (ml := 1) (idx := 134) (pc' := 6) (st' := [.int 0, .ref a1]) (en := [some (.ref a0)]) (av := []) (k1 := 1) (k2 := 6) (vo := fun v => some (.int v)) (s2 := fun v => .int v :: [.int 0, .ref a1]) (by decide +kernel) (by decide +kernel) h0 ⟨rfl, rfl, rfl, rfl, rfl, rfl⟩ ⟨by omega, by omega⟩ (fun _ => rfl) (t_174 hN (b := 1) (z := 6) (by decide) (by decide) (h0 := h0)) (fun v2 m1 => ?_) (fun e4 m1 => ?_)
  · refine i_bl (pc' := 7) [(.i2l, 1)] [some (.ref a0), some (.ref a1), none] [.long v2.toInt64, .int 0, .ref a1] (by decide +kernel) rfl ?_
    refine i_ls (y := v2) (pc' := 8) (by decide +kernel) h1 (fun m3 => ?_)
    refine i_go (t := 14) (off := 6) (by decide +kernel) ?_
    refine i_bl (pc' := 15) [(.iconst 0, 1)] [some (.ref a0), some (.ref a1), none] [.int 0] (by decide +kernel) rfl ?_
    exact i_ri (by decide +kernel) rfl
  · refine i_h1 (pc' := 12) (j := 2) (lo' := [some (.ref a0), some (.ref a1), none]) (by decide +kernel) rfl ?_ ?_
    · refine i_bl (pc' := 13) [(.iconst 1, 1)] [some (.ref a0), some (.ref a1), none] [.int 1] (by decide +kernel) rfl ?_
      exact i_ri (by decide +kernel) rfl
    exact i_no

