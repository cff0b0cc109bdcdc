/-! Programs in numbers, and that the evaluator answers what they answer. -/
/-! 348 LanternChessLaw.law([I)Z -/
noncomputable def E_348_23 (L nx b z : Nat)  (d : Option Value × Option Value × Option Value × Option Value) (s : (Int32 × Mm)) : ev_Q := ev_dn b z 348 23 [some (.ref 2), some (.ref 20), some (.ref 249), some (.ref 266), some (.int s.1), d.1, d.2.1, d.2.2.1, d.2.2.2] [] (nx, mem L nx s.2)
noncomputable def d_348_244 (L : Nat) (x4 : Int32) (m : Mm) : Option ((Int32 × Mm) ⊕ (Bool × Mm)) := if ev_in (x4 + 1) L = true then (if ev_in (x4 + 2) L = true then (if ev_in (x4 + 3) L = true then (if ev_in (x4 + 4) L = true then (if ev_in (x4 + 5) L = true then ((d_120 20 (m 2 (ix (x4 + 1))) (m 2 (ix (x4 + 2))) (m 2 (ix (x4 + 3))) (m 2 (ix (x4 + 4))) (m 2 (ix (x4 + 5))) m).bind fun r1 => if ev_in (x4 + 1) L = true then (if ev_in (x4 + 2) L = true then (if ev_in (x4 + 3) L = true then (if ev_in (x4 + 4) L = true then (if ev_in (x4 + 5) L = true then ((d_282 249 (r1.2 2 (ix (x4 + 1))) (r1.2 2 (ix (x4 + 2))) (r1.2 2 (ix (x4 + 3))) (r1.2 2 (ix (x4 + 4))) (r1.2 2 (ix (x4 + 5))) r1.2).bind fun r2 => if r1.1 = r2.1 then (wb (x4 + 7) fun y3 => some (.inl (y3, r2.2))) else (some (.inr (false, r2.2)))) else none) else none) else none) else none) else none) else none) else none) else none) else none) else none
theorem t_348_244 {L nx : Nat} (hN : okn nx) {b z : Nat} {b0 z0 : Nat} (hb0 : b0 + 0 ≤ b + 4) (hz0 : z0 + 0 ≤ z + 24) {m : Mm} (h0 : ok nx 2 99) (h1 : ok nx 20 10) (h2 : ok nx 249 11) (h3 : ok nx 266 102) {x4 : Int32} {o5 : Option Value} {o6 : Option Value} {o7 : Option Value} {o8 : Option Value} : Im (d_348_244 L x4 m) (kM (wZ L nx) (fun b z => E_348_23 L nx b z) b0 z0) (ev_dn b z 348 244 [some (.ref 2), some (.ref 20), some (.ref 249), some (.ref 266), some (.int x4), o5, o6, o7, o8] [] (nx, mem L nx m)) := by
  unfold d_348_244
  refine i_bl (pc' := 250) [(.aload_n 1, 1), (.aload_n 0, 1), (.iload 4, 2), (.iconst 1, 1), (.iadd, 1)] [some (.ref 2), some (.ref 20), some (.ref 249), some (.ref 266), some (.int x4), o5, o6, o7, o8] [.int (x4 + 1), .ref 2, .ref 20] (by decide +kernel) rfl ?_
  refine i_aS (pc' := 251) L (by decide +kernel) rfl h0 ?_
  refine i_bl (pc' := 256) [(.aload_n 0, 1), (.iload 4, 2), (.iconst 2, 1), (.iadd, 1)] [some (.ref 2), some (.ref 20), some (.ref 249), some (.ref 266), some (.int x4), o5, o6, o7, o8] [.int (x4 + 2), .ref 2, .int (m 2 (ix (x4 + 1))), .ref 20] (by decide +kernel) rfl ?_
  refine i_aS (pc' := 257) L (by decide +kernel) rfl h0 ?_
  refine i_bl (pc' := 262) [(.aload_n 0, 1), (.iload 4, 2), (.iconst 3, 1), (.iadd, 1)] [some (.ref 2), some (.ref 20), some (.ref 249), some (.ref 266), some (.int x4), o5, o6, o7, o8] [.int (x4 + 3), .ref 2, .int (m 2 (ix (x4 + 2))), .int (m 2 (ix (x4 + 1))), .ref 20] (by decide +kernel) rfl ?_
  refine i_aS (pc' := 263) L (by decide +kernel) rfl h0 ?_
  refine i_bl (pc' := 268) [(.aload_n 0, 1), (.iload 4, 2), (.iconst 4, 1), (.iadd, 1)] [some (.ref 2), some (.ref 20), some (.ref 249), some (.ref 266), some (.int x4), o5, o6, o7, o8] [.int (x4 + 4), .ref 2, .int (m 2 (ix (x4 + 3))), .int (m 2 (ix (x4 + 2))), .int (m 2 (ix (x4 + 1))), .ref 20] (by decide +kernel) rfl ?_
  refine i_aS (pc' := 269) L (by decide +kernel) rfl h0 ?_
  refine i_bl (pc' := 274) [(.aload_n 0, 1), (.iload 4, 2), (.iconst 5, 1), (.iadd, 1)] [some (.ref 2), some (.ref 20), some (.ref 249), some (.ref 266), some (.int x4), o5, o6, o7, o8] [.int (x4 + 5), .ref 2, .int (m 2 (ix (x4 + 4))), .int (m 2 (ix (x4 + 3))), .int (m 2 (ix (x4 + 2))), .int (m 2 (ix (x4 + 1))), .ref 20] (by decide +kernel) rfl ?_
  refine i_aS (pc' := 275) L (by decide +kernel) rfl h0 ?_
  refine i_cv (ci := 10) (t := 120) (na := 6) (ml := 6) (idx := 141) (pc' := 278) (st' := []) (en := [some (.ref 20), some (.int (m 2 (ix (x4 + 1)))), some (.int (m 2 (ix (x4 + 2)))), some (.int (m 2 (ix (x4 + 3)))), some (.int (m 2 (ix (x4 + 4)))), some (.int (m 2 (ix (x4 + 5))))]) (av := [.int (m 2 (ix (x4 + 1))), .int (m 2 (ix (x4 + 2))), .int (m 2 (ix (x4 + 3))), .int (m 2 (ix (x4 + 4))), .int (m 2 (ix (x4 + 5)))]) (vo := fun v => some (.int v.1)) (mo := fun v => v.2) (s2 := fun v => .int v.1 :: []) (by decide +kernel) (by decide +kernel) h1 ⟨rfl, rfl, rfl, rfl, rfl, rfl⟩ (fun _ => rfl) (t_120 hN (h0 := h1)) (fun r1 => ?_)
  refine i_bl (pc' := 284) [(.aload_n 2, 1), (.aload_n 0, 1), (.iload 4, 2), (.iconst 1, 1), (.iadd, 1)] [some (.ref 2), some (.ref 20), some (.ref 249), some (.ref 266), some (.int x4), o5, o6, o7, o8] [.int (x4 + 1), .ref 2, .ref 249, .int r1.1] (by decide +kernel) rfl ?_
  refine i_aS (pc' := 285) L (by decide +kernel) rfl h0 ?_
  refine i_bl (pc' := 290) [(.aload_n 0, 1), (.iload 4, 2), (.iconst 2, 1), (.iadd, 1)] [some (.ref 2), some (.ref 20), some (.ref 249), some (.ref 266), some (.int x4), o5, o6, o7, o8] [.int (x4 + 2), .ref 2, .int (r1.2 2 (ix (x4 + 1))), .ref 249, .int r1.1] (by decide +kernel) rfl ?_
  refine i_aS (pc' := 291) L (by decide +kernel) rfl h0 ?_
  refine i_bl (pc' := 296) [(.aload_n 0, 1), (.iload 4, 2), (.iconst 3, 1), (.iadd, 1)] [some (.ref 2), some (.ref 20), some (.ref 249), some (.ref 266), some (.int x4), o5, o6, o7, o8] [.int (x4 + 3), .ref 2, .int (r1.2 2 (ix (x4 + 2))), .int (r1.2 2 (ix (x4 + 1))), .ref 249, .int r1.1] (by decide +kernel) rfl ?_
  refine i_aS (pc' := 297) L (by decide +kernel) rfl h0 ?_
  refine i_bl (pc' := 302) [(.aload_n 0, 1), (.iload 4, 2), (.iconst 4, 1), (.iadd, 1)] [some (.ref 2), some (.ref 20), some (.ref 249), some (.ref 266), some (.int x4), o5, o6, o7, o8] [.int (x4 + 4), .ref 2, .int (r1.2 2 (ix (x4 + 3))), .int (r1.2 2 (ix (x4 + 2))), .int (r1.2 2 (ix (x4 + 1))), .ref 249, .int r1.1] (by decide +kernel) rfl ?_
  refine i_aS (pc' := 303) L (by decide +kernel) rfl h0 ?_
  refine i_bl (pc' := 308) [(.aload_n 0, 1), (.iload 4, 2), (.iconst 5, 1), (.iadd, 1)] [some (.ref 2), some (.ref 20), some (.ref 249), some (.ref 266), some (.int x4), o5, o6, o7, o8] [.int (x4 + 5), .ref 2, .int (r1.2 2 (ix (x4 + 4))), .int (r1.2 2 (ix (x4 + 3))), .int (r1.2 2 (ix (x4 + 2))), .int (r1.2 2 (ix (x4 + 1))), .ref 249, .int r1.1] (by decide +kernel) rfl ?_
  refine i_aS (pc' := 309) L (by decide +kernel) rfl h0 ?_
  refine i_cv (ci := 11) (t := 282) (na := 6) (ml := 8) (idx := 144) (pc' := 312) (st' := [.int r1.1]) (en := [some (.ref 249), some (.int (r1.2 2 (ix (x4 + 1)))), some (.int (r1.2 2 (ix (x4 + 2)))), some (.int (r1.2 2 (ix (x4 + 3)))), some (.int (r1.2 2 (ix (x4 + 4)))), some (.int (r1.2 2 (ix (x4 + 5)))), none, none]) (av := [.int (r1.2 2 (ix (x4 + 1))), .int (r1.2 2 (ix (x4 + 2))), .int (r1.2 2 (ix (x4 + 3))), .int (r1.2 2 (ix (x4 + 4))), .int (r1.2 2 (ix (x4 + 5)))]) (vo := fun v => some (.int v.1)) (mo := fun v => v.2) (s2 := fun v => .int v.1 :: [.int r1.1]) (by decide +kernel) (by decide +kernel) h2 ⟨rfl, rfl, rfl, rfl, rfl, rfl⟩ (fun _ => rfl) (t_282 hN (h0 := h2)) (fun r2 => ?_)
  refine i_ic (c := .eq) (off := 2959) (t := 3271) (pc' := 315) (p := r1.1 = r2.1) (by decide +kernel) rfl ?_ ?_
  · refine i_bl (pc' := 3274) [(.iinc 4 (7), 3)] [some (.ref 2), some (.ref 20), some (.ref 249), some (.ref 266), some (.int (x4 + 7)), o5, o6, o7, o8] [] (by decide +kernel) rfl ?_
    refine i_wb (fun y3 => ev_dn b z 348 3274 [some (.ref 2), some (.ref 20), some (.ref 249), some (.ref 266), some (.int y3), o5, o6, o7, o8] [] (nx, mem L nx r2.2)) (fun y3 => ?_)
    refine i_go (t := 23) (off := -3251) (by decide +kernel) ?_
    exact i_cL (o5, o6, o7, o8) b z (by omega) (by omega) rfl
  · refine i_bl (pc' := 316) [(.iconst 0, 1)] [some (.ref 2), some (.ref 20), some (.ref 249), some (.ref 266), some (.int x4), o5, o6, o7, o8] [.int 0] (by decide +kernel) rfl ?_
    exact i_iM (i_rz (B := false) (by decide +kernel) rfl)

noncomputable def d_348_317 (L : Nat) (x4 : Int32) (m : Mm) : Option ((Int32 × Mm) ⊕ (Bool × Mm)) := if ev_in (x4 + 1) L = true then ((d_121 20 (m 2 (ix (x4 + 1))) m).bind fun r4 => if ev_in (x4 + 1) L = true then ((d_283 249 (r4.2 2 (ix (x4 + 1))) r4.2).bind fun r5 => if (bi r4.1) = (bi r5.1) then (wb (x4 + 7) fun y6 => some (.inl (y6, r5.2))) else (some (.inr (false, r5.2)))) else none) else none
theorem t_348_317 {L nx : Nat} (hN : okn nx) {b z : Nat} {b0 z0 : Nat} (hb0 : b0 + 0 ≤ b + 4) (hz0 : z0 + 0 ≤ z + 24) {m : Mm} (h0 : ok nx 2 99) (h1 : ok nx 20 10) (h2 : ok nx 249 11) (h3 : ok nx 266 102) {x4 : Int32} {o5 : Option Value} {o6 : Option Value} {o7 : Option Value} {o8 : Option Value} : Im (d_348_317 L x4 m) (kM (wZ L nx) (fun b z => E_348_23 L nx b z) b0 z0) (ev_dn b z 348 317 [some (.ref 2), some (.ref 20), some (.ref 249), some (.ref 266), some (.int x4), o5, o6, o7, o8] [] (nx, mem L nx m)) := by
  unfold d_348_317
  refine i_bl (pc' := 323) [(.aload_n 1, 1), (.aload_n 0, 1), (.iload 4, 2), (.iconst 1, 1), (.iadd, 1)] [some (.ref 2), some (.ref 20), some (.ref 249), some (.ref 266), some (.int x4), o5, o6, o7, o8] [.int (x4 + 1), .ref 2, .ref 20] (by decide +kernel) rfl ?_
  refine i_aS (pc' := 324) L (by decide +kernel) rfl h0 ?_
  refine i_cv (ci := 10) (t := 121) (na := 2) (ml := 2) (idx := 145) (pc' := 327) (st' := []) (en := [some (.ref 20), some (.int (m 2 (ix (x4 + 1))))]) (av := [.int (m 2 (ix (x4 + 1)))]) (vo := fun v => some (.int (bi v.1))) (mo := fun v => v.2) (s2 := fun v => .int (bi v.1) :: []) (by decide +kernel) (by decide +kernel) h1 ⟨rfl, rfl, rfl, rfl, rfl, rfl⟩ (fun _ => rfl) (t_121 hN (h0 := h1)) (fun r4 => ?_)
  refine i_bl (pc' := 333) [(.aload_n 2, 1), (.aload_n 0, 1), (.iload 4, 2), (.iconst 1, 1), (.iadd, 1)] [some (.ref 2), some (.ref 20), some (.ref 249), some (.ref 266), some (.int x4), o5, o6, o7, o8] [.int (x4 + 1), .ref 2, .ref 249, .int (bi r4.1)] (by decide +kernel) rfl ?_
  refine i_aS (pc' := 334) L (by decide +kernel) rfl h0 ?_
  refine i_cv (ci := 11) (t := 283) (na := 2) (ml := 2) (idx := 148) (pc' := 337) (st' := [.int (bi r4.1)]) (en := [some (.ref 249), some (.int (r4.2 2 (ix (x4 + 1))))]) (av := [.int (r4.2 2 (ix (x4 + 1)))]) (vo := fun v => some (.int (bi v.1))) (mo := fun v => v.2) (s2 := fun v => .int (bi v.1) :: [.int (bi r4.1)]) (by decide +kernel) (by decide +kernel) h2 ⟨rfl, rfl, rfl, rfl, rfl, rfl⟩ (fun _ => rfl) (t_283 hN (h0 := h2)) (fun r5 => ?_)
  refine i_ic (c := .eq) (off := 2934) (t := 3271) (pc' := 340) (p := (bi r4.1) = (bi r5.1)) (by decide +kernel) rfl ?_ ?_
  · refine i_bl (pc' := 3274) [(.iinc 4 (7), 3)] [some (.ref 2), some (.ref 20), some (.ref 249), some (.ref 266), some (.int (x4 + 7)), o5, o6, o7, o8] [] (by decide +kernel) rfl ?_
    refine i_wb (fun y6 => ev_dn b z 348 3274 [some (.ref 2), some (.ref 20), some (.ref 249), some (.ref 266), some (.int y6), o5, o6, o7, o8] [] (nx, mem L nx r5.2)) (fun y6 => ?_)
    refine i_go (t := 23) (off := -3251) (by decide +kernel) ?_
    exact i_cL (o5, o6, o7, o8) b z (by omega) (by omega) rfl
  · refine i_bl (pc' := 341) [(.iconst 0, 1)] [some (.ref 2), some (.ref 20), some (.ref 249), some (.ref 266), some (.int x4), o5, o6, o7, o8] [.int 0] (by decide +kernel) rfl ?_
    exact i_iM (i_rz (B := false) (by decide +kernel) rfl)

noncomputable def d_348_342 (L : Nat) (x4 : Int32) (m : Mm) : Option ((Int32 × Mm) ⊕ (Bool × Mm)) := (d_122 20 m).bind fun r7 => (d_302 249 r7.2).bind fun r8 => if r7.1 = r8.1 then (wb (x4 + 7) fun y9 => some (.inl (y9, r8.2))) else (some (.inr (false, r8.2)))
theorem t_348_342 {L nx : Nat} (hN : okn nx) {b z : Nat} {b0 z0 : Nat} (hb0 : b0 + 0 ≤ b + 4) (hz0 : z0 + 0 ≤ z + 24) {m : Mm} (h0 : ok nx 2 99) (h1 : ok nx 20 10) (h2 : ok nx 249 11) (h3 : ok nx 266 102) {x4 : Int32} {o5 : Option Value} {o6 : Option Value} {o7 : Option Value} {o8 : Option Value} : Im (d_348_342 L x4 m) (kM (wZ L nx) (fun b z => E_348_23 L nx b z) b0 z0) (ev_dn b z 348 342 [some (.ref 2), some (.ref 20), some (.ref 249), some (.ref 266), some (.int x4), o5, o6, o7, o8] [] (nx, mem L nx m)) := by
  unfold d_348_342
  refine i_bl (pc' := 343) [(.aload_n 1, 1)] [some (.ref 2), some (.ref 20), some (.ref 249), some (.ref 266), some (.int x4), o5, o6, o7, o8] [.ref 20] (by decide +kernel) rfl ?_
  refine i_cv (ci := 10) (t := 122) (na := 1) (ml := 1) (idx := 149) (pc' := 346) (st' := []) (en := [some (.ref 20)]) (av := []) (vo := fun v => some (.int v.1)) (mo := fun v => v.2) (s2 := fun v => .int v.1 :: []) (by decide +kernel) (by decide +kernel) h1 ⟨rfl, rfl, rfl, rfl, rfl, rfl⟩ (fun _ => rfl) (t_122 hN (h0 := h1)) (fun r7 => ?_)
  refine i_bl (pc' := 347) [(.aload_n 2, 1)] [some (.ref 2), some (.ref 20), some (.ref 249), some (.ref 266), some (.int x4), o5, o6, o7, o8] [.ref 249, .int r7.1] (by decide +kernel) rfl ?_
  refine i_cv (ci := 11) (t := 302) (na := 1) (ml := 2) (idx := 152) (pc' := 350) (st' := [.int r7.1]) (en := [some (.ref 249), none]) (av := []) (vo := fun v => some (.int v.1)) (mo := fun v => v.2) (s2 := fun v => .int v.1 :: [.int r7.1]) (by decide +kernel) (by decide +kernel) h2 ⟨rfl, rfl, rfl, rfl, rfl, rfl⟩ (fun _ => rfl) (t_302 hN (h0 := h2)) (fun r8 => ?_)
  refine i_ic (c := .eq) (off := 2921) (t := 3271) (pc' := 353) (p := r7.1 = r8.1) (by decide +kernel) rfl ?_ ?_
  · refine i_bl (pc' := 3274) [(.iinc 4 (7), 3)] [some (.ref 2), some (.ref 20), some (.ref 249), some (.ref 266), some (.int (x4 + 7)), o5, o6, o7, o8] [] (by decide +kernel) rfl ?_
    refine i_wb (fun y9 => ev_dn b z 348 3274 [some (.ref 2), some (.ref 20), some (.ref 249), some (.ref 266), some (.int y9), o5, o6, o7, o8] [] (nx, mem L nx r8.2)) (fun y9 => ?_)
    refine i_go (t := 23) (off := -3251) (by decide +kernel) ?_
    exact i_cL (o5, o6, o7, o8) b z (by omega) (by omega) rfl
  · refine i_bl (pc' := 354) [(.iconst 0, 1)] [some (.ref 2), some (.ref 20), some (.ref 249), some (.ref 266), some (.int x4), o5, o6, o7, o8] [.int 0] (by decide +kernel) rfl ?_
    exact i_iM (i_rz (B := false) (by decide +kernel) rfl)

noncomputable def d_348_355 (L : Nat) (x4 : Int32) (m : Mm) : Option ((Int32 × Mm) ⊕ (Bool × Mm)) := (d_123 20 m).bind fun v10 => (d_303 249 m).bind fun r11 => if v10 = r11.1 then (wb (x4 + 7) fun y12 => some (.inl (y12, r11.2))) else (some (.inr (false, r11.2)))
theorem t_348_355 {L nx : Nat} (hN : okn nx) {b z : Nat} {b0 z0 : Nat} (hb0 : b0 + 0 ≤ b + 4) (hz0 : z0 + 0 ≤ z + 24) {m : Mm} (h0 : ok nx 2 99) (h1 : ok nx 20 10) (h2 : ok nx 249 11) (h3 : ok nx 266 102) {x4 : Int32} {o5 : Option Value} {o6 : Option Value} {o7 : Option Value} {o8 : Option Value} : Im (d_348_355 L x4 m) (kM (wZ L nx) (fun b z => E_348_23 L nx b z) b0 z0) (ev_dn b z 348 355 [some (.ref 2), some (.ref 20), some (.ref 249), some (.ref 266), some (.int x4), o5, o6, o7, o8] [] (nx, mem L nx m)) := by
  unfold d_348_355
  refine i_bl (pc' := 356) [(.aload_n 1, 1)] [some (.ref 2), some (.ref 20), some (.ref 249), some (.ref 266), some (.int x4), o5, o6, o7, o8] [.ref 20] (by decide +kernel) rfl ?_
  refine i_cv (ci := 10) (t := 123) (na := 1) (ml := 1) (idx := 153) (pc' := 359) (st' := []) (en := [some (.ref 20)]) (av := []) (vo := fun v => some (.int v)) (mo := fun _ => m) (s2 := fun v => .int v :: []) (by decide +kernel) (by decide +kernel) h1 ⟨rfl, rfl, rfl, rfl, rfl, rfl⟩ (fun _ => rfl) (t_123 hN (h0 := h1)) (fun v10 => ?_)
  refine i_bl (pc' := 360) [(.aload_n 2, 1)] [some (.ref 2), some (.ref 20), some (.ref 249), some (.ref 266), some (.int x4), o5, o6, o7, o8] [.ref 249, .int v10] (by decide +kernel) rfl ?_
  refine i_cv (ci := 11) (t := 303) (na := 1) (ml := 1) (idx := 156) (pc' := 363) (st' := [.int v10]) (en := [some (.ref 249)]) (av := []) (vo := fun v => some (.int v.1)) (mo := fun v => v.2) (s2 := fun v => .int v.1 :: [.int v10]) (by decide +kernel) (by decide +kernel) h2 ⟨rfl, rfl, rfl, rfl, rfl, rfl⟩ (fun _ => rfl) (t_303 hN (h0 := h2)) (fun r11 => ?_)
  refine i_ic (c := .eq) (off := 2908) (t := 3271) (pc' := 366) (p := v10 = r11.1) (by decide +kernel) rfl ?_ ?_
  · refine i_bl (pc' := 3274) [(.iinc 4 (7), 3)] [some (.ref 2), some (.ref 20), some (.ref 249), some (.ref 266), some (.int (x4 + 7)), o5, o6, o7, o8] [] (by decide +kernel) rfl ?_
    refine i_wb (fun y12 => ev_dn b z 348 3274 [some (.ref 2), some (.ref 20), some (.ref 249), some (.ref 266), some (.int y12), o5, o6, o7, o8] [] (nx, mem L nx r11.2)) (fun y12 => ?_)
    refine i_go (t := 23) (off := -3251) (by decide +kernel) ?_
    exact i_cL (o5, o6, o7, o8) b z (by omega) (by omega) rfl
  · refine i_bl (pc' := 367) [(.iconst 0, 1)] [some (.ref 2), some (.ref 20), some (.ref 249), some (.ref 266), some (.int x4), o5, o6, o7, o8] [.int 0] (by decide +kernel) rfl ?_
    exact i_iM (i_rz (B := false) (by decide +kernel) rfl)

noncomputable def d_348_368 (L : Nat) (x4 : Int32) (m : Mm) : Option ((Int32 × Mm) ⊕ (Bool × Mm)) := (d_124 20 m).bind fun v13 => (d_304 249 m).bind fun r14 => if v13 = r14.1 then (wb (x4 + 7) fun y15 => some (.inl (y15, r14.2))) else (some (.inr (false, r14.2)))
theorem t_348_368 {L nx : Nat} (hN : okn nx) {b z : Nat} {b0 z0 : Nat} (hb0 : b0 + 0 ≤ b + 4) (hz0 : z0 + 0 ≤ z + 24) {m : Mm} (h0 : ok nx 2 99) (h1 : ok nx 20 10) (h2 : ok nx 249 11) (h3 : ok nx 266 102) {x4 : Int32} {o5 : Option Value} {o6 : Option Value} {o7 : Option Value} {o8 : Option Value} : Im (d_348_368 L x4 m) (kM (wZ L nx) (fun b z => E_348_23 L nx b z) b0 z0) (ev_dn b z 348 368 [some (.ref 2), some (.ref 20), some (.ref 249), some (.ref 266), some (.int x4), o5, o6, o7, o8] [] (nx, mem L nx m)) := by
  unfold d_348_368
  refine i_bl (pc' := 369) [(.aload_n 1, 1)] [some (.ref 2), some (.ref 20), some (.ref 249), some (.ref 266), some (.int x4), o5, o6, o7, o8] [.ref 20] (by decide +kernel) rfl ?_
  refine i_cv (ci := 10) (t := 124) (na := 1) (ml := 1) (idx := 157) (pc' := 372) (st' := []) (en := [some (.ref 20)]) (av := []) (vo := fun v => some (.int v)) (mo := fun _ => m) (s2 := fun v => .int v :: []) (by decide +kernel) (by decide +kernel) h1 ⟨rfl, rfl, rfl, rfl, rfl, rfl⟩ (fun _ => rfl) (t_124 hN (h0 := h1)) (fun v13 => ?_)
  refine i_bl (pc' := 373) [(.aload_n 2, 1)] [some (.ref 2), some (.ref 20), some (.ref 249), some (.ref 266), some (.int x4), o5, o6, o7, o8] [.ref 249, .int v13] (by decide +kernel) rfl ?_
  refine i_cv (ci := 11) (t := 304) (na := 1) (ml := 1) (idx := 160) (pc' := 376) (st' := [.int v13]) (en := [some (.ref 249)]) (av := []) (vo := fun v => some (.int v.1)) (mo := fun v => v.2) (s2 := fun v => .int v.1 :: [.int v13]) (by decide +kernel) (by decide +kernel) h2 ⟨rfl, rfl, rfl, rfl, rfl, rfl⟩ (fun _ => rfl) (t_304 hN (h0 := h2)) (fun r14 => ?_)
  refine i_ic (c := .eq) (off := 2895) (t := 3271) (pc' := 379) (p := v13 = r14.1) (by decide +kernel) rfl ?_ ?_
  · refine i_bl (pc' := 3274) [(.iinc 4 (7), 3)] [some (.ref 2), some (.ref 20), some (.ref 249), some (.ref 266), some (.int (x4 + 7)), o5, o6, o7, o8] [] (by decide +kernel) rfl ?_
    refine i_wb (fun y15 => ev_dn b z 348 3274 [some (.ref 2), some (.ref 20), some (.ref 249), some (.ref 266), some (.int y15), o5, o6, o7, o8] [] (nx, mem L nx r14.2)) (fun y15 => ?_)
    refine i_go (t := 23) (off := -3251) (by decide +kernel) ?_
    exact i_cL (o5, o6, o7, o8) b z (by omega) (by omega) rfl
  · refine i_bl (pc' := 380) [(.iconst 0, 1)] [some (.ref 2), some (.ref 20), some (.ref 249), some (.ref 266), some (.int x4), o5, o6, o7, o8] [.int 0] (by decide +kernel) rfl ?_
    exact i_iM (i_rz (B := false) (by decide +kernel) rfl)

noncomputable def d_348_381 (L : Nat) (x4 : Int32) (m : Mm) : Option ((Int32 × Mm) ⊕ (Bool × Mm)) := if ev_in (x4 + 1) L = true then ((d_311 20 (m 2 (ix (x4 + 1))) 266 m).bind fun r16 => if ev_in (x4 + 1) L = true then ((d_215 249 (r16.2 2 (ix (x4 + 1))) r16.2).bind fun r17 => (d_182 249 r17.2).bind fun v18 => if v18 = r16.1 then (if ¬ r16.1 = 0 then (wb (x4 + 7) fun y19 => some (.inl (y19, r17.2))) else (if ev_in 0 (sh_n 266) = true then (if (ilg (r17.2 266 (ix 0)) r17.1) = 0 then (wb (x4 + 7) fun y20 => some (.inl (y20, r17.2))) else (some (.inr (false, r17.2)))) else none)) else (some (.inr (false, r17.2)))) else none) else none
theorem t_348_381 {L nx : Nat} (hN : okn nx) {b z : Nat} (hb : 1 ≤ b) (hz : 6 ≤ z) {b0 z0 : Nat} (hb0 : b0 + 1 ≤ b + 4) (hz0 : z0 + 6 ≤ z + 24) {m : Mm} (h0 : ok nx 2 99) (h1 : ok nx 20 10) (h2 : ok nx 249 11) (h3 : ok nx 266 102) {x4 : Int32} {o5 : Option Value} {o6 : Option Value} {o7 : Option Value} {o8 : Option Value} : Im (d_348_381 L x4 m) (kM (wZ L nx) (fun b z => E_348_23 L nx b z) b0 z0) (ev_dn b z 348 381 [some (.ref 2), some (.ref 20), some (.ref 249), some (.ref 266), some (.int x4), o5, o6, o7, o8] [] (nx, mem L nx m)) := by
  unfold d_348_381
  refine i_bl (pc' := 387) [(.aload_n 1, 1), (.aload_n 0, 1), (.iload 4, 2), (.iconst 1, 1), (.iadd, 1)] [some (.ref 2), some (.ref 20), some (.ref 249), some (.ref 266), some (.int x4), o5, o6, o7, o8] [.int (x4 + 1), .ref 2, .ref 20] (by decide +kernel) rfl ?_
  refine i_aS (pc' := 388) L (by decide +kernel) rfl h0 ?_
  refine i_bl (pc' := 389) [(.aload_n 3, 1)] [some (.ref 2), some (.ref 20), some (.ref 249), some (.ref 266), some (.int x4), o5, o6, o7, o8] [.ref 266, .int (m 2 (ix (x4 + 1))), .ref 20] (by decide +kernel) rfl ?_
  refine i_ck (k1 := 1) (k2 := 6) (t := 311) (na := 3) (ml := 4) (idx := 161) (pc' := 392) (st' := []) (en := [some (.ref 20), some (.int (m 2 (ix (x4 + 1)))), some (.ref 266), none]) (av := [.ref 20, .int (m 2 (ix (x4 + 1))), .ref 266]) (vo := fun v => some (.int v.1)) (mo := fun v => v.2) (s2 := fun v => .int v.1 :: []) (by decide +kernel) ⟨rfl, rfl, rfl, rfl, rfl, rfl⟩ ⟨by omega, by omega⟩ (fun _ => rfl) (t_311 hN (b := 1) (z := 6) (by decide) (by decide) (h0 := h1) (h2 := h3)) (fun r16 => ?_)
  refine i_bl (pc' := 400) [(.istore 5, 2), (.aload_n 2, 1), (.aload_n 0, 1), (.iload 4, 2), (.iconst 1, 1), (.iadd, 1)] [some (.ref 2), some (.ref 20), some (.ref 249), some (.ref 266), some (.int x4), some (.int r16.1), o6, o7, o8] [.int (x4 + 1), .ref 2, .ref 249] (by decide +kernel) rfl ?_
  refine i_aS (pc' := 401) L (by decide +kernel) rfl h0 ?_
  refine i_cv (ci := 11) (t := 215) (na := 2) (ml := 2) (idx := 166) (pc' := 404) (st' := []) (en := [some (.ref 249), some (.int (r16.2 2 (ix (x4 + 1))))]) (av := [.int (r16.2 2 (ix (x4 + 1)))]) (vo := fun v => some (.int v.1)) (mo := fun v => v.2) (s2 := fun v => .int v.1 :: []) (by decide +kernel) (by decide +kernel) h2 ⟨rfl, rfl, rfl, rfl, rfl, rfl⟩ (fun _ => rfl) (t_215 hN (h0 := h2)) (fun r17 => ?_)
  refine i_bl (pc' := 407) [(.istore 6, 2), (.aload_n 2, 1)] [some (.ref 2), some (.ref 20), some (.ref 249), some (.ref 266), some (.int x4), some (.int r16.1), some (.int r17.1), o7, o8] [.ref 249] (by decide +kernel) rfl ?_
  refine i_cv (ci := 11) (t := 182) (na := 1) (ml := 1) (idx := 167) (pc' := 410) (st' := []) (en := [some (.ref 249)]) (av := []) (vo := fun v => some (.int v)) (mo := fun _ => r17.2) (s2 := fun v => .int v :: []) (by decide +kernel) (by decide +kernel) h2 ⟨rfl, rfl, rfl, rfl, rfl, rfl⟩ (fun _ => rfl) (t_182 hN (h0 := h2)) (fun v18 => ?_)
  refine i_bl (pc' := 412) [(.iload 5, 2)] [some (.ref 2), some (.ref 20), some (.ref 249), some (.ref 266), some (.int x4), some (.int r16.1), some (.int r17.1), o7, o8] [.int r16.1, .int v18] (by decide +kernel) rfl ?_
  refine i_ic (c := .eq) (off := 5) (t := 417) (pc' := 415) (p := v18 = r16.1) (by decide +kernel) rfl ?_ ?_
  · refine i_bl (pc' := 419) [(.iload 5, 2)] [some (.ref 2), some (.ref 20), some (.ref 249), some (.ref 266), some (.int x4), some (.int r16.1), some (.int r17.1), o7, o8] [.int r16.1] (by decide +kernel) rfl ?_
    refine i_if (c := .ne) (off := 15) (t := 434) (pc' := 422) (p := ¬ r16.1 = 0) (by decide +kernel) rfl ?_ ?_
    · refine i_go (t := 3271) (off := 2837) (by decide +kernel) ?_
      refine i_bl (pc' := 3274) [(.iinc 4 (7), 3)] [some (.ref 2), some (.ref 20), some (.ref 249), some (.ref 266), some (.int (x4 + 7)), some (.int r16.1), some (.int r17.1), o7, o8] [] (by decide +kernel) rfl ?_
      refine i_wb (fun y19 => ev_dn (b - 1) (z - 6) 348 3274 [some (.ref 2), some (.ref 20), some (.ref 249), some (.ref 266), some (.int y19), some (.int r16.1), some (.int r17.1), o7, o8] [] (nx, mem L nx r17.2)) (fun y19 => ?_)
      refine i_go (t := 23) (off := -3251) (by decide +kernel) ?_
      exact i_cL (some (.int r16.1), some (.int r17.1), o7, o8) (b - 1) (z - 6) (by omega) (by omega) rfl
    · refine i_bl (pc' := 424) [(.aload_n 3, 1), (.iconst 0, 1)] [some (.ref 2), some (.ref 20), some (.ref 249), some (.ref 266), some (.int x4), some (.int r16.1), some (.int r17.1), o7, o8] [.int 0, .ref 266] (by decide +kernel) rfl ?_
      refine i_ll (pc' := 425) (by decide +kernel) h3 ?_
      refine i_bl (pc' := 428) [(.iload 6, 2), (.i2l, 1)] [some (.ref 2), some (.ref 20), some (.ref 249), some (.ref 266), some (.int x4), some (.int r16.1), some (.int r17.1), o7, o8] [.long r17.1.toInt64, .long (r17.2 266 (ix 0)).toInt64] (by decide +kernel) rfl ?_
      refine i_lcm (x := (r17.2 266 (ix 0))) (y := r17.1) (pc' := 429) (by decide +kernel) ?_
      refine i_if (c := .eq) (off := 5) (t := 434) (pc' := 432) (p := (ilg (r17.2 266 (ix 0)) r17.1) = 0) (by decide +kernel) rfl ?_ ?_
      · refine i_go (t := 3271) (off := 2837) (by decide +kernel) ?_
        refine i_bl (pc' := 3274) [(.iinc 4 (7), 3)] [some (.ref 2), some (.ref 20), some (.ref 249), some (.ref 266), some (.int (x4 + 7)), some (.int r16.1), some (.int r17.1), o7, o8] [] (by decide +kernel) rfl ?_
        refine i_wb (fun y20 => ev_dn (b - 1) (z - 6) 348 3274 [some (.ref 2), some (.ref 20), some (.ref 249), some (.ref 266), some (.int y20), some (.int r16.1), some (.int r17.1), o7, o8] [] (nx, mem L nx r17.2)) (fun y20 => ?_)
        refine i_go (t := 23) (off := -3251) (by decide +kernel) ?_
        exact i_cL (some (.int r16.1), some (.int r17.1), o7, o8) (b - 1) (z - 6) (by omega) (by omega) rfl
      · refine i_bl (pc' := 433) [(.iconst 0, 1)] [some (.ref 2), some (.ref 20), some (.ref 249), some (.ref 266), some (.int x4), some (.int r16.1), some (.int r17.1), o7, o8] [.int 0] (by decide +kernel) rfl ?_
        exact i_iM (i_rz (B := false) (by decide +kernel) rfl)
  · refine i_bl (pc' := 416) [(.iconst 0, 1)] [some (.ref 2), some (.ref 20), some (.ref 249), some (.ref 266), some (.int x4), some (.int r16.1), some (.int r17.1), o7, o8] [.int 0] (by decide +kernel) rfl ?_
    exact i_iM (i_rz (B := false) (by decide +kernel) rfl)

noncomputable def d_348_437 (L : Nat) (x4 : Int32) (m : Mm) : Option ((Int32 × Mm) ⊕ (Bool × Mm)) := if ev_in (x4 + 1) L = true then ((d_312 20 (m 2 (ix (x4 + 1))) 266 m).bind fun r21 => if ev_in (x4 + 1) L = true then ((d_216 249 (r21.2 2 (ix (x4 + 1))) r21.2).bind fun r22 => (d_182 249 r22.2).bind fun v23 => if v23 = r21.1 then (if ¬ r21.1 = 0 then (wb (x4 + 7) fun y24 => some (.inl (y24, r22.2))) else (if ev_in 0 (sh_n 266) = true then (if (ilg (r22.2 266 (ix 0)) r22.1) = 0 then (wb (x4 + 7) fun y25 => some (.inl (y25, r22.2))) else (some (.inr (false, r22.2)))) else none)) else (some (.inr (false, r22.2)))) else none) else none
theorem t_348_437 {L nx : Nat} (hN : okn nx) {b z : Nat} (hb : 1 ≤ b) (hz : 6 ≤ z) {b0 z0 : Nat} (hb0 : b0 + 1 ≤ b + 4) (hz0 : z0 + 6 ≤ z + 24) {m : Mm} (h0 : ok nx 2 99) (h1 : ok nx 20 10) (h2 : ok nx 249 11) (h3 : ok nx 266 102) {x4 : Int32} {o5 : Option Value} {o6 : Option Value} {o7 : Option Value} {o8 : Option Value} : Im (d_348_437 L x4 m) (kM (wZ L nx) (fun b z => E_348_23 L nx b z) b0 z0) (ev_dn b z 348 437 [some (.ref 2), some (.ref 20), some (.ref 249), some (.ref 266), some (.int x4), o5, o6, o7, o8] [] (nx, mem L nx m)) := by
  unfold d_348_437
  refine i_bl (pc' := 443) [(.aload_n 1, 1), (.aload_n 0, 1), (.iload 4, 2), (.iconst 1, 1), (.iadd, 1)] [some (.ref 2), some (.ref 20), some (.ref 249), some (.ref 266), some (.int x4), o5, o6, o7, o8] [.int (x4 + 1), .ref 2, .ref 20] (by decide +kernel) rfl ?_
  refine i_aS (pc' := 444) L (by decide +kernel) rfl h0 ?_
  refine i_bl (pc' := 445) [(.aload_n 3, 1)] [some (.ref 2), some (.ref 20), some (.ref 249), some (.ref 266), some (.int x4), o5, o6, o7, o8] [.ref 266, .int (m 2 (ix (x4 + 1))), .ref 20] (by decide +kernel) rfl ?_
  refine i_ck (k1 := 1) (k2 := 6) (t := 312) (na := 3) (ml := 4) (idx := 170) (pc' := 448) (st' := []) (en := [some (.ref 20), some (.int (m 2 (ix (x4 + 1)))), some (.ref 266), none]) (av := [.ref 20, .int (m 2 (ix (x4 + 1))), .ref 266]) (vo := fun v => some (.int v.1)) (mo := fun v => v.2) (s2 := fun v => .int v.1 :: []) (by decide +kernel) ⟨rfl, rfl, rfl, rfl, rfl, rfl⟩ ⟨by omega, by omega⟩ (fun _ => rfl) (t_312 hN (b := 1) (z := 6) (by decide) (by decide) (h0 := h1) (h2 := h3)) (fun r21 => ?_)
  refine i_bl (pc' := 456) [(.istore 5, 2), (.aload_n 2, 1), (.aload_n 0, 1), (.iload 4, 2), (.iconst 1, 1), (.iadd, 1)] [some (.ref 2), some (.ref 20), some (.ref 249), some (.ref 266), some (.int x4), some (.int r21.1), o6, o7, o8] [.int (x4 + 1), .ref 2, .ref 249] (by decide +kernel) rfl ?_
  refine i_aS (pc' := 457) L (by decide +kernel) rfl h0 ?_
  refine i_cv (ci := 11) (t := 216) (na := 2) (ml := 2) (idx := 172) (pc' := 460) (st' := []) (en := [some (.ref 249), some (.int (r21.2 2 (ix (x4 + 1))))]) (av := [.int (r21.2 2 (ix (x4 + 1)))]) (vo := fun v => some (.int v.1)) (mo := fun v => v.2) (s2 := fun v => .int v.1 :: []) (by decide +kernel) (by decide +kernel) h2 ⟨rfl, rfl, rfl, rfl, rfl, rfl⟩ (fun _ => rfl) (t_216 hN (h0 := h2)) (fun r22 => ?_)
  refine i_bl (pc' := 463) [(.istore 6, 2), (.aload_n 2, 1)] [some (.ref 2), some (.ref 20), some (.ref 249), some (.ref 266), some (.int x4), some (.int r21.1), some (.int r22.1), o7, o8] [.ref 249] (by decide +kernel) rfl ?_
  refine i_cv (ci := 11) (t := 182) (na := 1) (ml := 1) (idx := 167) (pc' := 466) (st' := []) (en := [some (.ref 249)]) (av := []) (vo := fun v => some (.int v)) (mo := fun _ => r22.2) (s2 := fun v => .int v :: []) (by decide +kernel) (by decide +kernel) h2 ⟨rfl, rfl, rfl, rfl, rfl, rfl⟩ (fun _ => rfl) (t_182 hN (h0 := h2)) (fun v23 => ?_)
  refine i_bl (pc' := 468) [(.iload 5, 2)] [some (.ref 2), some (.ref 20), some (.ref 249), some (.ref 266), some (.int x4), some (.int r21.1), some (.int r22.1), o7, o8] [.int r21.1, .int v23] (by decide +kernel) rfl ?_
  refine i_ic (c := .eq) (off := 5) (t := 473) (pc' := 471) (p := v23 = r21.1) (by decide +kernel) rfl ?_ ?_
  · refine i_bl (pc' := 475) [(.iload 5, 2)] [some (.ref 2), some (.ref 20), some (.ref 249), some (.ref 266), some (.int x4), some (.int r21.1), some (.int r22.1), o7, o8] [.int r21.1] (by decide +kernel) rfl ?_
    refine i_if (c := .ne) (off := 15) (t := 490) (pc' := 478) (p := ¬ r21.1 = 0) (by decide +kernel) rfl ?_ ?_
    · refine i_go (t := 3271) (off := 2781) (by decide +kernel) ?_
      refine i_bl (pc' := 3274) [(.iinc 4 (7), 3)] [some (.ref 2), some (.ref 20), some (.ref 249), some (.ref 266), some (.int (x4 + 7)), some (.int r21.1), some (.int r22.1), o7, o8] [] (by decide +kernel) rfl ?_
      refine i_wb (fun y24 => ev_dn (b - 1) (z - 6) 348 3274 [some (.ref 2), some (.ref 20), some (.ref 249), some (.ref 266), some (.int y24), some (.int r21.1), some (.int r22.1), o7, o8] [] (nx, mem L nx r22.2)) (fun y24 => ?_)
      refine i_go (t := 23) (off := -3251) (by decide +kernel) ?_
      exact i_cL (some (.int r21.1), some (.int r22.1), o7, o8) (b - 1) (z - 6) (by omega) (by omega) rfl
    · refine i_bl (pc' := 480) [(.aload_n 3, 1), (.iconst 0, 1)] [some (.ref 2), some (.ref 20), some (.ref 249), some (.ref 266), some (.int x4), some (.int r21.1), some (.int r22.1), o7, o8] [.int 0, .ref 266] (by decide +kernel) rfl ?_
      refine i_ll (pc' := 481) (by decide +kernel) h3 ?_
      refine i_bl (pc' := 484) [(.iload 6, 2), (.i2l, 1)] [some (.ref 2), some (.ref 20), some (.ref 249), some (.ref 266), some (.int x4), some (.int r21.1), some (.int r22.1), o7, o8] [.long r22.1.toInt64, .long (r22.2 266 (ix 0)).toInt64] (by decide +kernel) rfl ?_
      refine i_lcm (x := (r22.2 266 (ix 0))) (y := r22.1) (pc' := 485) (by decide +kernel) ?_
      refine i_if (c := .eq) (off := 5) (t := 490) (pc' := 488) (p := (ilg (r22.2 266 (ix 0)) r22.1) = 0) (by decide +kernel) rfl ?_ ?_
      · refine i_go (t := 3271) (off := 2781) (by decide +kernel) ?_
        refine i_bl (pc' := 3274) [(.iinc 4 (7), 3)] [some (.ref 2), some (.ref 20), some (.ref 249), some (.ref 266), some (.int (x4 + 7)), some (.int r21.1), some (.int r22.1), o7, o8] [] (by decide +kernel) rfl ?_
        refine i_wb (fun y25 => ev_dn (b - 1) (z - 6) 348 3274 [some (.ref 2), some (.ref 20), some (.ref 249), some (.ref 266), some (.int y25), some (.int r21.1), some (.int r22.1), o7, o8] [] (nx, mem L nx r22.2)) (fun y25 => ?_)
        refine i_go (t := 23) (off := -3251) (by decide +kernel) ?_
        exact i_cL (some (.int r21.1), some (.int r22.1), o7, o8) (b - 1) (z - 6) (by omega) (by omega) rfl
      · refine i_bl (pc' := 489) [(.iconst 0, 1)] [some (.ref 2), some (.ref 20), some (.ref 249), some (.ref 266), some (.int x4), some (.int r21.1), some (.int r22.1), o7, o8] [.int 0] (by decide +kernel) rfl ?_
        exact i_iM (i_rz (B := false) (by decide +kernel) rfl)
  · refine i_bl (pc' := 472) [(.iconst 0, 1)] [some (.ref 2), some (.ref 20), some (.ref 249), some (.ref 266), some (.int x4), some (.int r21.1), some (.int r22.1), o7, o8] [.int 0] (by decide +kernel) rfl ?_
    exact i_iM (i_rz (B := false) (by decide +kernel) rfl)

noncomputable def d_348_493 (L : Nat) (x4 : Int32) (m : Mm) : Option ((Int32 × Mm) ⊕ (Bool × Mm)) := if ev_in (x4 + 1) L = true then (if ev_in (x4 + 2) L = true then (if ev_in (x4 + 3) L = true then ((d_313 20 (m 2 (ix (x4 + 1))) (m 2 (ix (x4 + 2))) (m 2 (ix (x4 + 3))) 266 m).bind fun r26 => if ev_in (x4 + 1) L = true then (if ev_in (x4 + 2) L = true then (if ev_in (x4 + 3) L = true then ((d_217 249 (r26.2 2 (ix (x4 + 1))) (r26.2 2 (ix (x4 + 2))) (r26.2 2 (ix (x4 + 3))) r26.2).bind fun r27 => (d_182 249 r27.2).bind fun v28 => if v28 = r26.1 then (if ¬ r26.1 = 0 then (wb (x4 + 7) fun y29 => some (.inl (y29, r27.2))) else (if ev_in 0 (sh_n 266) = true then (if (ilg (r27.2 266 (ix 0)) r27.1) = 0 then (wb (x4 + 7) fun y30 => some (.inl (y30, r27.2))) else (some (.inr (false, r27.2)))) else none)) else (some (.inr (false, r27.2)))) else none) else none) else none) else none) else none) else none
theorem t_348_493 {L nx : Nat} (hN : okn nx) {b z : Nat} (hb : 2 ≤ b) (hz : 12 ≤ z) {b0 z0 : Nat} (hb0 : b0 + 2 ≤ b + 4) (hz0 : z0 + 12 ≤ z + 24) {m : Mm} (h0 : ok nx 2 99) (h1 : ok nx 20 10) (h2 : ok nx 249 11) (h3 : ok nx 266 102) {x4 : Int32} {o5 : Option Value} {o6 : Option Value} {o7 : Option Value} {o8 : Option Value} : Im (d_348_493 L x4 m) (kM (wZ L nx) (fun b z => E_348_23 L nx b z) b0 z0) (ev_dn b z 348 493 [some (.ref 2), some (.ref 20), some (.ref 249), some (.ref 266), some (.int x4), o5, o6, o7, o8] [] (nx, mem L nx m)) := by
  unfold d_348_493
  refine i_bl (pc' := 499) [(.aload_n 1, 1), (.aload_n 0, 1), (.iload 4, 2), (.iconst 1, 1), (.iadd, 1)] [some (.ref 2), some (.ref 20), some (.ref 249), some (.ref 266), some (.int x4), o5, o6, o7, o8] [.int (x4 + 1), .ref 2, .ref 20] (by decide +kernel) rfl ?_
  refine i_aS (pc' := 500) L (by decide +kernel) rfl h0 ?_
  refine i_bl (pc' := 505) [(.aload_n 0, 1), (.iload 4, 2), (.iconst 2, 1), (.iadd, 1)] [some (.ref 2), some (.ref 20), some (.ref 249), some (.ref 266), some (.int x4), o5, o6, o7, o8] [.int (x4 + 2), .ref 2, .int (m 2 (ix (x4 + 1))), .ref 20] (by decide +kernel) rfl ?_
  refine i_aS (pc' := 506) L (by decide +kernel) rfl h0 ?_
  refine i_bl (pc' := 511) [(.aload_n 0, 1), (.iload 4, 2), (.iconst 3, 1), (.iadd, 1)] [some (.ref 2), some (.ref 20), some (.ref 249), some (.ref 266), some (.int x4), o5, o6, o7, o8] [.int (x4 + 3), .ref 2, .int (m 2 (ix (x4 + 2))), .int (m 2 (ix (x4 + 1))), .ref 20] (by decide +kernel) rfl ?_
  refine i_aS (pc' := 512) L (by decide +kernel) rfl h0 ?_
  refine i_bl (pc' := 513) [(.aload_n 3, 1)] [some (.ref 2), some (.ref 20), some (.ref 249), some (.ref 266), some (.int x4), o5, o6, o7, o8] [.ref 266, .int (m 2 (ix (x4 + 3))), .int (m 2 (ix (x4 + 2))), .int (m 2 (ix (x4 + 1))), .ref 20] (by decide +kernel) rfl ?_
  refine i_ck (k1 := 2) (k2 := 12) (t := 313) (na := 5) (ml := 6) (idx := 173) (pc' := 516) (st' := []) (en := [some (.ref 20), some (.int (m 2 (ix (x4 + 1)))), some (.int (m 2 (ix (x4 + 2)))), some (.int (m 2 (ix (x4 + 3)))), some (.ref 266), none]) (av := [.ref 20, .int (m 2 (ix (x4 + 1))), .int (m 2 (ix (x4 + 2))), .int (m 2 (ix (x4 + 3))), .ref 266]) (vo := fun v => some (.int v.1)) (mo := fun v => v.2) (s2 := fun v => .int v.1 :: []) (by decide +kernel) ⟨rfl, rfl, rfl, rfl, rfl, rfl⟩ ⟨by omega, by omega⟩ (fun _ => rfl) (t_313 hN (b := 2) (z := 12) (by decide) (by decide) (h0 := h1) (h4 := h3)) (fun r26 => ?_)
  refine i_bl (pc' := 524) [(.istore 5, 2), (.aload_n 2, 1), (.aload_n 0, 1), (.iload 4, 2), (.iconst 1, 1), (.iadd, 1)] [some (.ref 2), some (.ref 20), some (.ref 249), some (.ref 266), some (.int x4), some (.int r26.1), o6, o7, o8] [.int (x4 + 1), .ref 2, .ref 249] (by decide +kernel) rfl ?_
  refine i_aS (pc' := 525) L (by decide +kernel) rfl h0 ?_
  refine i_bl (pc' := 530) [(.aload_n 0, 1), (.iload 4, 2), (.iconst 2, 1), (.iadd, 1)] [some (.ref 2), some (.ref 20), some (.ref 249), some (.ref 266), some (.int x4), some (.int r26.1), o6, o7, o8] [.int (x4 + 2), .ref 2, .int (r26.2 2 (ix (x4 + 1))), .ref 249] (by decide +kernel) rfl ?_
  refine i_aS (pc' := 531) L (by decide +kernel) rfl h0 ?_
  refine i_bl (pc' := 536) [(.aload_n 0, 1), (.iload 4, 2), (.iconst 3, 1), (.iadd, 1)] [some (.ref 2), some (.ref 20), some (.ref 249), some (.ref 266), some (.int x4), some (.int r26.1), o6, o7, o8] [.int (x4 + 3), .ref 2, .int (r26.2 2 (ix (x4 + 2))), .int (r26.2 2 (ix (x4 + 1))), .ref 249] (by decide +kernel) rfl ?_
  refine i_aS (pc' := 537) L (by decide +kernel) rfl h0 ?_
  refine i_cv (ci := 11) (t := 217) (na := 4) (ml := 4) (idx := 176) (pc' := 540) (st' := []) (en := [some (.ref 249), some (.int (r26.2 2 (ix (x4 + 1)))), some (.int (r26.2 2 (ix (x4 + 2)))), some (.int (r26.2 2 (ix (x4 + 3))))]) (av := [.int (r26.2 2 (ix (x4 + 1))), .int (r26.2 2 (ix (x4 + 2))), .int (r26.2 2 (ix (x4 + 3)))]) (vo := fun v => some (.int v.1)) (mo := fun v => v.2) (s2 := fun v => .int v.1 :: []) (by decide +kernel) (by decide +kernel) h2 ⟨rfl, rfl, rfl, rfl, rfl, rfl⟩ (fun _ => rfl) (t_217 hN (h0 := h2)) (fun r27 => ?_)
  refine i_bl (pc' := 543) [(.istore 6, 2), (.aload_n 2, 1)] [some (.ref 2), some (.ref 20), some (.ref 249), some (.ref 266), some (.int x4), some (.int r26.1), some (.int r27.1), o7, o8] [.ref 249] (by decide +kernel) rfl ?_
  refine i_cv (ci := 11) (t := 182) (na := 1) (ml := 1) (idx := 167) (pc' := 546) (st' := []) (en := [some (.ref 249)]) (av := []) (vo := fun v => some (.int v)) (mo := fun _ => r27.2) (s2 := fun v => .int v :: []) (by decide +kernel) (by decide +kernel) h2 ⟨rfl, rfl, rfl, rfl, rfl, rfl⟩ (fun _ => rfl) (t_182 hN (h0 := h2)) (fun v28 => ?_)
  refine i_bl (pc' := 548) [(.iload 5, 2)] [some (.ref 2), some (.ref 20), some (.ref 249), some (.ref 266), some (.int x4), some (.int r26.1), some (.int r27.1), o7, o8] [.int r26.1, .int v28] (by decide +kernel) rfl ?_
  refine i_ic (c := .eq) (off := 5) (t := 553) (pc' := 551) (p := v28 = r26.1) (by decide +kernel) rfl ?_ ?_
  · refine i_bl (pc' := 555) [(.iload 5, 2)] [some (.ref 2), some (.ref 20), some (.ref 249), some (.ref 266), some (.int x4), some (.int r26.1), some (.int r27.1), o7, o8] [.int r26.1] (by decide +kernel) rfl ?_
    refine i_if (c := .ne) (off := 15) (t := 570) (pc' := 558) (p := ¬ r26.1 = 0) (by decide +kernel) rfl ?_ ?_
    · refine i_go (t := 3271) (off := 2701) (by decide +kernel) ?_
      refine i_bl (pc' := 3274) [(.iinc 4 (7), 3)] [some (.ref 2), some (.ref 20), some (.ref 249), some (.ref 266), some (.int (x4 + 7)), some (.int r26.1), some (.int r27.1), o7, o8] [] (by decide +kernel) rfl ?_
      refine i_wb (fun y29 => ev_dn (b - 2) (z - 12) 348 3274 [some (.ref 2), some (.ref 20), some (.ref 249), some (.ref 266), some (.int y29), some (.int r26.1), some (.int r27.1), o7, o8] [] (nx, mem L nx r27.2)) (fun y29 => ?_)
      refine i_go (t := 23) (off := -3251) (by decide +kernel) ?_
      exact i_cL (some (.int r26.1), some (.int r27.1), o7, o8) (b - 2) (z - 12) (by omega) (by omega) rfl
    · refine i_bl (pc' := 560) [(.aload_n 3, 1), (.iconst 0, 1)] [some (.ref 2), some (.ref 20), some (.ref 249), some (.ref 266), some (.int x4), some (.int r26.1), some (.int r27.1), o7, o8] [.int 0, .ref 266] (by decide +kernel) rfl ?_
      refine i_ll (pc' := 561) (by decide +kernel) h3 ?_
      refine i_bl (pc' := 564) [(.iload 6, 2), (.i2l, 1)] [some (.ref 2), some (.ref 20), some (.ref 249), some (.ref 266), some (.int x4), some (.int r26.1), some (.int r27.1), o7, o8] [.long r27.1.toInt64, .long (r27.2 266 (ix 0)).toInt64] (by decide +kernel) rfl ?_
      refine i_lcm (x := (r27.2 266 (ix 0))) (y := r27.1) (pc' := 565) (by decide +kernel) ?_
      refine i_if (c := .eq) (off := 5) (t := 570) (pc' := 568) (p := (ilg (r27.2 266 (ix 0)) r27.1) = 0) (by decide +kernel) rfl ?_ ?_
      · refine i_go (t := 3271) (off := 2701) (by decide +kernel) ?_
        refine i_bl (pc' := 3274) [(.iinc 4 (7), 3)] [some (.ref 2), some (.ref 20), some (.ref 249), some (.ref 266), some (.int (x4 + 7)), some (.int r26.1), some (.int r27.1), o7, o8] [] (by decide +kernel) rfl ?_
        refine i_wb (fun y30 => ev_dn (b - 2) (z - 12) 348 3274 [some (.ref 2), some (.ref 20), some (.ref 249), some (.ref 266), some (.int y30), some (.int r26.1), some (.int r27.1), o7, o8] [] (nx, mem L nx r27.2)) (fun y30 => ?_)
        refine i_go (t := 23) (off := -3251) (by decide +kernel) ?_
        exact i_cL (some (.int r26.1), some (.int r27.1), o7, o8) (b - 2) (z - 12) (by omega) (by omega) rfl
      · refine i_bl (pc' := 569) [(.iconst 0, 1)] [some (.ref 2), some (.ref 20), some (.ref 249), some (.ref 266), some (.int x4), some (.int r26.1), some (.int r27.1), o7, o8] [.int 0] (by decide +kernel) rfl ?_
        exact i_iM (i_rz (B := false) (by decide +kernel) rfl)
  · refine i_bl (pc' := 552) [(.iconst 0, 1)] [some (.ref 2), some (.ref 20), some (.ref 249), some (.ref 266), some (.int x4), some (.int r26.1), some (.int r27.1), o7, o8] [.int 0] (by decide +kernel) rfl ?_
    exact i_iM (i_rz (B := false) (by decide +kernel) rfl)

noncomputable def d_348_689 (L : Nat) (x4 : Int32) (s0 : Int32) (s1 : Int32) (m : Mm) : Option ((Int32 × Mm) ⊕ (Bool × Mm)) := if (ilg s0 s1) = 0 then (wb (x4 + 7) fun y35 => some (.inl (y35, m))) else (some (.inr (false, m)))
theorem t_348_689 {L nx : Nat} (hN : okn nx) {b z : Nat} {b0 z0 : Nat} (hb0 : b0 + 0 ≤ b + 4) (hz0 : z0 + 0 ≤ z + 24) {m : Mm} (h0 : ok nx 2 99) (h1 : ok nx 20 10) (h2 : ok nx 249 11) (h3 : ok nx 266 102) {x4 : Int32} {s0 : Int32} {s1 : Int32} {o5 : Option Value} {o6 : Option Value} {o7 : Option Value} {o8 : Option Value} : Im (d_348_689 L x4 s0 s1 m) (kM (wZ L nx) (fun b z => E_348_23 L nx b z) b0 z0) (ev_dn b z 348 689 [some (.ref 2), some (.ref 20), some (.ref 249), some (.ref 266), some (.int x4), o5, o6, o7, o8] [.long s1.toInt64, .long s0.toInt64] (nx, mem L nx m)) := by
  unfold d_348_689
  refine i_lcm (x := s0) (y := s1) (pc' := 690) (by decide +kernel) ?_
  refine i_if (c := .eq) (off := 5) (t := 695) (pc' := 693) (p := (ilg s0 s1) = 0) (by decide +kernel) rfl ?_ ?_
  · refine i_go (t := 3271) (off := 2576) (by decide +kernel) ?_
    refine i_bl (pc' := 3274) [(.iinc 4 (7), 3)] [some (.ref 2), some (.ref 20), some (.ref 249), some (.ref 266), some (.int (x4 + 7)), o5, o6, o7, o8] [] (by decide +kernel) rfl ?_
    refine i_wb (fun y35 => ev_dn b z 348 3274 [some (.ref 2), some (.ref 20), some (.ref 249), some (.ref 266), some (.int y35), o5, o6, o7, o8] [] (nx, mem L nx m)) (fun y35 => ?_)
    refine i_go (t := 23) (off := -3251) (by decide +kernel) ?_
    exact i_cL (o5, o6, o7, o8) b z (by omega) (by omega) rfl
  · refine i_bl (pc' := 694) [(.iconst 0, 1)] [some (.ref 2), some (.ref 20), some (.ref 249), some (.ref 266), some (.int x4), o5, o6, o7, o8] [.int 0] (by decide +kernel) rfl ?_
    exact i_iM (i_rz (B := false) (by decide +kernel) rfl)

noncomputable def d_348_573 (L : Nat) (x4 : Int32) (m : Mm) : Option ((Int32 × Mm) ⊕ (Bool × Mm)) := if ev_in (x4 + 1) L = true then (if ev_in (x4 + 2) L = true then (if ev_in (x4 + 3) L = true then (if ev_in (x4 + 4) L = true then (if ev_in (x4 + 5) L = true then (if ev_in (x4 + 6) L = true then ((d_314 20 (m 2 (ix (x4 + 1))) (m 2 (ix (x4 + 2))) (m 2 (ix (x4 + 3))) (m 2 (ix (x4 + 4))) (m 2 (ix (x4 + 5))) (m 2 (ix (x4 + 6))) 266 m).bind fun r31 => if ev_in (x4 + 1) L = true then (if ev_in (x4 + 2) L = true then (if ev_in (x4 + 3) L = true then (if ev_in (x4 + 4) L = true then (if ev_in (x4 + 5) L = true then (if ev_in (x4 + 6) L = true then ((d_218 249 (r31.2 2 (ix (x4 + 1))) (r31.2 2 (ix (x4 + 2))) (r31.2 2 (ix (x4 + 3))) (r31.2 2 (ix (x4 + 4))) (r31.2 2 (ix (x4 + 5))) (r31.2 2 (ix (x4 + 6))) r31.2).bind fun r32 => (d_182 249 r32.2).bind fun v33 => if v33 = r31.1 then (if ¬ r31.1 = 0 then (wb (x4 + 7) fun y34 => some (.inl (y34, r32.2))) else (if ev_in 0 (sh_n 266) = true then (if r32.1 = true then (d_348_689 L x4 (r32.2 266 (ix 0)) 1 r32.2) else (d_348_689 L x4 (r32.2 266 (ix 0)) 0 r32.2)) else none)) else (some (.inr (false, r32.2)))) else none) else none) else none) else none) else none) else none) else none) else none) else none) else none) else none) else none
theorem t_348_573 {L nx : Nat} (hN : okn nx) {b z : Nat} (hb : 4 ≤ b) (hz : 24 ≤ z) {b0 z0 : Nat} (hb0 : b0 + 4 ≤ b + 4) (hz0 : z0 + 24 ≤ z + 24) {m : Mm} (h0 : ok nx 2 99) (h1 : ok nx 20 10) (h2 : ok nx 249 11) (h3 : ok nx 266 102) {x4 : Int32} {o5 : Option Value} {o6 : Option Value} {o7 : Option Value} {o8 : Option Value} : Im (d_348_573 L x4 m) (kM (wZ L nx) (fun b z => E_348_23 L nx b z) b0 z0) (ev_dn b z 348 573 [some (.ref 2), some (.ref 20), some (.ref 249), some (.ref 266), some (.int x4), o5, o6, o7, o8] [] (nx, mem L nx m)) := by
  unfold d_348_573
  refine i_bl (pc' := 579) [(.aload_n 1, 1), (.aload_n 0, 1), (.iload 4, 2), (.iconst 1, 1), (.iadd, 1)] [some (.ref 2), some (.ref 20), some (.ref 249), some (.ref 266), some (.int x4), o5, o6, o7, o8] [.int (x4 + 1), .ref 2, .ref 20] (by decide +kernel) rfl ?_
  refine i_aS (pc' := 580) L (by decide +kernel) rfl h0 ?_
  refine i_bl (pc' := 585) [(.aload_n 0, 1), (.iload 4, 2), (.iconst 2, 1), (.iadd, 1)] [some (.ref 2), some (.ref 20), some (.ref 249), some (.ref 266), some (.int x4), o5, o6, o7, o8] [.int (x4 + 2), .ref 2, .int (m 2 (ix (x4 + 1))), .ref 20] (by decide +kernel) rfl ?_
  refine i_aS (pc' := 586) L (by decide +kernel) rfl h0 ?_
  refine i_bl (pc' := 591) [(.aload_n 0, 1), (.iload 4, 2), (.iconst 3, 1), (.iadd, 1)] [some (.ref 2), some (.ref 20), some (.ref 249), some (.ref 266), some (.int x4), o5, o6, o7, o8] [.int (x4 + 3), .ref 2, .int (m 2 (ix (x4 + 2))), .int (m 2 (ix (x4 + 1))), .ref 20] (by decide +kernel) rfl ?_
  refine i_aS (pc' := 592) L (by decide +kernel) rfl h0 ?_
  refine i_bl (pc' := 597) [(.aload_n 0, 1), (.iload 4, 2), (.iconst 4, 1), (.iadd, 1)] [some (.ref 2), some (.ref 20), some (.ref 249), some (.ref 266), some (.int x4), o5, o6, o7, o8] [.int (x4 + 4), .ref 2, .int (m 2 (ix (x4 + 3))), .int (m 2 (ix (x4 + 2))), .int (m 2 (ix (x4 + 1))), .ref 20] (by decide +kernel) rfl ?_
  refine i_aS (pc' := 598) L (by decide +kernel) rfl h0 ?_
  refine i_bl (pc' := 603) [(.aload_n 0, 1), (.iload 4, 2), (.iconst 5, 1), (.iadd, 1)] [some (.ref 2), some (.ref 20), some (.ref 249), some (.ref 266), some (.int x4), o5, o6, o7, o8] [.int (x4 + 5), .ref 2, .int (m 2 (ix (x4 + 4))), .int (m 2 (ix (x4 + 3))), .int (m 2 (ix (x4 + 2))), .int (m 2 (ix (x4 + 1))), .ref 20] (by decide +kernel) rfl ?_
  refine i_aS (pc' := 604) L (by decide +kernel) rfl h0 ?_
  refine i_bl (pc' := 610) [(.aload_n 0, 1), (.iload 4, 2), (.bipush (6), 2), (.iadd, 1)] [some (.ref 2), some (.ref 20), some (.ref 249), some (.ref 266), some (.int x4), o5, o6, o7, o8] [.int (x4 + 6), .ref 2, .int (m 2 (ix (x4 + 5))), .int (m 2 (ix (x4 + 4))), .int (m 2 (ix (x4 + 3))), .int (m 2 (ix (x4 + 2))), .int (m 2 (ix (x4 + 1))), .ref 20] (by decide +kernel) rfl ?_
  refine i_aS (pc' := 611) L (by decide +kernel) rfl h0 ?_
  refine i_bl (pc' := 612) [(.aload_n 3, 1)] [some (.ref 2), some (.ref 20), some (.ref 249), some (.ref 266), some (.int x4), o5, o6, o7, o8] [.ref 266, .int (m 2 (ix (x4 + 6))), .int (m 2 (ix (x4 + 5))), .int (m 2 (ix (x4 + 4))), .int (m 2 (ix (x4 + 3))), .int (m 2 (ix (x4 + 2))), .int (m 2 (ix (x4 + 1))), .ref 20] (by decide +kernel) rfl ?_
  refine i_ck (k1 := 4) (k2 := 24) (t := 314) (na := 8) (ml := 9) (idx := 177) (pc' := 615) (st' := []) (en := [some (.ref 20), some (.int (m 2 (ix (x4 + 1)))), some (.int (m 2 (ix (x4 + 2)))), some (.int (m 2 (ix (x4 + 3)))), some (.int (m 2 (ix (x4 + 4)))), some (.int (m 2 (ix (x4 + 5)))), some (.int (m 2 (ix (x4 + 6)))), some (.ref 266), none]) (av := [.ref 20, .int (m 2 (ix (x4 + 1))), .int (m 2 (ix (x4 + 2))), .int (m 2 (ix (x4 + 3))), .int (m 2 (ix (x4 + 4))), .int (m 2 (ix (x4 + 5))), .int (m 2 (ix (x4 + 6))), .ref 266]) (vo := fun v => some (.int v.1)) (mo := fun v => v.2) (s2 := fun v => .int v.1 :: []) (by decide +kernel) ⟨rfl, rfl, rfl, rfl, rfl, rfl⟩ ⟨by omega, by omega⟩ (fun _ => rfl) (t_314 hN (b := 4) (z := 24) (by decide) (by decide) (h0 := h1) (h7 := h3)) (fun r31 => ?_)
  refine i_bl (pc' := 623) [(.istore 5, 2), (.aload_n 2, 1), (.aload_n 0, 1), (.iload 4, 2), (.iconst 1, 1), (.iadd, 1)] [some (.ref 2), some (.ref 20), some (.ref 249), some (.ref 266), some (.int x4), some (.int r31.1), o6, o7, o8] [.int (x4 + 1), .ref 2, .ref 249] (by decide +kernel) rfl ?_
  refine i_aS (pc' := 624) L (by decide +kernel) rfl h0 ?_
  refine i_bl (pc' := 629) [(.aload_n 0, 1), (.iload 4, 2), (.iconst 2, 1), (.iadd, 1)] [some (.ref 2), some (.ref 20), some (.ref 249), some (.ref 266), some (.int x4), some (.int r31.1), o6, o7, o8] [.int (x4 + 2), .ref 2, .int (r31.2 2 (ix (x4 + 1))), .ref 249] (by decide +kernel) rfl ?_
  refine i_aS (pc' := 630) L (by decide +kernel) rfl h0 ?_
  refine i_bl (pc' := 635) [(.aload_n 0, 1), (.iload 4, 2), (.iconst 3, 1), (.iadd, 1)] [some (.ref 2), some (.ref 20), some (.ref 249), some (.ref 266), some (.int x4), some (.int r31.1), o6, o7, o8] [.int (x4 + 3), .ref 2, .int (r31.2 2 (ix (x4 + 2))), .int (r31.2 2 (ix (x4 + 1))), .ref 249] (by decide +kernel) rfl ?_
  refine i_aS (pc' := 636) L (by decide +kernel) rfl h0 ?_
  refine i_bl (pc' := 641) [(.aload_n 0, 1), (.iload 4, 2), (.iconst 4, 1), (.iadd, 1)] [some (.ref 2), some (.ref 20), some (.ref 249), some (.ref 266), some (.int x4), some (.int r31.1), o6, o7, o8] [.int (x4 + 4), .ref 2, .int (r31.2 2 (ix (x4 + 3))), .int (r31.2 2 (ix (x4 + 2))), .int (r31.2 2 (ix (x4 + 1))), .ref 249] (by decide +kernel) rfl ?_
  refine i_aS (pc' := 642) L (by decide +kernel) rfl h0 ?_
  refine i_bl (pc' := 647) [(.aload_n 0, 1), (.iload 4, 2), (.iconst 5, 1), (.iadd, 1)] [some (.ref 2), some (.ref 20), some (.ref 249), some (.ref 266), some (.int x4), some (.int r31.1), o6, o7, o8] [.int (x4 + 5), .ref 2, .int (r31.2 2 (ix (x4 + 4))), .int (r31.2 2 (ix (x4 + 3))), .int (r31.2 2 (ix (x4 + 2))), .int (r31.2 2 (ix (x4 + 1))), .ref 249] (by decide +kernel) rfl ?_
  refine i_aS (pc' := 648) L (by decide +kernel) rfl h0 ?_
  refine i_bl (pc' := 654) [(.aload_n 0, 1), (.iload 4, 2), (.bipush (6), 2), (.iadd, 1)] [some (.ref 2), some (.ref 20), some (.ref 249), some (.ref 266), some (.int x4), some (.int r31.1), o6, o7, o8] [.int (x4 + 6), .ref 2, .int (r31.2 2 (ix (x4 + 5))), .int (r31.2 2 (ix (x4 + 4))), .int (r31.2 2 (ix (x4 + 3))), .int (r31.2 2 (ix (x4 + 2))), .int (r31.2 2 (ix (x4 + 1))), .ref 249] (by decide +kernel) rfl ?_
  refine i_aS (pc' := 655) L (by decide +kernel) rfl h0 ?_
  refine i_cv (ci := 11) (t := 218) (na := 7) (ml := 7) (idx := 180) (pc' := 658) (st' := []) (en := [some (.ref 249), some (.int (r31.2 2 (ix (x4 + 1)))), some (.int (r31.2 2 (ix (x4 + 2)))), some (.int (r31.2 2 (ix (x4 + 3)))), some (.int (r31.2 2 (ix (x4 + 4)))), some (.int (r31.2 2 (ix (x4 + 5)))), some (.int (r31.2 2 (ix (x4 + 6))))]) (av := [.int (r31.2 2 (ix (x4 + 1))), .int (r31.2 2 (ix (x4 + 2))), .int (r31.2 2 (ix (x4 + 3))), .int (r31.2 2 (ix (x4 + 4))), .int (r31.2 2 (ix (x4 + 5))), .int (r31.2 2 (ix (x4 + 6)))]) (vo := fun v => some (.int (bi v.1))) (mo := fun v => v.2) (s2 := fun v => .int (bi v.1) :: []) (by decide +kernel) (by decide +kernel) h2 ⟨rfl, rfl, rfl, rfl, rfl, rfl⟩ (fun _ => rfl) (t_218 hN (h0 := h2)) (fun r32 => ?_)
  refine i_bl (pc' := 661) [(.istore 6, 2), (.aload_n 2, 1)] [some (.ref 2), some (.ref 20), some (.ref 249), some (.ref 266), some (.int x4), some (.int r31.1), some (.int (bi r32.1)), o7, o8] [.ref 249] (by decide +kernel) rfl ?_
  refine i_cv (ci := 11) (t := 182) (na := 1) (ml := 1) (idx := 167) (pc' := 664) (st' := []) (en := [some (.ref 249)]) (av := []) (vo := fun v => some (.int v)) (mo := fun _ => r32.2) (s2 := fun v => .int v :: []) (by decide +kernel) (by decide +kernel) h2 ⟨rfl, rfl, rfl, rfl, rfl, rfl⟩ (fun _ => rfl) (t_182 hN (h0 := h2)) (fun v33 => ?_)
  refine i_bl (pc' := 666) [(.iload 5, 2)] [some (.ref 2), some (.ref 20), some (.ref 249), some (.ref 266), some (.int x4), some (.int r31.1), some (.int (bi r32.1)), o7, o8] [.int r31.1, .int v33] (by decide +kernel) rfl ?_
  refine i_ic (c := .eq) (off := 5) (t := 671) (pc' := 669) (p := v33 = r31.1) (by decide +kernel) rfl ?_ ?_
  · refine i_bl (pc' := 673) [(.iload 5, 2)] [some (.ref 2), some (.ref 20), some (.ref 249), some (.ref 266), some (.int x4), some (.int r31.1), some (.int (bi r32.1)), o7, o8] [.int r31.1] (by decide +kernel) rfl ?_
    refine i_if (c := .ne) (off := 22) (t := 695) (pc' := 676) (p := ¬ r31.1 = 0) (by decide +kernel) rfl ?_ ?_
    · refine i_go (t := 3271) (off := 2576) (by decide +kernel) ?_
      refine i_bl (pc' := 3274) [(.iinc 4 (7), 3)] [some (.ref 2), some (.ref 20), some (.ref 249), some (.ref 266), some (.int (x4 + 7)), some (.int r31.1), some (.int (bi r32.1)), o7, o8] [] (by decide +kernel) rfl ?_
      refine i_wb (fun y34 => ev_dn (b - 4) (z - 24) 348 3274 [some (.ref 2), some (.ref 20), some (.ref 249), some (.ref 266), some (.int y34), some (.int r31.1), some (.int (bi r32.1)), o7, o8] [] (nx, mem L nx r32.2)) (fun y34 => ?_)
      refine i_go (t := 23) (off := -3251) (by decide +kernel) ?_
      exact i_cL (some (.int r31.1), some (.int (bi r32.1)), o7, o8) (b - 4) (z - 24) (by omega) (by omega) rfl
    · refine i_bl (pc' := 678) [(.aload_n 3, 1), (.iconst 0, 1)] [some (.ref 2), some (.ref 20), some (.ref 249), some (.ref 266), some (.int x4), some (.int r31.1), some (.int (bi r32.1)), o7, o8] [.int 0, .ref 266] (by decide +kernel) rfl ?_
      refine i_ll (pc' := 679) (by decide +kernel) h3 ?_
      refine i_bl (pc' := 681) [(.iload 6, 2)] [some (.ref 2), some (.ref 20), some (.ref 249), some (.ref 266), some (.int x4), some (.int r31.1), some (.int (bi r32.1)), o7, o8] [.int (bi r32.1), .long (r32.2 266 (ix 0)).toInt64] (by decide +kernel) rfl ?_
      refine i_bz (off := 7) (t := 688) (pc' := 684) (by decide +kernel) ?_ ?_
      · refine i_bl (pc' := 685) [(.lconst 1, 1)] [some (.ref 2), some (.ref 20), some (.ref 249), some (.ref 266), some (.int x4), some (.int r31.1), some (.int (bi r32.1)), o7, o8] [.long (1 : Int32).toInt64, .long (r32.2 266 (ix 0)).toInt64] (by decide +kernel) rfl ?_
        refine i_go (t := 689) (off := 4) (by decide +kernel) ?_
        exact t_348_689 hN (by omega) (by omega) (h0 := h0) (h1 := h1) (h2 := h2) (h3 := h3)
      · refine i_bl (pc' := 689) [(.lconst 0, 1)] [some (.ref 2), some (.ref 20), some (.ref 249), some (.ref 266), some (.int x4), some (.int r31.1), some (.int (bi r32.1)), o7, o8] [.long (0 : Int32).toInt64, .long (r32.2 266 (ix 0)).toInt64] (by decide +kernel) rfl ?_
        exact t_348_689 hN (by omega) (by omega) (h0 := h0) (h1 := h1) (h2 := h2) (h3 := h3)
  · refine i_bl (pc' := 670) [(.iconst 0, 1)] [some (.ref 2), some (.ref 20), some (.ref 249), some (.ref 266), some (.int x4), some (.int r31.1), some (.int (bi r32.1)), o7, o8] [.int 0] (by decide +kernel) rfl ?_
    exact i_iM (i_rz (B := false) (by decide +kernel) rfl)

noncomputable def d_348_698 (L : Nat) (x4 : Int32) (m : Mm) : Option ((Int32 × Mm) ⊕ (Bool × Mm)) := if ev_in (x4 + 1) L = true then (if ev_in (x4 + 2) L = true then ((d_315 20 (m 2 (ix (x4 + 1))) (m 2 (ix (x4 + 2))) 266 m).bind fun r36 => if ev_in (x4 + 1) L = true then (if ev_in (x4 + 2) L = true then ((d_219 249 (r36.2 2 (ix (x4 + 1))) (r36.2 2 (ix (x4 + 2))) r36.2).bind fun r37 => (d_182 249 r37.2).bind fun v38 => if v38 = r36.1 then (if ¬ r36.1 = 0 then (wb (x4 + 7) fun y39 => some (.inl (y39, r37.2))) else (if ev_in 0 (sh_n 266) = true then (if (ilg (r37.2 266 (ix 0)) r37.1) = 0 then (wb (x4 + 7) fun y40 => some (.inl (y40, r37.2))) else (some (.inr (false, r37.2)))) else none)) else (some (.inr (false, r37.2)))) else none) else none) else none) else none
theorem t_348_698 {L nx : Nat} (hN : okn nx) {b z : Nat} (hb : 2 ≤ b) (hz : 12 ≤ z) {b0 z0 : Nat} (hb0 : b0 + 2 ≤ b + 4) (hz0 : z0 + 12 ≤ z + 24) {m : Mm} (h0 : ok nx 2 99) (h1 : ok nx 20 10) (h2 : ok nx 249 11) (h3 : ok nx 266 102) {x4 : Int32} {o5 : Option Value} {o6 : Option Value} {o7 : Option Value} {o8 : Option Value} : Im (d_348_698 L x4 m) (kM (wZ L nx) (fun b z => E_348_23 L nx b z) b0 z0) (ev_dn b z 348 698 [some (.ref 2), some (.ref 20), some (.ref 249), some (.ref 266), some (.int x4), o5, o6, o7, o8] [] (nx, mem L nx m)) := by
  unfold d_348_698
  refine i_bl (pc' := 704) [(.aload_n 1, 1), (.aload_n 0, 1), (.iload 4, 2), (.iconst 1, 1), (.iadd, 1)] [some (.ref 2), some (.ref 20), some (.ref 249), some (.ref 266), some (.int x4), o5, o6, o7, o8] [.int (x4 + 1), .ref 2, .ref 20] (by decide +kernel) rfl ?_
  refine i_aS (pc' := 705) L (by decide +kernel) rfl h0 ?_
  refine i_bl (pc' := 710) [(.aload_n 0, 1), (.iload 4, 2), (.iconst 2, 1), (.iadd, 1)] [some (.ref 2), some (.ref 20), some (.ref 249), some (.ref 266), some (.int x4), o5, o6, o7, o8] [.int (x4 + 2), .ref 2, .int (m 2 (ix (x4 + 1))), .ref 20] (by decide +kernel) rfl ?_
  refine i_aS (pc' := 711) L (by decide +kernel) rfl h0 ?_
  refine i_bl (pc' := 712) [(.aload_n 3, 1)] [some (.ref 2), some (.ref 20), some (.ref 249), some (.ref 266), some (.int x4), o5, o6, o7, o8] [.ref 266, .int (m 2 (ix (x4 + 2))), .int (m 2 (ix (x4 + 1))), .ref 20] (by decide +kernel) rfl ?_
  refine i_ck (k1 := 2) (k2 := 12) (t := 315) (na := 4) (ml := 5) (idx := 181) (pc' := 715) (st' := []) (en := [some (.ref 20), some (.int (m 2 (ix (x4 + 1)))), some (.int (m 2 (ix (x4 + 2)))), some (.ref 266), none]) (av := [.ref 20, .int (m 2 (ix (x4 + 1))), .int (m 2 (ix (x4 + 2))), .ref 266]) (vo := fun v => some (.int v.1)) (mo := fun v => v.2) (s2 := fun v => .int v.1 :: []) (by decide +kernel) ⟨rfl, rfl, rfl, rfl, rfl, rfl⟩ ⟨by omega, by omega⟩ (fun _ => rfl) (t_315 hN (b := 2) (z := 12) (by decide) (by decide) (h0 := h1) (h3 := h3)) (fun r36 => ?_)
  refine i_bl (pc' := 723) [(.istore 5, 2), (.aload_n 2, 1), (.aload_n 0, 1), (.iload 4, 2), (.iconst 1, 1), (.iadd, 1)] [some (.ref 2), some (.ref 20), some (.ref 249), some (.ref 266), some (.int x4), some (.int r36.1), o6, o7, o8] [.int (x4 + 1), .ref 2, .ref 249] (by decide +kernel) rfl ?_
  refine i_aS (pc' := 724) L (by decide +kernel) rfl h0 ?_
  refine i_bl (pc' := 729) [(.aload_n 0, 1), (.iload 4, 2), (.iconst 2, 1), (.iadd, 1)] [some (.ref 2), some (.ref 20), some (.ref 249), some (.ref 266), some (.int x4), some (.int r36.1), o6, o7, o8] [.int (x4 + 2), .ref 2, .int (r36.2 2 (ix (x4 + 1))), .ref 249] (by decide +kernel) rfl ?_
  refine i_aS (pc' := 730) L (by decide +kernel) rfl h0 ?_
  refine i_cv (ci := 11) (t := 219) (na := 3) (ml := 3) (idx := 184) (pc' := 733) (st' := []) (en := [some (.ref 249), some (.int (r36.2 2 (ix (x4 + 1)))), some (.int (r36.2 2 (ix (x4 + 2))))]) (av := [.int (r36.2 2 (ix (x4 + 1))), .int (r36.2 2 (ix (x4 + 2)))]) (vo := fun v => some (.int v.1)) (mo := fun v => v.2) (s2 := fun v => .int v.1 :: []) (by decide +kernel) (by decide +kernel) h2 ⟨rfl, rfl, rfl, rfl, rfl, rfl⟩ (fun _ => rfl) (t_219 hN (h0 := h2)) (fun r37 => ?_)
  refine i_bl (pc' := 736) [(.istore 6, 2), (.aload_n 2, 1)] [some (.ref 2), some (.ref 20), some (.ref 249), some (.ref 266), some (.int x4), some (.int r36.1), some (.int r37.1), o7, o8] [.ref 249] (by decide +kernel) rfl ?_
  refine i_cv (ci := 11) (t := 182) (na := 1) (ml := 1) (idx := 167) (pc' := 739) (st' := []) (en := [some (.ref 249)]) (av := []) (vo := fun v => some (.int v)) (mo := fun _ => r37.2) (s2 := fun v => .int v :: []) (by decide +kernel) (by decide +kernel) h2 ⟨rfl, rfl, rfl, rfl, rfl, rfl⟩ (fun _ => rfl) (t_182 hN (h0 := h2)) (fun v38 => ?_)
  refine i_bl (pc' := 741) [(.iload 5, 2)] [some (.ref 2), some (.ref 20), some (.ref 249), some (.ref 266), some (.int x4), some (.int r36.1), some (.int r37.1), o7, o8] [.int r36.1, .int v38] (by decide +kernel) rfl ?_
  refine i_ic (c := .eq) (off := 5) (t := 746) (pc' := 744) (p := v38 = r36.1) (by decide +kernel) rfl ?_ ?_
  · refine i_bl (pc' := 748) [(.iload 5, 2)] [some (.ref 2), some (.ref 20), some (.ref 249), some (.ref 266), some (.int x4), some (.int r36.1), some (.int r37.1), o7, o8] [.int r36.1] (by decide +kernel) rfl ?_
    refine i_if (c := .ne) (off := 15) (t := 763) (pc' := 751) (p := ¬ r36.1 = 0) (by decide +kernel) rfl ?_ ?_
    · refine i_go (t := 3271) (off := 2508) (by decide +kernel) ?_
      refine i_bl (pc' := 3274) [(.iinc 4 (7), 3)] [some (.ref 2), some (.ref 20), some (.ref 249), some (.ref 266), some (.int (x4 + 7)), some (.int r36.1), some (.int r37.1), o7, o8] [] (by decide +kernel) rfl ?_
      refine i_wb (fun y39 => ev_dn (b - 2) (z - 12) 348 3274 [some (.ref 2), some (.ref 20), some (.ref 249), some (.ref 266), some (.int y39), some (.int r36.1), some (.int r37.1), o7, o8] [] (nx, mem L nx r37.2)) (fun y39 => ?_)
      refine i_go (t := 23) (off := -3251) (by decide +kernel) ?_
      exact i_cL (some (.int r36.1), some (.int r37.1), o7, o8) (b - 2) (z - 12) (by omega) (by omega) rfl
    · refine i_bl (pc' := 753) [(.aload_n 3, 1), (.iconst 0, 1)] [some (.ref 2), some (.ref 20), some (.ref 249), some (.ref 266), some (.int x4), some (.int r36.1), some (.int r37.1), o7, o8] [.int 0, .ref 266] (by decide +kernel) rfl ?_
      refine i_ll (pc' := 754) (by decide +kernel) h3 ?_
      refine i_bl (pc' := 757) [(.iload 6, 2), (.i2l, 1)] [some (.ref 2), some (.ref 20), some (.ref 249), some (.ref 266), some (.int x4), some (.int r36.1), some (.int r37.1), o7, o8] [.long r37.1.toInt64, .long (r37.2 266 (ix 0)).toInt64] (by decide +kernel) rfl ?_
      refine i_lcm (x := (r37.2 266 (ix 0))) (y := r37.1) (pc' := 758) (by decide +kernel) ?_
      refine i_if (c := .eq) (off := 5) (t := 763) (pc' := 761) (p := (ilg (r37.2 266 (ix 0)) r37.1) = 0) (by decide +kernel) rfl ?_ ?_
      · refine i_go (t := 3271) (off := 2508) (by decide +kernel) ?_
        refine i_bl (pc' := 3274) [(.iinc 4 (7), 3)] [some (.ref 2), some (.ref 20), some (.ref 249), some (.ref 266), some (.int (x4 + 7)), some (.int r36.1), some (.int r37.1), o7, o8] [] (by decide +kernel) rfl ?_
        refine i_wb (fun y40 => ev_dn (b - 2) (z - 12) 348 3274 [some (.ref 2), some (.ref 20), some (.ref 249), some (.ref 266), some (.int y40), some (.int r36.1), some (.int r37.1), o7, o8] [] (nx, mem L nx r37.2)) (fun y40 => ?_)
        refine i_go (t := 23) (off := -3251) (by decide +kernel) ?_
        exact i_cL (some (.int r36.1), some (.int r37.1), o7, o8) (b - 2) (z - 12) (by omega) (by omega) rfl
      · refine i_bl (pc' := 762) [(.iconst 0, 1)] [some (.ref 2), some (.ref 20), some (.ref 249), some (.ref 266), some (.int x4), some (.int r36.1), some (.int r37.1), o7, o8] [.int 0] (by decide +kernel) rfl ?_
        exact i_iM (i_rz (B := false) (by decide +kernel) rfl)
  · refine i_bl (pc' := 745) [(.iconst 0, 1)] [some (.ref 2), some (.ref 20), some (.ref 249), some (.ref 266), some (.int x4), some (.int r36.1), some (.int r37.1), o7, o8] [.int 0] (by decide +kernel) rfl ?_
    exact i_iM (i_rz (B := false) (by decide +kernel) rfl)

noncomputable def d_348_766 (L : Nat) (x4 : Int32) (m : Mm) : Option ((Int32 × Mm) ⊕ (Bool × Mm)) := if ev_in (x4 + 1) L = true then (if ev_in (x4 + 2) L = true then (if ev_in (x4 + 3) L = true then (if ev_in (x4 + 4) L = true then ((d_316 20 (m 2 (ix (x4 + 1))) (m 2 (ix (x4 + 2))) (m 2 (ix (x4 + 3))) (m 2 (ix (x4 + 4))) 266 m).bind fun r41 => if ev_in (x4 + 1) L = true then (if ev_in (x4 + 2) L = true then (if ev_in (x4 + 3) L = true then (if ev_in (x4 + 4) L = true then ((d_220 249 (r41.2 2 (ix (x4 + 1))) (r41.2 2 (ix (x4 + 2))) (r41.2 2 (ix (x4 + 3))) (r41.2 2 (ix (x4 + 4))) r41.2).bind fun r42 => (d_182 249 r42.2).bind fun v43 => if v43 = r41.1 then (if ¬ r41.1 = 0 then (wb (x4 + 7) fun y44 => some (.inl (y44, r42.2))) else (if ev_in 0 (sh_n 266) = true then (if (ilg (r42.2 266 (ix 0)) r42.1) = 0 then (wb (x4 + 7) fun y45 => some (.inl (y45, r42.2))) else (some (.inr (false, r42.2)))) else none)) else (some (.inr (false, r42.2)))) else none) else none) else none) else none) else none) else none) else none) else none
theorem t_348_766 {L nx : Nat} (hN : okn nx) {b z : Nat} (hb : 4 ≤ b) (hz : 24 ≤ z) {b0 z0 : Nat} (hb0 : b0 + 4 ≤ b + 4) (hz0 : z0 + 24 ≤ z + 24) {m : Mm} (h0 : ok nx 2 99) (h1 : ok nx 20 10) (h2 : ok nx 249 11) (h3 : ok nx 266 102) {x4 : Int32} {o5 : Option Value} {o6 : Option Value} {o7 : Option Value} {o8 : Option Value} : Im (d_348_766 L x4 m) (kM (wZ L nx) (fun b z => E_348_23 L nx b z) b0 z0) (ev_dn b z 348 766 [some (.ref 2), some (.ref 20), some (.ref 249), some (.ref 266), some (.int x4), o5, o6, o7, o8] [] (nx, mem L nx m)) := by
  unfold d_348_766
  refine i_bl (pc' := 772) [(.aload_n 1, 1), (.aload_n 0, 1), (.iload 4, 2), (.iconst 1, 1), (.iadd, 1)] [some (.ref 2), some (.ref 20), some (.ref 249), some (.ref 266), some (.int x4), o5, o6, o7, o8] [.int (x4 + 1), .ref 2, .ref 20] (by decide +kernel) rfl ?_
  refine i_aS (pc' := 773) L (by decide +kernel) rfl h0 ?_
  refine i_bl (pc' := 778) [(.aload_n 0, 1), (.iload 4, 2), (.iconst 2, 1), (.iadd, 1)] [some (.ref 2), some (.ref 20), some (.ref 249), some (.ref 266), some (.int x4), o5, o6, o7, o8] [.int (x4 + 2), .ref 2, .int (m 2 (ix (x4 + 1))), .ref 20] (by decide +kernel) rfl ?_
  refine i_aS (pc' := 779) L (by decide +kernel) rfl h0 ?_
  refine i_bl (pc' := 784) [(.aload_n 0, 1), (.iload 4, 2), (.iconst 3, 1), (.iadd, 1)] [some (.ref 2), some (.ref 20), some (.ref 249), some (.ref 266), some (.int x4), o5, o6, o7, o8] [.int (x4 + 3), .ref 2, .int (m 2 (ix (x4 + 2))), .int (m 2 (ix (x4 + 1))), .ref 20] (by decide +kernel) rfl ?_
  refine i_aS (pc' := 785) L (by decide +kernel) rfl h0 ?_
  refine i_bl (pc' := 790) [(.aload_n 0, 1), (.iload 4, 2), (.iconst 4, 1), (.iadd, 1)] [some (.ref 2), some (.ref 20), some (.ref 249), some (.ref 266), some (.int x4), o5, o6, o7, o8] [.int (x4 + 4), .ref 2, .int (m 2 (ix (x4 + 3))), .int (m 2 (ix (x4 + 2))), .int (m 2 (ix (x4 + 1))), .ref 20] (by decide +kernel) rfl ?_
  refine i_aS (pc' := 791) L (by decide +kernel) rfl h0 ?_
  refine i_bl (pc' := 792) [(.aload_n 3, 1)] [some (.ref 2), some (.ref 20), some (.ref 249), some (.ref 266), some (.int x4), o5, o6, o7, o8] [.ref 266, .int (m 2 (ix (x4 + 4))), .int (m 2 (ix (x4 + 3))), .int (m 2 (ix (x4 + 2))), .int (m 2 (ix (x4 + 1))), .ref 20] (by decide +kernel) rfl ?_
  refine i_ck (k1 := 4) (k2 := 24) (t := 316) (na := 6) (ml := 7) (idx := 185) (pc' := 795) (st' := []) (en := [some (.ref 20), some (.int (m 2 (ix (x4 + 1)))), some (.int (m 2 (ix (x4 + 2)))), some (.int (m 2 (ix (x4 + 3)))), some (.int (m 2 (ix (x4 + 4)))), some (.ref 266), none]) (av := [.ref 20, .int (m 2 (ix (x4 + 1))), .int (m 2 (ix (x4 + 2))), .int (m 2 (ix (x4 + 3))), .int (m 2 (ix (x4 + 4))), .ref 266]) (vo := fun v => some (.int v.1)) (mo := fun v => v.2) (s2 := fun v => .int v.1 :: []) (by decide +kernel) ⟨rfl, rfl, rfl, rfl, rfl, rfl⟩ ⟨by omega, by omega⟩ (fun _ => rfl) (t_316 hN (b := 4) (z := 24) (by decide) (by decide) (h0 := h1) (h5 := h3)) (fun r41 => ?_)
  refine i_bl (pc' := 803) [(.istore 5, 2), (.aload_n 2, 1), (.aload_n 0, 1), (.iload 4, 2), (.iconst 1, 1), (.iadd, 1)] [some (.ref 2), some (.ref 20), some (.ref 249), some (.ref 266), some (.int x4), some (.int r41.1), o6, o7, o8] [.int (x4 + 1), .ref 2, .ref 249] (by decide +kernel) rfl ?_
  refine i_aS (pc' := 804) L (by decide +kernel) rfl h0 ?_
  refine i_bl (pc' := 809) [(.aload_n 0, 1), (.iload 4, 2), (.iconst 2, 1), (.iadd, 1)] [some (.ref 2), some (.ref 20), some (.ref 249), some (.ref 266), some (.int x4), some (.int r41.1), o6, o7, o8] [.int (x4 + 2), .ref 2, .int (r41.2 2 (ix (x4 + 1))), .ref 249] (by decide +kernel) rfl ?_
  refine i_aS (pc' := 810) L (by decide +kernel) rfl h0 ?_
  refine i_bl (pc' := 815) [(.aload_n 0, 1), (.iload 4, 2), (.iconst 3, 1), (.iadd, 1)] [some (.ref 2), some (.ref 20), some (.ref 249), some (.ref 266), some (.int x4), some (.int r41.1), o6, o7, o8] [.int (x4 + 3), .ref 2, .int (r41.2 2 (ix (x4 + 2))), .int (r41.2 2 (ix (x4 + 1))), .ref 249] (by decide +kernel) rfl ?_
  refine i_aS (pc' := 816) L (by decide +kernel) rfl h0 ?_
  refine i_bl (pc' := 821) [(.aload_n 0, 1), (.iload 4, 2), (.iconst 4, 1), (.iadd, 1)] [some (.ref 2), some (.ref 20), some (.ref 249), some (.ref 266), some (.int x4), some (.int r41.1), o6, o7, o8] [.int (x4 + 4), .ref 2, .int (r41.2 2 (ix (x4 + 3))), .int (r41.2 2 (ix (x4 + 2))), .int (r41.2 2 (ix (x4 + 1))), .ref 249] (by decide +kernel) rfl ?_
  refine i_aS (pc' := 822) L (by decide +kernel) rfl h0 ?_
  refine i_cv (ci := 11) (t := 220) (na := 5) (ml := 7) (idx := 188) (pc' := 825) (st' := []) (en := [some (.ref 249), some (.int (r41.2 2 (ix (x4 + 1)))), some (.int (r41.2 2 (ix (x4 + 2)))), some (.int (r41.2 2 (ix (x4 + 3)))), some (.int (r41.2 2 (ix (x4 + 4)))), none, none]) (av := [.int (r41.2 2 (ix (x4 + 1))), .int (r41.2 2 (ix (x4 + 2))), .int (r41.2 2 (ix (x4 + 3))), .int (r41.2 2 (ix (x4 + 4)))]) (vo := fun v => some (.int v.1)) (mo := fun v => v.2) (s2 := fun v => .int v.1 :: []) (by decide +kernel) (by decide +kernel) h2 ⟨rfl, rfl, rfl, rfl, rfl, rfl⟩ (fun _ => rfl) (t_220 hN (h0 := h2)) (fun r42 => ?_)
  refine i_bl (pc' := 828) [(.istore 6, 2), (.aload_n 2, 1)] [some (.ref 2), some (.ref 20), some (.ref 249), some (.ref 266), some (.int x4), some (.int r41.1), some (.int r42.1), o7, o8] [.ref 249] (by decide +kernel) rfl ?_
  refine i_cv (ci := 11) (t := 182) (na := 1) (ml := 1) (idx := 167) (pc' := 831) (st' := []) (en := [some (.ref 249)]) (av := []) (vo := fun v => some (.int v)) (mo := fun _ => r42.2) (s2 := fun v => .int v :: []) (by decide +kernel) (by decide +kernel) h2 ⟨rfl, rfl, rfl, rfl, rfl, rfl⟩ (fun _ => rfl) (t_182 hN (h0 := h2)) (fun v43 => ?_)
  refine i_bl (pc' := 833) [(.iload 5, 2)] [some (.ref 2), some (.ref 20), some (.ref 249), some (.ref 266), some (.int x4), some (.int r41.1), some (.int r42.1), o7, o8] [.int r41.1, .int v43] (by decide +kernel) rfl ?_
  refine i_ic (c := .eq) (off := 5) (t := 838) (pc' := 836) (p := v43 = r41.1) (by decide +kernel) rfl ?_ ?_
  · refine i_bl (pc' := 840) [(.iload 5, 2)] [some (.ref 2), some (.ref 20), some (.ref 249), some (.ref 266), some (.int x4), some (.int r41.1), some (.int r42.1), o7, o8] [.int r41.1] (by decide +kernel) rfl ?_
    refine i_if (c := .ne) (off := 15) (t := 855) (pc' := 843) (p := ¬ r41.1 = 0) (by decide +kernel) rfl ?_ ?_
    · refine i_go (t := 3271) (off := 2416) (by decide +kernel) ?_
      refine i_bl (pc' := 3274) [(.iinc 4 (7), 3)] [some (.ref 2), some (.ref 20), some (.ref 249), some (.ref 266), some (.int (x4 + 7)), some (.int r41.1), some (.int r42.1), o7, o8] [] (by decide +kernel) rfl ?_
      refine i_wb (fun y44 => ev_dn (b - 4) (z - 24) 348 3274 [some (.ref 2), some (.ref 20), some (.ref 249), some (.ref 266), some (.int y44), some (.int r41.1), some (.int r42.1), o7, o8] [] (nx, mem L nx r42.2)) (fun y44 => ?_)
      refine i_go (t := 23) (off := -3251) (by decide +kernel) ?_
      exact i_cL (some (.int r41.1), some (.int r42.1), o7, o8) (b - 4) (z - 24) (by omega) (by omega) rfl
    · refine i_bl (pc' := 845) [(.aload_n 3, 1), (.iconst 0, 1)] [some (.ref 2), some (.ref 20), some (.ref 249), some (.ref 266), some (.int x4), some (.int r41.1), some (.int r42.1), o7, o8] [.int 0, .ref 266] (by decide +kernel) rfl ?_
      refine i_ll (pc' := 846) (by decide +kernel) h3 ?_
      refine i_bl (pc' := 849) [(.iload 6, 2), (.i2l, 1)] [some (.ref 2), some (.ref 20), some (.ref 249), some (.ref 266), some (.int x4), some (.int r41.1), some (.int r42.1), o7, o8] [.long r42.1.toInt64, .long (r42.2 266 (ix 0)).toInt64] (by decide +kernel) rfl ?_
      refine i_lcm (x := (r42.2 266 (ix 0))) (y := r42.1) (pc' := 850) (by decide +kernel) ?_
      refine i_if (c := .eq) (off := 5) (t := 855) (pc' := 853) (p := (ilg (r42.2 266 (ix 0)) r42.1) = 0) (by decide +kernel) rfl ?_ ?_
      · refine i_go (t := 3271) (off := 2416) (by decide +kernel) ?_
        refine i_bl (pc' := 3274) [(.iinc 4 (7), 3)] [some (.ref 2), some (.ref 20), some (.ref 249), some (.ref 266), some (.int (x4 + 7)), some (.int r41.1), some (.int r42.1), o7, o8] [] (by decide +kernel) rfl ?_
        refine i_wb (fun y45 => ev_dn (b - 4) (z - 24) 348 3274 [some (.ref 2), some (.ref 20), some (.ref 249), some (.ref 266), some (.int y45), some (.int r41.1), some (.int r42.1), o7, o8] [] (nx, mem L nx r42.2)) (fun y45 => ?_)
        refine i_go (t := 23) (off := -3251) (by decide +kernel) ?_
        exact i_cL (some (.int r41.1), some (.int r42.1), o7, o8) (b - 4) (z - 24) (by omega) (by omega) rfl
      · refine i_bl (pc' := 854) [(.iconst 0, 1)] [some (.ref 2), some (.ref 20), some (.ref 249), some (.ref 266), some (.int x4), some (.int r41.1), some (.int r42.1), o7, o8] [.int 0] (by decide +kernel) rfl ?_
        exact i_iM (i_rz (B := false) (by decide +kernel) rfl)
  · refine i_bl (pc' := 837) [(.iconst 0, 1)] [some (.ref 2), some (.ref 20), some (.ref 249), some (.ref 266), some (.int x4), some (.int r41.1), some (.int r42.1), o7, o8] [.int 0] (by decide +kernel) rfl ?_
    exact i_iM (i_rz (B := false) (by decide +kernel) rfl)

noncomputable def d_348_858 (L : Nat) (x4 : Int32) (m : Mm) : Option ((Int32 × Mm) ⊕ (Bool × Mm)) := if ev_in (x4 + 1) L = true then (if ev_in (x4 + 2) L = true then ((d_317 20 (m 2 (ix (x4 + 1))) (m 2 (ix (x4 + 2))) 266 m).bind fun r46 => if ev_in (x4 + 1) L = true then (if ev_in (x4 + 2) L = true then ((d_221 249 (r46.2 2 (ix (x4 + 1))) (r46.2 2 (ix (x4 + 2))) r46.2).bind fun r47 => (d_182 249 r47.2).bind fun v48 => if v48 = r46.1 then (if ¬ r46.1 = 0 then (wb (x4 + 7) fun y49 => some (.inl (y49, r47.2))) else (if ev_in 0 (sh_n 266) = true then (if (ilg (r47.2 266 (ix 0)) r47.1) = 0 then (wb (x4 + 7) fun y50 => some (.inl (y50, r47.2))) else (some (.inr (false, r47.2)))) else none)) else (some (.inr (false, r47.2)))) else none) else none) else none) else none
theorem t_348_858 {L nx : Nat} (hN : okn nx) {b z : Nat} (hb : 2 ≤ b) (hz : 12 ≤ z) {b0 z0 : Nat} (hb0 : b0 + 2 ≤ b + 4) (hz0 : z0 + 12 ≤ z + 24) {m : Mm} (h0 : ok nx 2 99) (h1 : ok nx 20 10) (h2 : ok nx 249 11) (h3 : ok nx 266 102) {x4 : Int32} {o5 : Option Value} {o6 : Option Value} {o7 : Option Value} {o8 : Option Value} : Im (d_348_858 L x4 m) (kM (wZ L nx) (fun b z => E_348_23 L nx b z) b0 z0) (ev_dn b z 348 858 [some (.ref 2), some (.ref 20), some (.ref 249), some (.ref 266), some (.int x4), o5, o6, o7, o8] [] (nx, mem L nx m)) := by
  unfold d_348_858
  refine i_bl (pc' := 864) [(.aload_n 1, 1), (.aload_n 0, 1), (.iload 4, 2), (.iconst 1, 1), (.iadd, 1)] [some (.ref 2), some (.ref 20), some (.ref 249), some (.ref 266), some (.int x4), o5, o6, o7, o8] [.int (x4 + 1), .ref 2, .ref 20] (by decide +kernel) rfl ?_
  refine i_aS (pc' := 865) L (by decide +kernel) rfl h0 ?_
  refine i_bl (pc' := 870) [(.aload_n 0, 1), (.iload 4, 2), (.iconst 2, 1), (.iadd, 1)] [some (.ref 2), some (.ref 20), some (.ref 249), some (.ref 266), some (.int x4), o5, o6, o7, o8] [.int (x4 + 2), .ref 2, .int (m 2 (ix (x4 + 1))), .ref 20] (by decide +kernel) rfl ?_
  refine i_aS (pc' := 871) L (by decide +kernel) rfl h0 ?_
  refine i_bl (pc' := 872) [(.aload_n 3, 1)] [some (.ref 2), some (.ref 20), some (.ref 249), some (.ref 266), some (.int x4), o5, o6, o7, o8] [.ref 266, .int (m 2 (ix (x4 + 2))), .int (m 2 (ix (x4 + 1))), .ref 20] (by decide +kernel) rfl ?_
  refine i_ck (k1 := 2) (k2 := 12) (t := 317) (na := 4) (ml := 5) (idx := 189) (pc' := 875) (st' := []) (en := [some (.ref 20), some (.int (m 2 (ix (x4 + 1)))), some (.int (m 2 (ix (x4 + 2)))), some (.ref 266), none]) (av := [.ref 20, .int (m 2 (ix (x4 + 1))), .int (m 2 (ix (x4 + 2))), .ref 266]) (vo := fun v => some (.int v.1)) (mo := fun v => v.2) (s2 := fun v => .int v.1 :: []) (by decide +kernel) ⟨rfl, rfl, rfl, rfl, rfl, rfl⟩ ⟨by omega, by omega⟩ (fun _ => rfl) (t_317 hN (b := 2) (z := 12) (by decide) (by decide) (h0 := h1) (h3 := h3)) (fun r46 => ?_)
  refine i_bl (pc' := 883) [(.istore 5, 2), (.aload_n 2, 1), (.aload_n 0, 1), (.iload 4, 2), (.iconst 1, 1), (.iadd, 1)] [some (.ref 2), some (.ref 20), some (.ref 249), some (.ref 266), some (.int x4), some (.int r46.1), o6, o7, o8] [.int (x4 + 1), .ref 2, .ref 249] (by decide +kernel) rfl ?_
  refine i_aS (pc' := 884) L (by decide +kernel) rfl h0 ?_
  refine i_bl (pc' := 889) [(.aload_n 0, 1), (.iload 4, 2), (.iconst 2, 1), (.iadd, 1)] [some (.ref 2), some (.ref 20), some (.ref 249), some (.ref 266), some (.int x4), some (.int r46.1), o6, o7, o8] [.int (x4 + 2), .ref 2, .int (r46.2 2 (ix (x4 + 1))), .ref 249] (by decide +kernel) rfl ?_
  refine i_aS (pc' := 890) L (by decide +kernel) rfl h0 ?_
  refine i_cv (ci := 11) (t := 221) (na := 3) (ml := 7) (idx := 191) (pc' := 893) (st' := []) (en := [some (.ref 249), some (.int (r46.2 2 (ix (x4 + 1)))), some (.int (r46.2 2 (ix (x4 + 2)))), none, none, none, none]) (av := [.int (r46.2 2 (ix (x4 + 1))), .int (r46.2 2 (ix (x4 + 2)))]) (vo := fun v => some (.int v.1)) (mo := fun v => v.2) (s2 := fun v => .int v.1 :: []) (by decide +kernel) (by decide +kernel) h2 ⟨rfl, rfl, rfl, rfl, rfl, rfl⟩ (fun _ => rfl) (t_221 hN (h0 := h2)) (fun r47 => ?_)
  refine i_bl (pc' := 896) [(.istore 6, 2), (.aload_n 2, 1)] [some (.ref 2), some (.ref 20), some (.ref 249), some (.ref 266), some (.int x4), some (.int r46.1), some (.int r47.1), o7, o8] [.ref 249] (by decide +kernel) rfl ?_
  refine i_cv (ci := 11) (t := 182) (na := 1) (ml := 1) (idx := 167) (pc' := 899) (st' := []) (en := [some (.ref 249)]) (av := []) (vo := fun v => some (.int v)) (mo := fun _ => r47.2) (s2 := fun v => .int v :: []) (by decide +kernel) (by decide +kernel) h2 ⟨rfl, rfl, rfl, rfl, rfl, rfl⟩ (fun _ => rfl) (t_182 hN (h0 := h2)) (fun v48 => ?_)
  refine i_bl (pc' := 901) [(.iload 5, 2)] [some (.ref 2), some (.ref 20), some (.ref 249), some (.ref 266), some (.int x4), some (.int r46.1), some (.int r47.1), o7, o8] [.int r46.1, .int v48] (by decide +kernel) rfl ?_
  refine i_ic (c := .eq) (off := 5) (t := 906) (pc' := 904) (p := v48 = r46.1) (by decide +kernel) rfl ?_ ?_
  · refine i_bl (pc' := 908) [(.iload 5, 2)] [some (.ref 2), some (.ref 20), some (.ref 249), some (.ref 266), some (.int x4), some (.int r46.1), some (.int r47.1), o7, o8] [.int r46.1] (by decide +kernel) rfl ?_
    refine i_if (c := .ne) (off := 15) (t := 923) (pc' := 911) (p := ¬ r46.1 = 0) (by decide +kernel) rfl ?_ ?_
    · refine i_go (t := 3271) (off := 2348) (by decide +kernel) ?_
      refine i_bl (pc' := 3274) [(.iinc 4 (7), 3)] [some (.ref 2), some (.ref 20), some (.ref 249), some (.ref 266), some (.int (x4 + 7)), some (.int r46.1), some (.int r47.1), o7, o8] [] (by decide +kernel) rfl ?_
      refine i_wb (fun y49 => ev_dn (b - 2) (z - 12) 348 3274 [some (.ref 2), some (.ref 20), some (.ref 249), some (.ref 266), some (.int y49), some (.int r46.1), some (.int r47.1), o7, o8] [] (nx, mem L nx r47.2)) (fun y49 => ?_)
      refine i_go (t := 23) (off := -3251) (by decide +kernel) ?_
      exact i_cL (some (.int r46.1), some (.int r47.1), o7, o8) (b - 2) (z - 12) (by omega) (by omega) rfl
    · refine i_bl (pc' := 913) [(.aload_n 3, 1), (.iconst 0, 1)] [some (.ref 2), some (.ref 20), some (.ref 249), some (.ref 266), some (.int x4), some (.int r46.1), some (.int r47.1), o7, o8] [.int 0, .ref 266] (by decide +kernel) rfl ?_
      refine i_ll (pc' := 914) (by decide +kernel) h3 ?_
      refine i_bl (pc' := 917) [(.iload 6, 2), (.i2l, 1)] [some (.ref 2), some (.ref 20), some (.ref 249), some (.ref 266), some (.int x4), some (.int r46.1), some (.int r47.1), o7, o8] [.long r47.1.toInt64, .long (r47.2 266 (ix 0)).toInt64] (by decide +kernel) rfl ?_
      refine i_lcm (x := (r47.2 266 (ix 0))) (y := r47.1) (pc' := 918) (by decide +kernel) ?_
      refine i_if (c := .eq) (off := 5) (t := 923) (pc' := 921) (p := (ilg (r47.2 266 (ix 0)) r47.1) = 0) (by decide +kernel) rfl ?_ ?_
      · refine i_go (t := 3271) (off := 2348) (by decide +kernel) ?_
        refine i_bl (pc' := 3274) [(.iinc 4 (7), 3)] [some (.ref 2), some (.ref 20), some (.ref 249), some (.ref 266), some (.int (x4 + 7)), some (.int r46.1), some (.int r47.1), o7, o8] [] (by decide +kernel) rfl ?_
        refine i_wb (fun y50 => ev_dn (b - 2) (z - 12) 348 3274 [some (.ref 2), some (.ref 20), some (.ref 249), some (.ref 266), some (.int y50), some (.int r46.1), some (.int r47.1), o7, o8] [] (nx, mem L nx r47.2)) (fun y50 => ?_)
        refine i_go (t := 23) (off := -3251) (by decide +kernel) ?_
        exact i_cL (some (.int r46.1), some (.int r47.1), o7, o8) (b - 2) (z - 12) (by omega) (by omega) rfl
      · refine i_bl (pc' := 922) [(.iconst 0, 1)] [some (.ref 2), some (.ref 20), some (.ref 249), some (.ref 266), some (.int x4), some (.int r46.1), some (.int r47.1), o7, o8] [.int 0] (by decide +kernel) rfl ?_
        exact i_iM (i_rz (B := false) (by decide +kernel) rfl)
  · refine i_bl (pc' := 905) [(.iconst 0, 1)] [some (.ref 2), some (.ref 20), some (.ref 249), some (.ref 266), some (.int x4), some (.int r46.1), some (.int r47.1), o7, o8] [.int 0] (by decide +kernel) rfl ?_
    exact i_iM (i_rz (B := false) (by decide +kernel) rfl)

noncomputable def d_348_926 (L : Nat) (x4 : Int32) (m : Mm) : Option ((Int32 × Mm) ⊕ (Bool × Mm)) := if ev_in (x4 + 1) L = true then (if ev_in (x4 + 2) L = true then (if ev_in (x4 + 3) L = true then (if ev_in (x4 + 4) L = true then ((d_318 20 (m 2 (ix (x4 + 1))) (m 2 (ix (x4 + 2))) (m 2 (ix (x4 + 3))) (m 2 (ix (x4 + 4))) 266 m).bind fun r51 => if ev_in (x4 + 1) L = true then (if ev_in (x4 + 2) L = true then (if ev_in (x4 + 3) L = true then (if ev_in (x4 + 4) L = true then ((d_223 249 (r51.2 2 (ix (x4 + 1))) (r51.2 2 (ix (x4 + 2))) (r51.2 2 (ix (x4 + 3))) (r51.2 2 (ix (x4 + 4))) r51.2).bind fun r52 => (d_182 249 r52.2).bind fun v53 => if v53 = r51.1 then (if ¬ r51.1 = 0 then (wb (x4 + 7) fun y54 => some (.inl (y54, r52.2))) else (if ev_in 0 (sh_n 266) = true then (if (ilg (r52.2 266 (ix 0)) r52.1) = 0 then (wb (x4 + 7) fun y55 => some (.inl (y55, r52.2))) else (some (.inr (false, r52.2)))) else none)) else (some (.inr (false, r52.2)))) else none) else none) else none) else none) else none) else none) else none) else none
theorem t_348_926 {L nx : Nat} (hN : okn nx) {b z : Nat} (hb : 3 ≤ b) (hz : 18 ≤ z) {b0 z0 : Nat} (hb0 : b0 + 3 ≤ b + 4) (hz0 : z0 + 18 ≤ z + 24) {m : Mm} (h0 : ok nx 2 99) (h1 : ok nx 20 10) (h2 : ok nx 249 11) (h3 : ok nx 266 102) {x4 : Int32} {o5 : Option Value} {o6 : Option Value} {o7 : Option Value} {o8 : Option Value} : Im (d_348_926 L x4 m) (kM (wZ L nx) (fun b z => E_348_23 L nx b z) b0 z0) (ev_dn b z 348 926 [some (.ref 2), some (.ref 20), some (.ref 249), some (.ref 266), some (.int x4), o5, o6, o7, o8] [] (nx, mem L nx m)) := by
  unfold d_348_926
  refine i_bl (pc' := 932) [(.aload_n 1, 1), (.aload_n 0, 1), (.iload 4, 2), (.iconst 1, 1), (.iadd, 1)] [some (.ref 2), some (.ref 20), some (.ref 249), some (.ref 266), some (.int x4), o5, o6, o7, o8] [.int (x4 + 1), .ref 2, .ref 20] (by decide +kernel) rfl ?_
  refine i_aS (pc' := 933) L (by decide +kernel) rfl h0 ?_
  refine i_bl (pc' := 938) [(.aload_n 0, 1), (.iload 4, 2), (.iconst 2, 1), (.iadd, 1)] [some (.ref 2), some (.ref 20), some (.ref 249), some (.ref 266), some (.int x4), o5, o6, o7, o8] [.int (x4 + 2), .ref 2, .int (m 2 (ix (x4 + 1))), .ref 20] (by decide +kernel) rfl ?_
  refine i_aS (pc' := 939) L (by decide +kernel) rfl h0 ?_
  refine i_bl (pc' := 944) [(.aload_n 0, 1), (.iload 4, 2), (.iconst 3, 1), (.iadd, 1)] [some (.ref 2), some (.ref 20), some (.ref 249), some (.ref 266), some (.int x4), o5, o6, o7, o8] [.int (x4 + 3), .ref 2, .int (m 2 (ix (x4 + 2))), .int (m 2 (ix (x4 + 1))), .ref 20] (by decide +kernel) rfl ?_
  refine i_aS (pc' := 945) L (by decide +kernel) rfl h0 ?_
  refine i_bl (pc' := 950) [(.aload_n 0, 1), (.iload 4, 2), (.iconst 4, 1), (.iadd, 1)] [some (.ref 2), some (.ref 20), some (.ref 249), some (.ref 266), some (.int x4), o5, o6, o7, o8] [.int (x4 + 4), .ref 2, .int (m 2 (ix (x4 + 3))), .int (m 2 (ix (x4 + 2))), .int (m 2 (ix (x4 + 1))), .ref 20] (by decide +kernel) rfl ?_
  refine i_aS (pc' := 951) L (by decide +kernel) rfl h0 ?_
  refine i_bl (pc' := 952) [(.aload_n 3, 1)] [some (.ref 2), some (.ref 20), some (.ref 249), some (.ref 266), some (.int x4), o5, o6, o7, o8] [.ref 266, .int (m 2 (ix (x4 + 4))), .int (m 2 (ix (x4 + 3))), .int (m 2 (ix (x4 + 2))), .int (m 2 (ix (x4 + 1))), .ref 20] (by decide +kernel) rfl ?_
  refine i_ck (k1 := 3) (k2 := 18) (t := 318) (na := 6) (ml := 7) (idx := 192) (pc' := 955) (st' := []) (en := [some (.ref 20), some (.int (m 2 (ix (x4 + 1)))), some (.int (m 2 (ix (x4 + 2)))), some (.int (m 2 (ix (x4 + 3)))), some (.int (m 2 (ix (x4 + 4)))), some (.ref 266), none]) (av := [.ref 20, .int (m 2 (ix (x4 + 1))), .int (m 2 (ix (x4 + 2))), .int (m 2 (ix (x4 + 3))), .int (m 2 (ix (x4 + 4))), .ref 266]) (vo := fun v => some (.int v.1)) (mo := fun v => v.2) (s2 := fun v => .int v.1 :: []) (by decide +kernel) ⟨rfl, rfl, rfl, rfl, rfl, rfl⟩ ⟨by omega, by omega⟩ (fun _ => rfl) (t_318 hN (b := 3) (z := 18) (by decide) (by decide) (h0 := h1) (h5 := h3)) (fun r51 => ?_)
  refine i_bl (pc' := 963) [(.istore 5, 2), (.aload_n 2, 1), (.aload_n 0, 1), (.iload 4, 2), (.iconst 1, 1), (.iadd, 1)] [some (.ref 2), some (.ref 20), some (.ref 249), some (.ref 266), some (.int x4), some (.int r51.1), o6, o7, o8] [.int (x4 + 1), .ref 2, .ref 249] (by decide +kernel) rfl ?_
  refine i_aS (pc' := 964) L (by decide +kernel) rfl h0 ?_
  refine i_bl (pc' := 969) [(.aload_n 0, 1), (.iload 4, 2), (.iconst 2, 1), (.iadd, 1)] [some (.ref 2), some (.ref 20), some (.ref 249), some (.ref 266), some (.int x4), some (.int r51.1), o6, o7, o8] [.int (x4 + 2), .ref 2, .int (r51.2 2 (ix (x4 + 1))), .ref 249] (by decide +kernel) rfl ?_
  refine i_aS (pc' := 970) L (by decide +kernel) rfl h0 ?_
  refine i_bl (pc' := 975) [(.aload_n 0, 1), (.iload 4, 2), (.iconst 3, 1), (.iadd, 1)] [some (.ref 2), some (.ref 20), some (.ref 249), some (.ref 266), some (.int x4), some (.int r51.1), o6, o7, o8] [.int (x4 + 3), .ref 2, .int (r51.2 2 (ix (x4 + 2))), .int (r51.2 2 (ix (x4 + 1))), .ref 249] (by decide +kernel) rfl ?_
  refine i_aS (pc' := 976) L (by decide +kernel) rfl h0 ?_
  refine i_bl (pc' := 981) [(.aload_n 0, 1), (.iload 4, 2), (.iconst 4, 1), (.iadd, 1)] [some (.ref 2), some (.ref 20), some (.ref 249), some (.ref 266), some (.int x4), some (.int r51.1), o6, o7, o8] [.int (x4 + 4), .ref 2, .int (r51.2 2 (ix (x4 + 3))), .int (r51.2 2 (ix (x4 + 2))), .int (r51.2 2 (ix (x4 + 1))), .ref 249] (by decide +kernel) rfl ?_
  refine i_aS (pc' := 982) L (by decide +kernel) rfl h0 ?_
  refine i_cv (ci := 11) (t := 223) (na := 5) (ml := 10) (idx := 194) (pc' := 985) (st' := []) (en := [some (.ref 249), some (.int (r51.2 2 (ix (x4 + 1)))), some (.int (r51.2 2 (ix (x4 + 2)))), some (.int (r51.2 2 (ix (x4 + 3)))), some (.int (r51.2 2 (ix (x4 + 4)))), none, none, none, none, none]) (av := [.int (r51.2 2 (ix (x4 + 1))), .int (r51.2 2 (ix (x4 + 2))), .int (r51.2 2 (ix (x4 + 3))), .int (r51.2 2 (ix (x4 + 4)))]) (vo := fun v => some (.int v.1)) (mo := fun v => v.2) (s2 := fun v => .int v.1 :: []) (by decide +kernel) (by decide +kernel) h2 ⟨rfl, rfl, rfl, rfl, rfl, rfl⟩ (fun _ => rfl) (t_223 hN (h0 := h2)) (fun r52 => ?_)
  refine i_bl (pc' := 988) [(.istore 6, 2), (.aload_n 2, 1)] [some (.ref 2), some (.ref 20), some (.ref 249), some (.ref 266), some (.int x4), some (.int r51.1), some (.int r52.1), o7, o8] [.ref 249] (by decide +kernel) rfl ?_
  refine i_cv (ci := 11) (t := 182) (na := 1) (ml := 1) (idx := 167) (pc' := 991) (st' := []) (en := [some (.ref 249)]) (av := []) (vo := fun v => some (.int v)) (mo := fun _ => r52.2) (s2 := fun v => .int v :: []) (by decide +kernel) (by decide +kernel) h2 ⟨rfl, rfl, rfl, rfl, rfl, rfl⟩ (fun _ => rfl) (t_182 hN (h0 := h2)) (fun v53 => ?_)
  refine i_bl (pc' := 993) [(.iload 5, 2)] [some (.ref 2), some (.ref 20), some (.ref 249), some (.ref 266), some (.int x4), some (.int r51.1), some (.int r52.1), o7, o8] [.int r51.1, .int v53] (by decide +kernel) rfl ?_
  refine i_ic (c := .eq) (off := 5) (t := 998) (pc' := 996) (p := v53 = r51.1) (by decide +kernel) rfl ?_ ?_
  · refine i_bl (pc' := 1000) [(.iload 5, 2)] [some (.ref 2), some (.ref 20), some (.ref 249), some (.ref 266), some (.int x4), some (.int r51.1), some (.int r52.1), o7, o8] [.int r51.1] (by decide +kernel) rfl ?_
    refine i_if (c := .ne) (off := 15) (t := 1015) (pc' := 1003) (p := ¬ r51.1 = 0) (by decide +kernel) rfl ?_ ?_
    · refine i_go (t := 3271) (off := 2256) (by decide +kernel) ?_
      refine i_bl (pc' := 3274) [(.iinc 4 (7), 3)] [some (.ref 2), some (.ref 20), some (.ref 249), some (.ref 266), some (.int (x4 + 7)), some (.int r51.1), some (.int r52.1), o7, o8] [] (by decide +kernel) rfl ?_
      refine i_wb (fun y54 => ev_dn (b - 3) (z - 18) 348 3274 [some (.ref 2), some (.ref 20), some (.ref 249), some (.ref 266), some (.int y54), some (.int r51.1), some (.int r52.1), o7, o8] [] (nx, mem L nx r52.2)) (fun y54 => ?_)
      refine i_go (t := 23) (off := -3251) (by decide +kernel) ?_
      exact i_cL (some (.int r51.1), some (.int r52.1), o7, o8) (b - 3) (z - 18) (by omega) (by omega) rfl
    · refine i_bl (pc' := 1005) [(.aload_n 3, 1), (.iconst 0, 1)] [some (.ref 2), some (.ref 20), some (.ref 249), some (.ref 266), some (.int x4), some (.int r51.1), some (.int r52.1), o7, o8] [.int 0, .ref 266] (by decide +kernel) rfl ?_
      refine i_ll (pc' := 1006) (by decide +kernel) h3 ?_
      refine i_bl (pc' := 1009) [(.iload 6, 2), (.i2l, 1)] [some (.ref 2), some (.ref 20), some (.ref 249), some (.ref 266), some (.int x4), some (.int r51.1), some (.int r52.1), o7, o8] [.long r52.1.toInt64, .long (r52.2 266 (ix 0)).toInt64] (by decide +kernel) rfl ?_
      refine i_lcm (x := (r52.2 266 (ix 0))) (y := r52.1) (pc' := 1010) (by decide +kernel) ?_
      refine i_if (c := .eq) (off := 5) (t := 1015) (pc' := 1013) (p := (ilg (r52.2 266 (ix 0)) r52.1) = 0) (by decide +kernel) rfl ?_ ?_
      · refine i_go (t := 3271) (off := 2256) (by decide +kernel) ?_
        refine i_bl (pc' := 3274) [(.iinc 4 (7), 3)] [some (.ref 2), some (.ref 20), some (.ref 249), some (.ref 266), some (.int (x4 + 7)), some (.int r51.1), some (.int r52.1), o7, o8] [] (by decide +kernel) rfl ?_
        refine i_wb (fun y55 => ev_dn (b - 3) (z - 18) 348 3274 [some (.ref 2), some (.ref 20), some (.ref 249), some (.ref 266), some (.int y55), some (.int r51.1), some (.int r52.1), o7, o8] [] (nx, mem L nx r52.2)) (fun y55 => ?_)
        refine i_go (t := 23) (off := -3251) (by decide +kernel) ?_
        exact i_cL (some (.int r51.1), some (.int r52.1), o7, o8) (b - 3) (z - 18) (by omega) (by omega) rfl
      · refine i_bl (pc' := 1014) [(.iconst 0, 1)] [some (.ref 2), some (.ref 20), some (.ref 249), some (.ref 266), some (.int x4), some (.int r51.1), some (.int r52.1), o7, o8] [.int 0] (by decide +kernel) rfl ?_
        exact i_iM (i_rz (B := false) (by decide +kernel) rfl)
  · refine i_bl (pc' := 997) [(.iconst 0, 1)] [some (.ref 2), some (.ref 20), some (.ref 249), some (.ref 266), some (.int x4), some (.int r51.1), some (.int r52.1), o7, o8] [.int 0] (by decide +kernel) rfl ?_
    exact i_iM (i_rz (B := false) (by decide +kernel) rfl)

noncomputable def d_348_1084 (L : Nat) (x4 : Int32) (s0 : Int32) (s1 : Int32) (m : Mm) : Option ((Int32 × Mm) ⊕ (Bool × Mm)) := if (ilg s0 s1) = 0 then (wb (x4 + 7) fun y60 => some (.inl (y60, m))) else (some (.inr (false, m)))
theorem t_348_1084 {L nx : Nat} (hN : okn nx) {b z : Nat} {b0 z0 : Nat} (hb0 : b0 + 0 ≤ b + 4) (hz0 : z0 + 0 ≤ z + 24) {m : Mm} (h0 : ok nx 2 99) (h1 : ok nx 20 10) (h2 : ok nx 249 11) (h3 : ok nx 266 102) {x4 : Int32} {s0 : Int32} {s1 : Int32} {o5 : Option Value} {o6 : Option Value} {o7 : Option Value} {o8 : Option Value} : Im (d_348_1084 L x4 s0 s1 m) (kM (wZ L nx) (fun b z => E_348_23 L nx b z) b0 z0) (ev_dn b z 348 1084 [some (.ref 2), some (.ref 20), some (.ref 249), some (.ref 266), some (.int x4), o5, o6, o7, o8] [.long s1.toInt64, .long s0.toInt64] (nx, mem L nx m)) := by
  unfold d_348_1084
  refine i_lcm (x := s0) (y := s1) (pc' := 1085) (by decide +kernel) ?_
  refine i_if (c := .eq) (off := 5) (t := 1090) (pc' := 1088) (p := (ilg s0 s1) = 0) (by decide +kernel) rfl ?_ ?_
  · refine i_go (t := 3271) (off := 2181) (by decide +kernel) ?_
    refine i_bl (pc' := 3274) [(.iinc 4 (7), 3)] [some (.ref 2), some (.ref 20), some (.ref 249), some (.ref 266), some (.int (x4 + 7)), o5, o6, o7, o8] [] (by decide +kernel) rfl ?_
    refine i_wb (fun y60 => ev_dn b z 348 3274 [some (.ref 2), some (.ref 20), some (.ref 249), some (.ref 266), some (.int y60), o5, o6, o7, o8] [] (nx, mem L nx m)) (fun y60 => ?_)
    refine i_go (t := 23) (off := -3251) (by decide +kernel) ?_
    exact i_cL (o5, o6, o7, o8) b z (by omega) (by omega) rfl
  · refine i_bl (pc' := 1089) [(.iconst 0, 1)] [some (.ref 2), some (.ref 20), some (.ref 249), some (.ref 266), some (.int x4), o5, o6, o7, o8] [.int 0] (by decide +kernel) rfl ?_
    exact i_iM (i_rz (B := false) (by decide +kernel) rfl)

noncomputable def d_348_1018 (L : Nat) (x4 : Int32) (m : Mm) : Option ((Int32 × Mm) ⊕ (Bool × Mm)) := if ev_in (x4 + 1) L = true then (if ev_in (x4 + 2) L = true then ((d_319 20 (m 2 (ix (x4 + 1))) (m 2 (ix (x4 + 2))) 266 m).bind fun r56 => if ev_in (x4 + 1) L = true then (if ev_in (x4 + 2) L = true then ((d_224 249 (r56.2 2 (ix (x4 + 1))) (r56.2 2 (ix (x4 + 2))) r56.2).bind fun r57 => (d_182 249 r57.2).bind fun v58 => if v58 = r56.1 then (if ¬ r56.1 = 0 then (wb (x4 + 7) fun y59 => some (.inl (y59, r57.2))) else (if ev_in 0 (sh_n 266) = true then (if r57.1 = true then (d_348_1084 L x4 (r57.2 266 (ix 0)) 1 r57.2) else (d_348_1084 L x4 (r57.2 266 (ix 0)) 0 r57.2)) else none)) else (some (.inr (false, r57.2)))) else none) else none) else none) else none
theorem t_348_1018 {L nx : Nat} (hN : okn nx) {b z : Nat} (hb : 2 ≤ b) (hz : 12 ≤ z) {b0 z0 : Nat} (hb0 : b0 + 2 ≤ b + 4) (hz0 : z0 + 12 ≤ z + 24) {m : Mm} (h0 : ok nx 2 99) (h1 : ok nx 20 10) (h2 : ok nx 249 11) (h3 : ok nx 266 102) {x4 : Int32} {o5 : Option Value} {o6 : Option Value} {o7 : Option Value} {o8 : Option Value} : Im (d_348_1018 L x4 m) (kM (wZ L nx) (fun b z => E_348_23 L nx b z) b0 z0) (ev_dn b z 348 1018 [some (.ref 2), some (.ref 20), some (.ref 249), some (.ref 266), some (.int x4), o5, o6, o7, o8] [] (nx, mem L nx m)) := by
  unfold d_348_1018
  refine i_bl (pc' := 1024) [(.aload_n 1, 1), (.aload_n 0, 1), (.iload 4, 2), (.iconst 1, 1), (.iadd, 1)] [some (.ref 2), some (.ref 20), some (.ref 249), some (.ref 266), some (.int x4), o5, o6, o7, o8] [.int (x4 + 1), .ref 2, .ref 20] (by decide +kernel) rfl ?_
  refine i_aS (pc' := 1025) L (by decide +kernel) rfl h0 ?_
  refine i_bl (pc' := 1030) [(.aload_n 0, 1), (.iload 4, 2), (.iconst 2, 1), (.iadd, 1)] [some (.ref 2), some (.ref 20), some (.ref 249), some (.ref 266), some (.int x4), o5, o6, o7, o8] [.int (x4 + 2), .ref 2, .int (m 2 (ix (x4 + 1))), .ref 20] (by decide +kernel) rfl ?_
  refine i_aS (pc' := 1031) L (by decide +kernel) rfl h0 ?_
  refine i_bl (pc' := 1032) [(.aload_n 3, 1)] [some (.ref 2), some (.ref 20), some (.ref 249), some (.ref 266), some (.int x4), o5, o6, o7, o8] [.ref 266, .int (m 2 (ix (x4 + 2))), .int (m 2 (ix (x4 + 1))), .ref 20] (by decide +kernel) rfl ?_
  refine i_ck (k1 := 2) (k2 := 12) (t := 319) (na := 4) (ml := 5) (idx := 195) (pc' := 1035) (st' := []) (en := [some (.ref 20), some (.int (m 2 (ix (x4 + 1)))), some (.int (m 2 (ix (x4 + 2)))), some (.ref 266), none]) (av := [.ref 20, .int (m 2 (ix (x4 + 1))), .int (m 2 (ix (x4 + 2))), .ref 266]) (vo := fun v => some (.int v.1)) (mo := fun v => v.2) (s2 := fun v => .int v.1 :: []) (by decide +kernel) ⟨rfl, rfl, rfl, rfl, rfl, rfl⟩ ⟨by omega, by omega⟩ (fun _ => rfl) (t_319 hN (b := 2) (z := 12) (by decide) (by decide) (h0 := h1) (h3 := h3)) (fun r56 => ?_)
  refine i_bl (pc' := 1043) [(.istore 5, 2), (.aload_n 2, 1), (.aload_n 0, 1), (.iload 4, 2), (.iconst 1, 1), (.iadd, 1)] [some (.ref 2), some (.ref 20), some (.ref 249), some (.ref 266), some (.int x4), some (.int r56.1), o6, o7, o8] [.int (x4 + 1), .ref 2, .ref 249] (by decide +kernel) rfl ?_
  refine i_aS (pc' := 1044) L (by decide +kernel) rfl h0 ?_
  refine i_bl (pc' := 1049) [(.aload_n 0, 1), (.iload 4, 2), (.iconst 2, 1), (.iadd, 1)] [some (.ref 2), some (.ref 20), some (.ref 249), some (.ref 266), some (.int x4), some (.int r56.1), o6, o7, o8] [.int (x4 + 2), .ref 2, .int (r56.2 2 (ix (x4 + 1))), .ref 249] (by decide +kernel) rfl ?_
  refine i_aS (pc' := 1050) L (by decide +kernel) rfl h0 ?_
  refine i_cv (ci := 11) (t := 224) (na := 3) (ml := 6) (idx := 197) (pc' := 1053) (st' := []) (en := [some (.ref 249), some (.int (r56.2 2 (ix (x4 + 1)))), some (.int (r56.2 2 (ix (x4 + 2)))), none, none, none]) (av := [.int (r56.2 2 (ix (x4 + 1))), .int (r56.2 2 (ix (x4 + 2)))]) (vo := fun v => some (.int (bi v.1))) (mo := fun v => v.2) (s2 := fun v => .int (bi v.1) :: []) (by decide +kernel) (by decide +kernel) h2 ⟨rfl, rfl, rfl, rfl, rfl, rfl⟩ (fun _ => rfl) (t_224 hN (h0 := h2)) (fun r57 => ?_)
  refine i_bl (pc' := 1056) [(.istore 6, 2), (.aload_n 2, 1)] [some (.ref 2), some (.ref 20), some (.ref 249), some (.ref 266), some (.int x4), some (.int r56.1), some (.int (bi r57.1)), o7, o8] [.ref 249] (by decide +kernel) rfl ?_
  refine i_cv (ci := 11) (t := 182) (na := 1) (ml := 1) (idx := 167) (pc' := 1059) (st' := []) (en := [some (.ref 249)]) (av := []) (vo := fun v => some (.int v)) (mo := fun _ => r57.2) (s2 := fun v => .int v :: []) (by decide +kernel) (by decide +kernel) h2 ⟨rfl, rfl, rfl, rfl, rfl, rfl⟩ (fun _ => rfl) (t_182 hN (h0 := h2)) (fun v58 => ?_)
  refine i_bl (pc' := 1061) [(.iload 5, 2)] [some (.ref 2), some (.ref 20), some (.ref 249), some (.ref 266), some (.int x4), some (.int r56.1), some (.int (bi r57.1)), o7, o8] [.int r56.1, .int v58] (by decide +kernel) rfl ?_
  refine i_ic (c := .eq) (off := 5) (t := 1066) (pc' := 1064) (p := v58 = r56.1) (by decide +kernel) rfl ?_ ?_
  · refine i_bl (pc' := 1068) [(.iload 5, 2)] [some (.ref 2), some (.ref 20), some (.ref 249), some (.ref 266), some (.int x4), some (.int r56.1), some (.int (bi r57.1)), o7, o8] [.int r56.1] (by decide +kernel) rfl ?_
    refine i_if (c := .ne) (off := 22) (t := 1090) (pc' := 1071) (p := ¬ r56.1 = 0) (by decide +kernel) rfl ?_ ?_
    · refine i_go (t := 3271) (off := 2181) (by decide +kernel) ?_
      refine i_bl (pc' := 3274) [(.iinc 4 (7), 3)] [some (.ref 2), some (.ref 20), some (.ref 249), some (.ref 266), some (.int (x4 + 7)), some (.int r56.1), some (.int (bi r57.1)), o7, o8] [] (by decide +kernel) rfl ?_
      refine i_wb (fun y59 => ev_dn (b - 2) (z - 12) 348 3274 [some (.ref 2), some (.ref 20), some (.ref 249), some (.ref 266), some (.int y59), some (.int r56.1), some (.int (bi r57.1)), o7, o8] [] (nx, mem L nx r57.2)) (fun y59 => ?_)
      refine i_go (t := 23) (off := -3251) (by decide +kernel) ?_
      exact i_cL (some (.int r56.1), some (.int (bi r57.1)), o7, o8) (b - 2) (z - 12) (by omega) (by omega) rfl
    · refine i_bl (pc' := 1073) [(.aload_n 3, 1), (.iconst 0, 1)] [some (.ref 2), some (.ref 20), some (.ref 249), some (.ref 266), some (.int x4), some (.int r56.1), some (.int (bi r57.1)), o7, o8] [.int 0, .ref 266] (by decide +kernel) rfl ?_
      refine i_ll (pc' := 1074) (by decide +kernel) h3 ?_
      refine i_bl (pc' := 1076) [(.iload 6, 2)] [some (.ref 2), some (.ref 20), some (.ref 249), some (.ref 266), some (.int x4), some (.int r56.1), some (.int (bi r57.1)), o7, o8] [.int (bi r57.1), .long (r57.2 266 (ix 0)).toInt64] (by decide +kernel) rfl ?_
      refine i_bz (off := 7) (t := 1083) (pc' := 1079) (by decide +kernel) ?_ ?_
      · refine i_bl (pc' := 1080) [(.lconst 1, 1)] [some (.ref 2), some (.ref 20), some (.ref 249), some (.ref 266), some (.int x4), some (.int r56.1), some (.int (bi r57.1)), o7, o8] [.long (1 : Int32).toInt64, .long (r57.2 266 (ix 0)).toInt64] (by decide +kernel) rfl ?_
        refine i_go (t := 1084) (off := 4) (by decide +kernel) ?_
        exact t_348_1084 hN (by omega) (by omega) (h0 := h0) (h1 := h1) (h2 := h2) (h3 := h3)
      · refine i_bl (pc' := 1084) [(.lconst 0, 1)] [some (.ref 2), some (.ref 20), some (.ref 249), some (.ref 266), some (.int x4), some (.int r56.1), some (.int (bi r57.1)), o7, o8] [.long (0 : Int32).toInt64, .long (r57.2 266 (ix 0)).toInt64] (by decide +kernel) rfl ?_
        exact t_348_1084 hN (by omega) (by omega) (h0 := h0) (h1 := h1) (h2 := h2) (h3 := h3)
  · refine i_bl (pc' := 1065) [(.iconst 0, 1)] [some (.ref 2), some (.ref 20), some (.ref 249), some (.ref 266), some (.int x4), some (.int r56.1), some (.int (bi r57.1)), o7, o8] [.int 0] (by decide +kernel) rfl ?_
    exact i_iM (i_rz (B := false) (by decide +kernel) rfl)

noncomputable def d_348_1093 (L : Nat) (x4 : Int32) (m : Mm) : Option ((Int32 × Mm) ⊕ (Bool × Mm)) := if ev_in (x4 + 1) L = true then (if ev_in (x4 + 2) L = true then ((d_320 20 (m 2 (ix (x4 + 1))) (m 2 (ix (x4 + 2))) 266 m).bind fun r61 => if ev_in (x4 + 1) L = true then (if ev_in (x4 + 2) L = true then ((d_225 249 (r61.2 2 (ix (x4 + 1))) (r61.2 2 (ix (x4 + 2))) r61.2).bind fun r62 => (d_182 249 r62.2).bind fun v63 => if v63 = r61.1 then (if ¬ r61.1 = 0 then (wb (x4 + 7) fun y64 => some (.inl (y64, r62.2))) else (if ev_in 0 (sh_n 266) = true then (if (ilg (r62.2 266 (ix 0)) r62.1) = 0 then (wb (x4 + 7) fun y65 => some (.inl (y65, r62.2))) else (some (.inr (false, r62.2)))) else none)) else (some (.inr (false, r62.2)))) else none) else none) else none) else none
theorem t_348_1093 {L nx : Nat} (hN : okn nx) {b z : Nat} (hb : 2 ≤ b) (hz : 12 ≤ z) {b0 z0 : Nat} (hb0 : b0 + 2 ≤ b + 4) (hz0 : z0 + 12 ≤ z + 24) {m : Mm} (h0 : ok nx 2 99) (h1 : ok nx 20 10) (h2 : ok nx 249 11) (h3 : ok nx 266 102) {x4 : Int32} {o5 : Option Value} {o6 : Option Value} {o7 : Option Value} {o8 : Option Value} : Im (d_348_1093 L x4 m) (kM (wZ L nx) (fun b z => E_348_23 L nx b z) b0 z0) (ev_dn b z 348 1093 [some (.ref 2), some (.ref 20), some (.ref 249), some (.ref 266), some (.int x4), o5, o6, o7, o8] [] (nx, mem L nx m)) := by
  unfold d_348_1093
  refine i_bl (pc' := 1099) [(.aload_n 1, 1), (.aload_n 0, 1), (.iload 4, 2), (.iconst 1, 1), (.iadd, 1)] [some (.ref 2), some (.ref 20), some (.ref 249), some (.ref 266), some (.int x4), o5, o6, o7, o8] [.int (x4 + 1), .ref 2, .ref 20] (by decide +kernel) rfl ?_
  refine i_aS (pc' := 1100) L (by decide +kernel) rfl h0 ?_
  refine i_bl (pc' := 1105) [(.aload_n 0, 1), (.iload 4, 2), (.iconst 2, 1), (.iadd, 1)] [some (.ref 2), some (.ref 20), some (.ref 249), some (.ref 266), some (.int x4), o5, o6, o7, o8] [.int (x4 + 2), .ref 2, .int (m 2 (ix (x4 + 1))), .ref 20] (by decide +kernel) rfl ?_
  refine i_aS (pc' := 1106) L (by decide +kernel) rfl h0 ?_
  refine i_bl (pc' := 1107) [(.aload_n 3, 1)] [some (.ref 2), some (.ref 20), some (.ref 249), some (.ref 266), some (.int x4), o5, o6, o7, o8] [.ref 266, .int (m 2 (ix (x4 + 2))), .int (m 2 (ix (x4 + 1))), .ref 20] (by decide +kernel) rfl ?_
  refine i_ck (k1 := 2) (k2 := 12) (t := 320) (na := 4) (ml := 5) (idx := 198) (pc' := 1110) (st' := []) (en := [some (.ref 20), some (.int (m 2 (ix (x4 + 1)))), some (.int (m 2 (ix (x4 + 2)))), some (.ref 266), none]) (av := [.ref 20, .int (m 2 (ix (x4 + 1))), .int (m 2 (ix (x4 + 2))), .ref 266]) (vo := fun v => some (.int v.1)) (mo := fun v => v.2) (s2 := fun v => .int v.1 :: []) (by decide +kernel) ⟨rfl, rfl, rfl, rfl, rfl, rfl⟩ ⟨by omega, by omega⟩ (fun _ => rfl) (t_320 hN (b := 2) (z := 12) (by decide) (by decide) (h0 := h1) (h3 := h3)) (fun r61 => ?_)
  refine i_bl (pc' := 1118) [(.istore 5, 2), (.aload_n 2, 1), (.aload_n 0, 1), (.iload 4, 2), (.iconst 1, 1), (.iadd, 1)] [some (.ref 2), some (.ref 20), some (.ref 249), some (.ref 266), some (.int x4), some (.int r61.1), o6, o7, o8] [.int (x4 + 1), .ref 2, .ref 249] (by decide +kernel) rfl ?_
  refine i_aS (pc' := 1119) L (by decide +kernel) rfl h0 ?_
  refine i_bl (pc' := 1124) [(.aload_n 0, 1), (.iload 4, 2), (.iconst 2, 1), (.iadd, 1)] [some (.ref 2), some (.ref 20), some (.ref 249), some (.ref 266), some (.int x4), some (.int r61.1), o6, o7, o8] [.int (x4 + 2), .ref 2, .int (r61.2 2 (ix (x4 + 1))), .ref 249] (by decide +kernel) rfl ?_
  refine i_aS (pc' := 1125) L (by decide +kernel) rfl h0 ?_
  refine i_cv (ci := 11) (t := 225) (na := 3) (ml := 6) (idx := 200) (pc' := 1128) (st' := []) (en := [some (.ref 249), some (.int (r61.2 2 (ix (x4 + 1)))), some (.int (r61.2 2 (ix (x4 + 2)))), none, none, none]) (av := [.int (r61.2 2 (ix (x4 + 1))), .int (r61.2 2 (ix (x4 + 2)))]) (vo := fun v => some (.int v.1)) (mo := fun v => v.2) (s2 := fun v => .int v.1 :: []) (by decide +kernel) (by decide +kernel) h2 ⟨rfl, rfl, rfl, rfl, rfl, rfl⟩ (fun _ => rfl) (t_225 hN (h0 := h2)) (fun r62 => ?_)
  refine i_bl (pc' := 1131) [(.istore 6, 2), (.aload_n 2, 1)] [some (.ref 2), some (.ref 20), some (.ref 249), some (.ref 266), some (.int x4), some (.int r61.1), some (.int r62.1), o7, o8] [.ref 249] (by decide +kernel) rfl ?_
  refine i_cv (ci := 11) (t := 182) (na := 1) (ml := 1) (idx := 167) (pc' := 1134) (st' := []) (en := [some (.ref 249)]) (av := []) (vo := fun v => some (.int v)) (mo := fun _ => r62.2) (s2 := fun v => .int v :: []) (by decide +kernel) (by decide +kernel) h2 ⟨rfl, rfl, rfl, rfl, rfl, rfl⟩ (fun _ => rfl) (t_182 hN (h0 := h2)) (fun v63 => ?_)
  refine i_bl (pc' := 1136) [(.iload 5, 2)] [some (.ref 2), some (.ref 20), some (.ref 249), some (.ref 266), some (.int x4), some (.int r61.1), some (.int r62.1), o7, o8] [.int r61.1, .int v63] (by decide +kernel) rfl ?_
  refine i_ic (c := .eq) (off := 5) (t := 1141) (pc' := 1139) (p := v63 = r61.1) (by decide +kernel) rfl ?_ ?_
  · refine i_bl (pc' := 1143) [(.iload 5, 2)] [some (.ref 2), some (.ref 20), some (.ref 249), some (.ref 266), some (.int x4), some (.int r61.1), some (.int r62.1), o7, o8] [.int r61.1] (by decide +kernel) rfl ?_
    refine i_if (c := .ne) (off := 15) (t := 1158) (pc' := 1146) (p := ¬ r61.1 = 0) (by decide +kernel) rfl ?_ ?_
    · refine i_go (t := 3271) (off := 2113) (by decide +kernel) ?_
      refine i_bl (pc' := 3274) [(.iinc 4 (7), 3)] [some (.ref 2), some (.ref 20), some (.ref 249), some (.ref 266), some (.int (x4 + 7)), some (.int r61.1), some (.int r62.1), o7, o8] [] (by decide +kernel) rfl ?_
      refine i_wb (fun y64 => ev_dn (b - 2) (z - 12) 348 3274 [some (.ref 2), some (.ref 20), some (.ref 249), some (.ref 266), some (.int y64), some (.int r61.1), some (.int r62.1), o7, o8] [] (nx, mem L nx r62.2)) (fun y64 => ?_)
      refine i_go (t := 23) (off := -3251) (by decide +kernel) ?_
      exact i_cL (some (.int r61.1), some (.int r62.1), o7, o8) (b - 2) (z - 12) (by omega) (by omega) rfl
    · refine i_bl (pc' := 1148) [(.aload_n 3, 1), (.iconst 0, 1)] [some (.ref 2), some (.ref 20), some (.ref 249), some (.ref 266), some (.int x4), some (.int r61.1), some (.int r62.1), o7, o8] [.int 0, .ref 266] (by decide +kernel) rfl ?_
      refine i_ll (pc' := 1149) (by decide +kernel) h3 ?_
      refine i_bl (pc' := 1152) [(.iload 6, 2), (.i2l, 1)] [some (.ref 2), some (.ref 20), some (.ref 249), some (.ref 266), some (.int x4), some (.int r61.1), some (.int r62.1), o7, o8] [.long r62.1.toInt64, .long (r62.2 266 (ix 0)).toInt64] (by decide +kernel) rfl ?_
      refine i_lcm (x := (r62.2 266 (ix 0))) (y := r62.1) (pc' := 1153) (by decide +kernel) ?_
      refine i_if (c := .eq) (off := 5) (t := 1158) (pc' := 1156) (p := (ilg (r62.2 266 (ix 0)) r62.1) = 0) (by decide +kernel) rfl ?_ ?_
      · refine i_go (t := 3271) (off := 2113) (by decide +kernel) ?_
        refine i_bl (pc' := 3274) [(.iinc 4 (7), 3)] [some (.ref 2), some (.ref 20), some (.ref 249), some (.ref 266), some (.int (x4 + 7)), some (.int r61.1), some (.int r62.1), o7, o8] [] (by decide +kernel) rfl ?_
        refine i_wb (fun y65 => ev_dn (b - 2) (z - 12) 348 3274 [some (.ref 2), some (.ref 20), some (.ref 249), some (.ref 266), some (.int y65), some (.int r61.1), some (.int r62.1), o7, o8] [] (nx, mem L nx r62.2)) (fun y65 => ?_)
        refine i_go (t := 23) (off := -3251) (by decide +kernel) ?_
        exact i_cL (some (.int r61.1), some (.int r62.1), o7, o8) (b - 2) (z - 12) (by omega) (by omega) rfl
      · refine i_bl (pc' := 1157) [(.iconst 0, 1)] [some (.ref 2), some (.ref 20), some (.ref 249), some (.ref 266), some (.int x4), some (.int r61.1), some (.int r62.1), o7, o8] [.int 0] (by decide +kernel) rfl ?_
        exact i_iM (i_rz (B := false) (by decide +kernel) rfl)
  · refine i_bl (pc' := 1140) [(.iconst 0, 1)] [some (.ref 2), some (.ref 20), some (.ref 249), some (.ref 266), some (.int x4), some (.int r61.1), some (.int r62.1), o7, o8] [.int 0] (by decide +kernel) rfl ?_
    exact i_iM (i_rz (B := false) (by decide +kernel) rfl)

noncomputable def d_348_1161 (L : Nat) (x4 : Int32) (m : Mm) : Option ((Int32 × Mm) ⊕ (Bool × Mm)) := if ev_in (x4 + 1) L = true then ((d_321 20 (m 2 (ix (x4 + 1))) 266 m).bind fun r66 => if ev_in (x4 + 1) L = true then ((d_226 249 (r66.2 2 (ix (x4 + 1))) r66.2).bind fun r67 => (d_182 249 r67.2).bind fun v68 => if v68 = r66.1 then (if ¬ r66.1 = 0 then (wb (x4 + 7) fun y69 => some (.inl (y69, r67.2))) else (if ev_in 0 (sh_n 266) = true then (if (ilg (r67.2 266 (ix 0)) r67.1) = 0 then (wb (x4 + 7) fun y70 => some (.inl (y70, r67.2))) else (some (.inr (false, r67.2)))) else none)) else (some (.inr (false, r67.2)))) else none) else none
theorem t_348_1161 {L nx : Nat} (hN : okn nx) {b z : Nat} (hb : 1 ≤ b) (hz : 6 ≤ z) {b0 z0 : Nat} (hb0 : b0 + 1 ≤ b + 4) (hz0 : z0 + 6 ≤ z + 24) {m : Mm} (h0 : ok nx 2 99) (h1 : ok nx 20 10) (h2 : ok nx 249 11) (h3 : ok nx 266 102) {x4 : Int32} {o5 : Option Value} {o6 : Option Value} {o7 : Option Value} {o8 : Option Value} : Im (d_348_1161 L x4 m) (kM (wZ L nx) (fun b z => E_348_23 L nx b z) b0 z0) (ev_dn b z 348 1161 [some (.ref 2), some (.ref 20), some (.ref 249), some (.ref 266), some (.int x4), o5, o6, o7, o8] [] (nx, mem L nx m)) := by
  unfold d_348_1161
  refine i_bl (pc' := 1167) [(.aload_n 1, 1), (.aload_n 0, 1), (.iload 4, 2), (.iconst 1, 1), (.iadd, 1)] [some (.ref 2), some (.ref 20), some (.ref 249), some (.ref 266), some (.int x4), o5, o6, o7, o8] [.int (x4 + 1), .ref 2, .ref 20] (by decide +kernel) rfl ?_
  refine i_aS (pc' := 1168) L (by decide +kernel) rfl h0 ?_
  refine i_bl (pc' := 1169) [(.aload_n 3, 1)] [some (.ref 2), some (.ref 20), some (.ref 249), some (.ref 266), some (.int x4), o5, o6, o7, o8] [.ref 266, .int (m 2 (ix (x4 + 1))), .ref 20] (by decide +kernel) rfl ?_
  refine i_ck (k1 := 1) (k2 := 6) (t := 321) (na := 3) (ml := 4) (idx := 201) (pc' := 1172) (st' := []) (en := [some (.ref 20), some (.int (m 2 (ix (x4 + 1)))), some (.ref 266), none]) (av := [.ref 20, .int (m 2 (ix (x4 + 1))), .ref 266]) (vo := fun v => some (.int v.1)) (mo := fun v => v.2) (s2 := fun v => .int v.1 :: []) (by decide +kernel) ⟨rfl, rfl, rfl, rfl, rfl, rfl⟩ ⟨by omega, by omega⟩ (fun _ => rfl) (t_321 hN (b := 1) (z := 6) (by decide) (by decide) (h0 := h1) (h2 := h3)) (fun r66 => ?_)
  refine i_bl (pc' := 1180) [(.istore 5, 2), (.aload_n 2, 1), (.aload_n 0, 1), (.iload 4, 2), (.iconst 1, 1), (.iadd, 1)] [some (.ref 2), some (.ref 20), some (.ref 249), some (.ref 266), some (.int x4), some (.int r66.1), o6, o7, o8] [.int (x4 + 1), .ref 2, .ref 249] (by decide +kernel) rfl ?_
  refine i_aS (pc' := 1181) L (by decide +kernel) rfl h0 ?_
  refine i_cv (ci := 11) (t := 226) (na := 2) (ml := 2) (idx := 203) (pc' := 1184) (st' := []) (en := [some (.ref 249), some (.int (r66.2 2 (ix (x4 + 1))))]) (av := [.int (r66.2 2 (ix (x4 + 1)))]) (vo := fun v => some (.int v.1)) (mo := fun v => v.2) (s2 := fun v => .int v.1 :: []) (by decide +kernel) (by decide +kernel) h2 ⟨rfl, rfl, rfl, rfl, rfl, rfl⟩ (fun _ => rfl) (t_226 hN (h0 := h2)) (fun r67 => ?_)
  refine i_bl (pc' := 1187) [(.istore 6, 2), (.aload_n 2, 1)] [some (.ref 2), some (.ref 20), some (.ref 249), some (.ref 266), some (.int x4), some (.int r66.1), some (.int r67.1), o7, o8] [.ref 249] (by decide +kernel) rfl ?_
  refine i_cv (ci := 11) (t := 182) (na := 1) (ml := 1) (idx := 167) (pc' := 1190) (st' := []) (en := [some (.ref 249)]) (av := []) (vo := fun v => some (.int v)) (mo := fun _ => r67.2) (s2 := fun v => .int v :: []) (by decide +kernel) (by decide +kernel) h2 ⟨rfl, rfl, rfl, rfl, rfl, rfl⟩ (fun _ => rfl) (t_182 hN (h0 := h2)) (fun v68 => ?_)
  refine i_bl (pc' := 1192) [(.iload 5, 2)] [some (.ref 2), some (.ref 20), some (.ref 249), some (.ref 266), some (.int x4), some (.int r66.1), some (.int r67.1), o7, o8] [.int r66.1, .int v68] (by decide +kernel) rfl ?_
  refine i_ic (c := .eq) (off := 5) (t := 1197) (pc' := 1195) (p := v68 = r66.1) (by decide +kernel) rfl ?_ ?_
  · refine i_bl (pc' := 1199) [(.iload 5, 2)] [some (.ref 2), some (.ref 20), some (.ref 249), some (.ref 266), some (.int x4), some (.int r66.1), some (.int r67.1), o7, o8] [.int r66.1] (by decide +kernel) rfl ?_
    refine i_if (c := .ne) (off := 15) (t := 1214) (pc' := 1202) (p := ¬ r66.1 = 0) (by decide +kernel) rfl ?_ ?_
    · refine i_go (t := 3271) (off := 2057) (by decide +kernel) ?_
      refine i_bl (pc' := 3274) [(.iinc 4 (7), 3)] [some (.ref 2), some (.ref 20), some (.ref 249), some (.ref 266), some (.int (x4 + 7)), some (.int r66.1), some (.int r67.1), o7, o8] [] (by decide +kernel) rfl ?_
      refine i_wb (fun y69 => ev_dn (b - 1) (z - 6) 348 3274 [some (.ref 2), some (.ref 20), some (.ref 249), some (.ref 266), some (.int y69), some (.int r66.1), some (.int r67.1), o7, o8] [] (nx, mem L nx r67.2)) (fun y69 => ?_)
      refine i_go (t := 23) (off := -3251) (by decide +kernel) ?_
      exact i_cL (some (.int r66.1), some (.int r67.1), o7, o8) (b - 1) (z - 6) (by omega) (by omega) rfl
    · refine i_bl (pc' := 1204) [(.aload_n 3, 1), (.iconst 0, 1)] [some (.ref 2), some (.ref 20), some (.ref 249), some (.ref 266), some (.int x4), some (.int r66.1), some (.int r67.1), o7, o8] [.int 0, .ref 266] (by decide +kernel) rfl ?_
      refine i_ll (pc' := 1205) (by decide +kernel) h3 ?_
      refine i_bl (pc' := 1208) [(.iload 6, 2), (.i2l, 1)] [some (.ref 2), some (.ref 20), some (.ref 249), some (.ref 266), some (.int x4), some (.int r66.1), some (.int r67.1), o7, o8] [.long r67.1.toInt64, .long (r67.2 266 (ix 0)).toInt64] (by decide +kernel) rfl ?_
      refine i_lcm (x := (r67.2 266 (ix 0))) (y := r67.1) (pc' := 1209) (by decide +kernel) ?_
      refine i_if (c := .eq) (off := 5) (t := 1214) (pc' := 1212) (p := (ilg (r67.2 266 (ix 0)) r67.1) = 0) (by decide +kernel) rfl ?_ ?_
      · refine i_go (t := 3271) (off := 2057) (by decide +kernel) ?_
        refine i_bl (pc' := 3274) [(.iinc 4 (7), 3)] [some (.ref 2), some (.ref 20), some (.ref 249), some (.ref 266), some (.int (x4 + 7)), some (.int r66.1), some (.int r67.1), o7, o8] [] (by decide +kernel) rfl ?_
        refine i_wb (fun y70 => ev_dn (b - 1) (z - 6) 348 3274 [some (.ref 2), some (.ref 20), some (.ref 249), some (.ref 266), some (.int y70), some (.int r66.1), some (.int r67.1), o7, o8] [] (nx, mem L nx r67.2)) (fun y70 => ?_)
        refine i_go (t := 23) (off := -3251) (by decide +kernel) ?_
        exact i_cL (some (.int r66.1), some (.int r67.1), o7, o8) (b - 1) (z - 6) (by omega) (by omega) rfl
      · refine i_bl (pc' := 1213) [(.iconst 0, 1)] [some (.ref 2), some (.ref 20), some (.ref 249), some (.ref 266), some (.int x4), some (.int r66.1), some (.int r67.1), o7, o8] [.int 0] (by decide +kernel) rfl ?_
        exact i_iM (i_rz (B := false) (by decide +kernel) rfl)
  · refine i_bl (pc' := 1196) [(.iconst 0, 1)] [some (.ref 2), some (.ref 20), some (.ref 249), some (.ref 266), some (.int x4), some (.int r66.1), some (.int r67.1), o7, o8] [.int 0] (by decide +kernel) rfl ?_
    exact i_iM (i_rz (B := false) (by decide +kernel) rfl)

noncomputable def d_348_1217 (L : Nat) (x4 : Int32) (m : Mm) : Option ((Int32 × Mm) ⊕ (Bool × Mm)) := if ev_in (x4 + 1) L = true then ((d_322 20 (m 2 (ix (x4 + 1))) 266 m).bind fun r71 => if ev_in (x4 + 1) L = true then ((d_228 249 (r71.2 2 (ix (x4 + 1))) r71.2).bind fun r72 => (d_182 249 r72.2).bind fun v73 => if v73 = r71.1 then (if ¬ r71.1 = 0 then (wb (x4 + 7) fun y74 => some (.inl (y74, r72.2))) else (if ev_in 0 (sh_n 266) = true then (if (ilg (r72.2 266 (ix 0)) r72.1) = 0 then (wb (x4 + 7) fun y75 => some (.inl (y75, r72.2))) else (some (.inr (false, r72.2)))) else none)) else (some (.inr (false, r72.2)))) else none) else none
theorem t_348_1217 {L nx : Nat} (hN : okn nx) {b z : Nat} (hb : 1 ≤ b) (hz : 6 ≤ z) {b0 z0 : Nat} (hb0 : b0 + 1 ≤ b + 4) (hz0 : z0 + 6 ≤ z + 24) {m : Mm} (h0 : ok nx 2 99) (h1 : ok nx 20 10) (h2 : ok nx 249 11) (h3 : ok nx 266 102) {x4 : Int32} {o5 : Option Value} {o6 : Option Value} {o7 : Option Value} {o8 : Option Value} : Im (d_348_1217 L x4 m) (kM (wZ L nx) (fun b z => E_348_23 L nx b z) b0 z0) (ev_dn b z 348 1217 [some (.ref 2), some (.ref 20), some (.ref 249), some (.ref 266), some (.int x4), o5, o6, o7, o8] [] (nx, mem L nx m)) := by
  unfold d_348_1217
  refine i_bl (pc' := 1223) [(.aload_n 1, 1), (.aload_n 0, 1), (.iload 4, 2), (.iconst 1, 1), (.iadd, 1)] [some (.ref 2), some (.ref 20), some (.ref 249), some (.ref 266), some (.int x4), o5, o6, o7, o8] [.int (x4 + 1), .ref 2, .ref 20] (by decide +kernel) rfl ?_
  refine i_aS (pc' := 1224) L (by decide +kernel) rfl h0 ?_
  refine i_bl (pc' := 1225) [(.aload_n 3, 1)] [some (.ref 2), some (.ref 20), some (.ref 249), some (.ref 266), some (.int x4), o5, o6, o7, o8] [.ref 266, .int (m 2 (ix (x4 + 1))), .ref 20] (by decide +kernel) rfl ?_
  refine i_ck (k1 := 1) (k2 := 6) (t := 322) (na := 3) (ml := 4) (idx := 204) (pc' := 1228) (st' := []) (en := [some (.ref 20), some (.int (m 2 (ix (x4 + 1)))), some (.ref 266), none]) (av := [.ref 20, .int (m 2 (ix (x4 + 1))), .ref 266]) (vo := fun v => some (.int v.1)) (mo := fun v => v.2) (s2 := fun v => .int v.1 :: []) (by decide +kernel) ⟨rfl, rfl, rfl, rfl, rfl, rfl⟩ ⟨by omega, by omega⟩ (fun _ => rfl) (t_322 hN (b := 1) (z := 6) (by decide) (by decide) (h0 := h1) (h2 := h3)) (fun r71 => ?_)
  refine i_bl (pc' := 1236) [(.istore 5, 2), (.aload_n 2, 1), (.aload_n 0, 1), (.iload 4, 2), (.iconst 1, 1), (.iadd, 1)] [some (.ref 2), some (.ref 20), some (.ref 249), some (.ref 266), some (.int x4), some (.int r71.1), o6, o7, o8] [.int (x4 + 1), .ref 2, .ref 249] (by decide +kernel) rfl ?_
  refine i_aS (pc' := 1237) L (by decide +kernel) rfl h0 ?_
  refine i_cv (ci := 11) (t := 228) (na := 2) (ml := 3) (idx := 206) (pc' := 1240) (st' := []) (en := [some (.ref 249), some (.int (r71.2 2 (ix (x4 + 1)))), none]) (av := [.int (r71.2 2 (ix (x4 + 1)))]) (vo := fun v => some (.int v.1)) (mo := fun v => v.2) (s2 := fun v => .int v.1 :: []) (by decide +kernel) (by decide +kernel) h2 ⟨rfl, rfl, rfl, rfl, rfl, rfl⟩ (fun _ => rfl) (t_228 hN (h0 := h2)) (fun r72 => ?_)
  refine i_bl (pc' := 1243) [(.istore 6, 2), (.aload_n 2, 1)] [some (.ref 2), some (.ref 20), some (.ref 249), some (.ref 266), some (.int x4), some (.int r71.1), some (.int r72.1), o7, o8] [.ref 249] (by decide +kernel) rfl ?_
  refine i_cv (ci := 11) (t := 182) (na := 1) (ml := 1) (idx := 167) (pc' := 1246) (st' := []) (en := [some (.ref 249)]) (av := []) (vo := fun v => some (.int v)) (mo := fun _ => r72.2) (s2 := fun v => .int v :: []) (by decide +kernel) (by decide +kernel) h2 ⟨rfl, rfl, rfl, rfl, rfl, rfl⟩ (fun _ => rfl) (t_182 hN (h0 := h2)) (fun v73 => ?_)
  refine i_bl (pc' := 1248) [(.iload 5, 2)] [some (.ref 2), some (.ref 20), some (.ref 249), some (.ref 266), some (.int x4), some (.int r71.1), some (.int r72.1), o7, o8] [.int r71.1, .int v73] (by decide +kernel) rfl ?_
  refine i_ic (c := .eq) (off := 5) (t := 1253) (pc' := 1251) (p := v73 = r71.1) (by decide +kernel) rfl ?_ ?_
  · refine i_bl (pc' := 1255) [(.iload 5, 2)] [some (.ref 2), some (.ref 20), some (.ref 249), some (.ref 266), some (.int x4), some (.int r71.1), some (.int r72.1), o7, o8] [.int r71.1] (by decide +kernel) rfl ?_
    refine i_if (c := .ne) (off := 15) (t := 1270) (pc' := 1258) (p := ¬ r71.1 = 0) (by decide +kernel) rfl ?_ ?_
    · refine i_go (t := 3271) (off := 2001) (by decide +kernel) ?_
      refine i_bl (pc' := 3274) [(.iinc 4 (7), 3)] [some (.ref 2), some (.ref 20), some (.ref 249), some (.ref 266), some (.int (x4 + 7)), some (.int r71.1), some (.int r72.1), o7, o8] [] (by decide +kernel) rfl ?_
      refine i_wb (fun y74 => ev_dn (b - 1) (z - 6) 348 3274 [some (.ref 2), some (.ref 20), some (.ref 249), some (.ref 266), some (.int y74), some (.int r71.1), some (.int r72.1), o7, o8] [] (nx, mem L nx r72.2)) (fun y74 => ?_)
      refine i_go (t := 23) (off := -3251) (by decide +kernel) ?_
      exact i_cL (some (.int r71.1), some (.int r72.1), o7, o8) (b - 1) (z - 6) (by omega) (by omega) rfl
    · refine i_bl (pc' := 1260) [(.aload_n 3, 1), (.iconst 0, 1)] [some (.ref 2), some (.ref 20), some (.ref 249), some (.ref 266), some (.int x4), some (.int r71.1), some (.int r72.1), o7, o8] [.int 0, .ref 266] (by decide +kernel) rfl ?_
      refine i_ll (pc' := 1261) (by decide +kernel) h3 ?_
      refine i_bl (pc' := 1264) [(.iload 6, 2), (.i2l, 1)] [some (.ref 2), some (.ref 20), some (.ref 249), some (.ref 266), some (.int x4), some (.int r71.1), some (.int r72.1), o7, o8] [.long r72.1.toInt64, .long (r72.2 266 (ix 0)).toInt64] (by decide +kernel) rfl ?_
      refine i_lcm (x := (r72.2 266 (ix 0))) (y := r72.1) (pc' := 1265) (by decide +kernel) ?_
      refine i_if (c := .eq) (off := 5) (t := 1270) (pc' := 1268) (p := (ilg (r72.2 266 (ix 0)) r72.1) = 0) (by decide +kernel) rfl ?_ ?_
      · refine i_go (t := 3271) (off := 2001) (by decide +kernel) ?_
        refine i_bl (pc' := 3274) [(.iinc 4 (7), 3)] [some (.ref 2), some (.ref 20), some (.ref 249), some (.ref 266), some (.int (x4 + 7)), some (.int r71.1), some (.int r72.1), o7, o8] [] (by decide +kernel) rfl ?_
        refine i_wb (fun y75 => ev_dn (b - 1) (z - 6) 348 3274 [some (.ref 2), some (.ref 20), some (.ref 249), some (.ref 266), some (.int y75), some (.int r71.1), some (.int r72.1), o7, o8] [] (nx, mem L nx r72.2)) (fun y75 => ?_)
        refine i_go (t := 23) (off := -3251) (by decide +kernel) ?_
        exact i_cL (some (.int r71.1), some (.int r72.1), o7, o8) (b - 1) (z - 6) (by omega) (by omega) rfl
      · refine i_bl (pc' := 1269) [(.iconst 0, 1)] [some (.ref 2), some (.ref 20), some (.ref 249), some (.ref 266), some (.int x4), some (.int r71.1), some (.int r72.1), o7, o8] [.int 0] (by decide +kernel) rfl ?_
        exact i_iM (i_rz (B := false) (by decide +kernel) rfl)
  · refine i_bl (pc' := 1252) [(.iconst 0, 1)] [some (.ref 2), some (.ref 20), some (.ref 249), some (.ref 266), some (.int x4), some (.int r71.1), some (.int r72.1), o7, o8] [.int 0] (by decide +kernel) rfl ?_
    exact i_iM (i_rz (B := false) (by decide +kernel) rfl)

noncomputable def d_348_1273 (L : Nat) (x4 : Int32) (m : Mm) : Option ((Int32 × Mm) ⊕ (Bool × Mm)) := if ev_in (x4 + 1) L = true then (if ev_in (x4 + 2) L = true then (if ev_in (x4 + 3) L = true then (if ev_in (x4 + 4) L = true then (if ev_in (x4 + 5) L = true then ((d_323 20 (m 2 (ix (x4 + 1))) (m 2 (ix (x4 + 2))) (m 2 (ix (x4 + 3))) (m 2 (ix (x4 + 4))) (m 2 (ix (x4 + 5))) 266 m).bind fun r76 => if ev_in (x4 + 1) L = true then (if ev_in (x4 + 2) L = true then (if ev_in (x4 + 3) L = true then (if ev_in (x4 + 4) L = true then (if ev_in (x4 + 5) L = true then ((d_230 249 (r76.2 2 (ix (x4 + 1))) (r76.2 2 (ix (x4 + 2))) (r76.2 2 (ix (x4 + 3))) (r76.2 2 (ix (x4 + 4))) (r76.2 2 (ix (x4 + 5))) r76.2).bind fun r77 => (d_182 249 r77.2).bind fun v78 => if v78 = r76.1 then (if ¬ r76.1 = 0 then (wb (x4 + 7) fun y79 => some (.inl (y79, r77.2))) else (if ev_in 0 (sh_n 266) = true then (if (ilg (r77.2 266 (ix 0)) r77.1) = 0 then (wb (x4 + 7) fun y80 => some (.inl (y80, r77.2))) else (some (.inr (false, r77.2)))) else none)) else (some (.inr (false, r77.2)))) else none) else none) else none) else none) else none) else none) else none) else none) else none) else none
theorem t_348_1273 {L nx : Nat} (hN : okn nx) {b z : Nat} (hb : 3 ≤ b) (hz : 18 ≤ z) {b0 z0 : Nat} (hb0 : b0 + 3 ≤ b + 4) (hz0 : z0 + 18 ≤ z + 24) {m : Mm} (h0 : ok nx 2 99) (h1 : ok nx 20 10) (h2 : ok nx 249 11) (h3 : ok nx 266 102) {x4 : Int32} {o5 : Option Value} {o6 : Option Value} {o7 : Option Value} {o8 : Option Value} : Im (d_348_1273 L x4 m) (kM (wZ L nx) (fun b z => E_348_23 L nx b z) b0 z0) (ev_dn b z 348 1273 [some (.ref 2), some (.ref 20), some (.ref 249), some (.ref 266), some (.int x4), o5, o6, o7, o8] [] (nx, mem L nx m)) := by
  unfold d_348_1273
  refine i_bl (pc' := 1279) [(.aload_n 1, 1), (.aload_n 0, 1), (.iload 4, 2), (.iconst 1, 1), (.iadd, 1)] [some (.ref 2), some (.ref 20), some (.ref 249), some (.ref 266), some (.int x4), o5, o6, o7, o8] [.int (x4 + 1), .ref 2, .ref 20] (by decide +kernel) rfl ?_
  refine i_aS (pc' := 1280) L (by decide +kernel) rfl h0 ?_
  refine i_bl (pc' := 1285) [(.aload_n 0, 1), (.iload 4, 2), (.iconst 2, 1), (.iadd, 1)] [some (.ref 2), some (.ref 20), some (.ref 249), some (.ref 266), some (.int x4), o5, o6, o7, o8] [.int (x4 + 2), .ref 2, .int (m 2 (ix (x4 + 1))), .ref 20] (by decide +kernel) rfl ?_
  refine i_aS (pc' := 1286) L (by decide +kernel) rfl h0 ?_
  refine i_bl (pc' := 1291) [(.aload_n 0, 1), (.iload 4, 2), (.iconst 3, 1), (.iadd, 1)] [some (.ref 2), some (.ref 20), some (.ref 249), some (.ref 266), some (.int x4), o5, o6, o7, o8] [.int (x4 + 3), .ref 2, .int (m 2 (ix (x4 + 2))), .int (m 2 (ix (x4 + 1))), .ref 20] (by decide +kernel) rfl ?_
  refine i_aS (pc' := 1292) L (by decide +kernel) rfl h0 ?_
  refine i_bl (pc' := 1297) [(.aload_n 0, 1), (.iload 4, 2), (.iconst 4, 1), (.iadd, 1)] [some (.ref 2), some (.ref 20), some (.ref 249), some (.ref 266), some (.int x4), o5, o6, o7, o8] [.int (x4 + 4), .ref 2, .int (m 2 (ix (x4 + 3))), .int (m 2 (ix (x4 + 2))), .int (m 2 (ix (x4 + 1))), .ref 20] (by decide +kernel) rfl ?_
  refine i_aS (pc' := 1298) L (by decide +kernel) rfl h0 ?_
  refine i_bl (pc' := 1303) [(.aload_n 0, 1), (.iload 4, 2), (.iconst 5, 1), (.iadd, 1)] [some (.ref 2), some (.ref 20), some (.ref 249), some (.ref 266), some (.int x4), o5, o6, o7, o8] [.int (x4 + 5), .ref 2, .int (m 2 (ix (x4 + 4))), .int (m 2 (ix (x4 + 3))), .int (m 2 (ix (x4 + 2))), .int (m 2 (ix (x4 + 1))), .ref 20] (by decide +kernel) rfl ?_
  refine i_aS (pc' := 1304) L (by decide +kernel) rfl h0 ?_
  refine i_bl (pc' := 1305) [(.aload_n 3, 1)] [some (.ref 2), some (.ref 20), some (.ref 249), some (.ref 266), some (.int x4), o5, o6, o7, o8] [.ref 266, .int (m 2 (ix (x4 + 5))), .int (m 2 (ix (x4 + 4))), .int (m 2 (ix (x4 + 3))), .int (m 2 (ix (x4 + 2))), .int (m 2 (ix (x4 + 1))), .ref 20] (by decide +kernel) rfl ?_
  refine i_ck (k1 := 3) (k2 := 18) (t := 323) (na := 7) (ml := 8) (idx := 207) (pc' := 1308) (st' := []) (en := [some (.ref 20), some (.int (m 2 (ix (x4 + 1)))), some (.int (m 2 (ix (x4 + 2)))), some (.int (m 2 (ix (x4 + 3)))), some (.int (m 2 (ix (x4 + 4)))), some (.int (m 2 (ix (x4 + 5)))), some (.ref 266), none]) (av := [.ref 20, .int (m 2 (ix (x4 + 1))), .int (m 2 (ix (x4 + 2))), .int (m 2 (ix (x4 + 3))), .int (m 2 (ix (x4 + 4))), .int (m 2 (ix (x4 + 5))), .ref 266]) (vo := fun v => some (.int v.1)) (mo := fun v => v.2) (s2 := fun v => .int v.1 :: []) (by decide +kernel) ⟨rfl, rfl, rfl, rfl, rfl, rfl⟩ ⟨by omega, by omega⟩ (fun _ => rfl) (t_323 hN (b := 3) (z := 18) (by decide) (by decide) (h0 := h1) (h6 := h3)) (fun r76 => ?_)
  refine i_bl (pc' := 1316) [(.istore 5, 2), (.aload_n 2, 1), (.aload_n 0, 1), (.iload 4, 2), (.iconst 1, 1), (.iadd, 1)] [some (.ref 2), some (.ref 20), some (.ref 249), some (.ref 266), some (.int x4), some (.int r76.1), o6, o7, o8] [.int (x4 + 1), .ref 2, .ref 249] (by decide +kernel) rfl ?_
  refine i_aS (pc' := 1317) L (by decide +kernel) rfl h0 ?_
  refine i_bl (pc' := 1322) [(.aload_n 0, 1), (.iload 4, 2), (.iconst 2, 1), (.iadd, 1)] [some (.ref 2), some (.ref 20), some (.ref 249), some (.ref 266), some (.int x4), some (.int r76.1), o6, o7, o8] [.int (x4 + 2), .ref 2, .int (r76.2 2 (ix (x4 + 1))), .ref 249] (by decide +kernel) rfl ?_
  refine i_aS (pc' := 1323) L (by decide +kernel) rfl h0 ?_
  refine i_bl (pc' := 1328) [(.aload_n 0, 1), (.iload 4, 2), (.iconst 3, 1), (.iadd, 1)] [some (.ref 2), some (.ref 20), some (.ref 249), some (.ref 266), some (.int x4), some (.int r76.1), o6, o7, o8] [.int (x4 + 3), .ref 2, .int (r76.2 2 (ix (x4 + 2))), .int (r76.2 2 (ix (x4 + 1))), .ref 249] (by decide +kernel) rfl ?_
  refine i_aS (pc' := 1329) L (by decide +kernel) rfl h0 ?_
  refine i_bl (pc' := 1334) [(.aload_n 0, 1), (.iload 4, 2), (.iconst 4, 1), (.iadd, 1)] [some (.ref 2), some (.ref 20), some (.ref 249), some (.ref 266), some (.int x4), some (.int r76.1), o6, o7, o8] [.int (x4 + 4), .ref 2, .int (r76.2 2 (ix (x4 + 3))), .int (r76.2 2 (ix (x4 + 2))), .int (r76.2 2 (ix (x4 + 1))), .ref 249] (by decide +kernel) rfl ?_
  refine i_aS (pc' := 1335) L (by decide +kernel) rfl h0 ?_
  refine i_bl (pc' := 1340) [(.aload_n 0, 1), (.iload 4, 2), (.iconst 5, 1), (.iadd, 1)] [some (.ref 2), some (.ref 20), some (.ref 249), some (.ref 266), some (.int x4), some (.int r76.1), o6, o7, o8] [.int (x4 + 5), .ref 2, .int (r76.2 2 (ix (x4 + 4))), .int (r76.2 2 (ix (x4 + 3))), .int (r76.2 2 (ix (x4 + 2))), .int (r76.2 2 (ix (x4 + 1))), .ref 249] (by decide +kernel) rfl ?_
  refine i_aS (pc' := 1341) L (by decide +kernel) rfl h0 ?_
  refine i_cv (ci := 11) (t := 230) (na := 6) (ml := 10) (idx := 210) (pc' := 1344) (st' := []) (en := [some (.ref 249), some (.int (r76.2 2 (ix (x4 + 1)))), some (.int (r76.2 2 (ix (x4 + 2)))), some (.int (r76.2 2 (ix (x4 + 3)))), some (.int (r76.2 2 (ix (x4 + 4)))), some (.int (r76.2 2 (ix (x4 + 5)))), none, none, none, none]) (av := [.int (r76.2 2 (ix (x4 + 1))), .int (r76.2 2 (ix (x4 + 2))), .int (r76.2 2 (ix (x4 + 3))), .int (r76.2 2 (ix (x4 + 4))), .int (r76.2 2 (ix (x4 + 5)))]) (vo := fun v => some (.int v.1)) (mo := fun v => v.2) (s2 := fun v => .int v.1 :: []) (by decide +kernel) (by decide +kernel) h2 ⟨rfl, rfl, rfl, rfl, rfl, rfl⟩ (fun _ => rfl) (t_230 hN (h0 := h2)) (fun r77 => ?_)
  refine i_bl (pc' := 1347) [(.istore 6, 2), (.aload_n 2, 1)] [some (.ref 2), some (.ref 20), some (.ref 249), some (.ref 266), some (.int x4), some (.int r76.1), some (.int r77.1), o7, o8] [.ref 249] (by decide +kernel) rfl ?_
  refine i_cv (ci := 11) (t := 182) (na := 1) (ml := 1) (idx := 167) (pc' := 1350) (st' := []) (en := [some (.ref 249)]) (av := []) (vo := fun v => some (.int v)) (mo := fun _ => r77.2) (s2 := fun v => .int v :: []) (by decide +kernel) (by decide +kernel) h2 ⟨rfl, rfl, rfl, rfl, rfl, rfl⟩ (fun _ => rfl) (t_182 hN (h0 := h2)) (fun v78 => ?_)
  refine i_bl (pc' := 1352) [(.iload 5, 2)] [some (.ref 2), some (.ref 20), some (.ref 249), some (.ref 266), some (.int x4), some (.int r76.1), some (.int r77.1), o7, o8] [.int r76.1, .int v78] (by decide +kernel) rfl ?_
  refine i_ic (c := .eq) (off := 5) (t := 1357) (pc' := 1355) (p := v78 = r76.1) (by decide +kernel) rfl ?_ ?_
  · refine i_bl (pc' := 1359) [(.iload 5, 2)] [some (.ref 2), some (.ref 20), some (.ref 249), some (.ref 266), some (.int x4), some (.int r76.1), some (.int r77.1), o7, o8] [.int r76.1] (by decide +kernel) rfl ?_
    refine i_if (c := .ne) (off := 15) (t := 1374) (pc' := 1362) (p := ¬ r76.1 = 0) (by decide +kernel) rfl ?_ ?_
    · refine i_go (t := 3271) (off := 1897) (by decide +kernel) ?_
      refine i_bl (pc' := 3274) [(.iinc 4 (7), 3)] [some (.ref 2), some (.ref 20), some (.ref 249), some (.ref 266), some (.int (x4 + 7)), some (.int r76.1), some (.int r77.1), o7, o8] [] (by decide +kernel) rfl ?_
      refine i_wb (fun y79 => ev_dn (b - 3) (z - 18) 348 3274 [some (.ref 2), some (.ref 20), some (.ref 249), some (.ref 266), some (.int y79), some (.int r76.1), some (.int r77.1), o7, o8] [] (nx, mem L nx r77.2)) (fun y79 => ?_)
      refine i_go (t := 23) (off := -3251) (by decide +kernel) ?_
      exact i_cL (some (.int r76.1), some (.int r77.1), o7, o8) (b - 3) (z - 18) (by omega) (by omega) rfl
    · refine i_bl (pc' := 1364) [(.aload_n 3, 1), (.iconst 0, 1)] [some (.ref 2), some (.ref 20), some (.ref 249), some (.ref 266), some (.int x4), some (.int r76.1), some (.int r77.1), o7, o8] [.int 0, .ref 266] (by decide +kernel) rfl ?_
      refine i_ll (pc' := 1365) (by decide +kernel) h3 ?_
      refine i_bl (pc' := 1368) [(.iload 6, 2), (.i2l, 1)] [some (.ref 2), some (.ref 20), some (.ref 249), some (.ref 266), some (.int x4), some (.int r76.1), some (.int r77.1), o7, o8] [.long r77.1.toInt64, .long (r77.2 266 (ix 0)).toInt64] (by decide +kernel) rfl ?_
      refine i_lcm (x := (r77.2 266 (ix 0))) (y := r77.1) (pc' := 1369) (by decide +kernel) ?_
      refine i_if (c := .eq) (off := 5) (t := 1374) (pc' := 1372) (p := (ilg (r77.2 266 (ix 0)) r77.1) = 0) (by decide +kernel) rfl ?_ ?_
      · refine i_go (t := 3271) (off := 1897) (by decide +kernel) ?_
        refine i_bl (pc' := 3274) [(.iinc 4 (7), 3)] [some (.ref 2), some (.ref 20), some (.ref 249), some (.ref 266), some (.int (x4 + 7)), some (.int r76.1), some (.int r77.1), o7, o8] [] (by decide +kernel) rfl ?_
        refine i_wb (fun y80 => ev_dn (b - 3) (z - 18) 348 3274 [some (.ref 2), some (.ref 20), some (.ref 249), some (.ref 266), some (.int y80), some (.int r76.1), some (.int r77.1), o7, o8] [] (nx, mem L nx r77.2)) (fun y80 => ?_)
        refine i_go (t := 23) (off := -3251) (by decide +kernel) ?_
        exact i_cL (some (.int r76.1), some (.int r77.1), o7, o8) (b - 3) (z - 18) (by omega) (by omega) rfl
      · refine i_bl (pc' := 1373) [(.iconst 0, 1)] [some (.ref 2), some (.ref 20), some (.ref 249), some (.ref 266), some (.int x4), some (.int r76.1), some (.int r77.1), o7, o8] [.int 0] (by decide +kernel) rfl ?_
        exact i_iM (i_rz (B := false) (by decide +kernel) rfl)
  · refine i_bl (pc' := 1356) [(.iconst 0, 1)] [some (.ref 2), some (.ref 20), some (.ref 249), some (.ref 266), some (.int x4), some (.int r76.1), some (.int r77.1), o7, o8] [.int 0] (by decide +kernel) rfl ?_
    exact i_iM (i_rz (B := false) (by decide +kernel) rfl)

noncomputable def d_348_1431 (L : Nat) (x4 : Int32) (s0 : Int32) (s1 : Int32) (m : Mm) : Option ((Int32 × Mm) ⊕ (Bool × Mm)) := if (ilg s0 s1) = 0 then (wb (x4 + 7) fun y85 => some (.inl (y85, m))) else (some (.inr (false, m)))
theorem t_348_1431 {L nx : Nat} (hN : okn nx) {b z : Nat} {b0 z0 : Nat} (hb0 : b0 + 0 ≤ b + 4) (hz0 : z0 + 0 ≤ z + 24) {m : Mm} (h0 : ok nx 2 99) (h1 : ok nx 20 10) (h2 : ok nx 249 11) (h3 : ok nx 266 102) {x4 : Int32} {s0 : Int32} {s1 : Int32} {o5 : Option Value} {o6 : Option Value} {o7 : Option Value} {o8 : Option Value} : Im (d_348_1431 L x4 s0 s1 m) (kM (wZ L nx) (fun b z => E_348_23 L nx b z) b0 z0) (ev_dn b z 348 1431 [some (.ref 2), some (.ref 20), some (.ref 249), some (.ref 266), some (.int x4), o5, o6, o7, o8] [.long s1.toInt64, .long s0.toInt64] (nx, mem L nx m)) := by
  unfold d_348_1431
  refine i_lcm (x := s0) (y := s1) (pc' := 1432) (by decide +kernel) ?_
  refine i_if (c := .eq) (off := 5) (t := 1437) (pc' := 1435) (p := (ilg s0 s1) = 0) (by decide +kernel) rfl ?_ ?_
  · refine i_go (t := 3271) (off := 1834) (by decide +kernel) ?_
    refine i_bl (pc' := 3274) [(.iinc 4 (7), 3)] [some (.ref 2), some (.ref 20), some (.ref 249), some (.ref 266), some (.int (x4 + 7)), o5, o6, o7, o8] [] (by decide +kernel) rfl ?_
    refine i_wb (fun y85 => ev_dn b z 348 3274 [some (.ref 2), some (.ref 20), some (.ref 249), some (.ref 266), some (.int y85), o5, o6, o7, o8] [] (nx, mem L nx m)) (fun y85 => ?_)
    refine i_go (t := 23) (off := -3251) (by decide +kernel) ?_
    exact i_cL (o5, o6, o7, o8) b z (by omega) (by omega) rfl
  · refine i_bl (pc' := 1436) [(.iconst 0, 1)] [some (.ref 2), some (.ref 20), some (.ref 249), some (.ref 266), some (.int x4), o5, o6, o7, o8] [.int 0] (by decide +kernel) rfl ?_
    exact i_iM (i_rz (B := false) (by decide +kernel) rfl)

noncomputable def d_348_1377 (L : Nat) (x4 : Int32) (m : Mm) : Option ((Int32 × Mm) ⊕ (Bool × Mm)) := if ev_in (x4 + 1) L = true then ((d_324 20 (m 2 (ix (x4 + 1))) 266 m).bind fun r81 => if ev_in (x4 + 1) L = true then ((d_235 249 (r81.2 2 (ix (x4 + 1))) r81.2).bind fun r82 => (d_182 249 r82.2).bind fun v83 => if v83 = r81.1 then (if ¬ r81.1 = 0 then (wb (x4 + 7) fun y84 => some (.inl (y84, r82.2))) else (if ev_in 0 (sh_n 266) = true then (if r82.1 = true then (d_348_1431 L x4 (r82.2 266 (ix 0)) 1 r82.2) else (d_348_1431 L x4 (r82.2 266 (ix 0)) 0 r82.2)) else none)) else (some (.inr (false, r82.2)))) else none) else none
theorem t_348_1377 {L nx : Nat} (hN : okn nx) {b z : Nat} (hb : 1 ≤ b) (hz : 6 ≤ z) {b0 z0 : Nat} (hb0 : b0 + 1 ≤ b + 4) (hz0 : z0 + 6 ≤ z + 24) {m : Mm} (h0 : ok nx 2 99) (h1 : ok nx 20 10) (h2 : ok nx 249 11) (h3 : ok nx 266 102) {x4 : Int32} {o5 : Option Value} {o6 : Option Value} {o7 : Option Value} {o8 : Option Value} : Im (d_348_1377 L x4 m) (kM (wZ L nx) (fun b z => E_348_23 L nx b z) b0 z0) (ev_dn b z 348 1377 [some (.ref 2), some (.ref 20), some (.ref 249), some (.ref 266), some (.int x4), o5, o6, o7, o8] [] (nx, mem L nx m)) := by
  unfold d_348_1377
  refine i_bl (pc' := 1383) [(.aload_n 1, 1), (.aload_n 0, 1), (.iload 4, 2), (.iconst 1, 1), (.iadd, 1)] [some (.ref 2), some (.ref 20), some (.ref 249), some (.ref 266), some (.int x4), o5, o6, o7, o8] [.int (x4 + 1), .ref 2, .ref 20] (by decide +kernel) rfl ?_
  refine i_aS (pc' := 1384) L (by decide +kernel) rfl h0 ?_
  refine i_bl (pc' := 1385) [(.aload_n 3, 1)] [some (.ref 2), some (.ref 20), some (.ref 249), some (.ref 266), some (.int x4), o5, o6, o7, o8] [.ref 266, .int (m 2 (ix (x4 + 1))), .ref 20] (by decide +kernel) rfl ?_
  refine i_ck (k1 := 1) (k2 := 6) (t := 324) (na := 3) (ml := 4) (idx := 211) (pc' := 1388) (st' := []) (en := [some (.ref 20), some (.int (m 2 (ix (x4 + 1)))), some (.ref 266), none]) (av := [.ref 20, .int (m 2 (ix (x4 + 1))), .ref 266]) (vo := fun v => some (.int v.1)) (mo := fun v => v.2) (s2 := fun v => .int v.1 :: []) (by decide +kernel) ⟨rfl, rfl, rfl, rfl, rfl, rfl⟩ ⟨by omega, by omega⟩ (fun _ => rfl) (t_324 hN (b := 1) (z := 6) (by decide) (by decide) (h0 := h1) (h2 := h3)) (fun r81 => ?_)
  refine i_bl (pc' := 1396) [(.istore 5, 2), (.aload_n 2, 1), (.aload_n 0, 1), (.iload 4, 2), (.iconst 1, 1), (.iadd, 1)] [some (.ref 2), some (.ref 20), some (.ref 249), some (.ref 266), some (.int x4), some (.int r81.1), o6, o7, o8] [.int (x4 + 1), .ref 2, .ref 249] (by decide +kernel) rfl ?_
  refine i_aS (pc' := 1397) L (by decide +kernel) rfl h0 ?_
  refine i_cv (ci := 11) (t := 235) (na := 2) (ml := 2) (idx := 213) (pc' := 1400) (st' := []) (en := [some (.ref 249), some (.int (r81.2 2 (ix (x4 + 1))))]) (av := [.int (r81.2 2 (ix (x4 + 1)))]) (vo := fun v => some (.int (bi v.1))) (mo := fun v => v.2) (s2 := fun v => .int (bi v.1) :: []) (by decide +kernel) (by decide +kernel) h2 ⟨rfl, rfl, rfl, rfl, rfl, rfl⟩ (fun _ => rfl) (t_235 hN (h0 := h2)) (fun r82 => ?_)
  refine i_bl (pc' := 1403) [(.istore 6, 2), (.aload_n 2, 1)] [some (.ref 2), some (.ref 20), some (.ref 249), some (.ref 266), some (.int x4), some (.int r81.1), some (.int (bi r82.1)), o7, o8] [.ref 249] (by decide +kernel) rfl ?_
  refine i_cv (ci := 11) (t := 182) (na := 1) (ml := 1) (idx := 167) (pc' := 1406) (st' := []) (en := [some (.ref 249)]) (av := []) (vo := fun v => some (.int v)) (mo := fun _ => r82.2) (s2 := fun v => .int v :: []) (by decide +kernel) (by decide +kernel) h2 ⟨rfl, rfl, rfl, rfl, rfl, rfl⟩ (fun _ => rfl) (t_182 hN (h0 := h2)) (fun v83 => ?_)
  refine i_bl (pc' := 1408) [(.iload 5, 2)] [some (.ref 2), some (.ref 20), some (.ref 249), some (.ref 266), some (.int x4), some (.int r81.1), some (.int (bi r82.1)), o7, o8] [.int r81.1, .int v83] (by decide +kernel) rfl ?_
  refine i_ic (c := .eq) (off := 5) (t := 1413) (pc' := 1411) (p := v83 = r81.1) (by decide +kernel) rfl ?_ ?_
  · refine i_bl (pc' := 1415) [(.iload 5, 2)] [some (.ref 2), some (.ref 20), some (.ref 249), some (.ref 266), some (.int x4), some (.int r81.1), some (.int (bi r82.1)), o7, o8] [.int r81.1] (by decide +kernel) rfl ?_
    refine i_if (c := .ne) (off := 22) (t := 1437) (pc' := 1418) (p := ¬ r81.1 = 0) (by decide +kernel) rfl ?_ ?_
    · refine i_go (t := 3271) (off := 1834) (by decide +kernel) ?_
      refine i_bl (pc' := 3274) [(.iinc 4 (7), 3)] [some (.ref 2), some (.ref 20), some (.ref 249), some (.ref 266), some (.int (x4 + 7)), some (.int r81.1), some (.int (bi r82.1)), o7, o8] [] (by decide +kernel) rfl ?_
      refine i_wb (fun y84 => ev_dn (b - 1) (z - 6) 348 3274 [some (.ref 2), some (.ref 20), some (.ref 249), some (.ref 266), some (.int y84), some (.int r81.1), some (.int (bi r82.1)), o7, o8] [] (nx, mem L nx r82.2)) (fun y84 => ?_)
      refine i_go (t := 23) (off := -3251) (by decide +kernel) ?_
      exact i_cL (some (.int r81.1), some (.int (bi r82.1)), o7, o8) (b - 1) (z - 6) (by omega) (by omega) rfl
    · refine i_bl (pc' := 1420) [(.aload_n 3, 1), (.iconst 0, 1)] [some (.ref 2), some (.ref 20), some (.ref 249), some (.ref 266), some (.int x4), some (.int r81.1), some (.int (bi r82.1)), o7, o8] [.int 0, .ref 266] (by decide +kernel) rfl ?_
      refine i_ll (pc' := 1421) (by decide +kernel) h3 ?_
      refine i_bl (pc' := 1423) [(.iload 6, 2)] [some (.ref 2), some (.ref 20), some (.ref 249), some (.ref 266), some (.int x4), some (.int r81.1), some (.int (bi r82.1)), o7, o8] [.int (bi r82.1), .long (r82.2 266 (ix 0)).toInt64] (by decide +kernel) rfl ?_
      refine i_bz (off := 7) (t := 1430) (pc' := 1426) (by decide +kernel) ?_ ?_
      · refine i_bl (pc' := 1427) [(.lconst 1, 1)] [some (.ref 2), some (.ref 20), some (.ref 249), some (.ref 266), some (.int x4), some (.int r81.1), some (.int (bi r82.1)), o7, o8] [.long (1 : Int32).toInt64, .long (r82.2 266 (ix 0)).toInt64] (by decide +kernel) rfl ?_
        refine i_go (t := 1431) (off := 4) (by decide +kernel) ?_
        exact t_348_1431 hN (by omega) (by omega) (h0 := h0) (h1 := h1) (h2 := h2) (h3 := h3)
      · refine i_bl (pc' := 1431) [(.lconst 0, 1)] [some (.ref 2), some (.ref 20), some (.ref 249), some (.ref 266), some (.int x4), some (.int r81.1), some (.int (bi r82.1)), o7, o8] [.long (0 : Int32).toInt64, .long (r82.2 266 (ix 0)).toInt64] (by decide +kernel) rfl ?_
        exact t_348_1431 hN (by omega) (by omega) (h0 := h0) (h1 := h1) (h2 := h2) (h3 := h3)
  · refine i_bl (pc' := 1412) [(.iconst 0, 1)] [some (.ref 2), some (.ref 20), some (.ref 249), some (.ref 266), some (.int x4), some (.int r81.1), some (.int (bi r82.1)), o7, o8] [.int 0] (by decide +kernel) rfl ?_
    exact i_iM (i_rz (B := false) (by decide +kernel) rfl)

noncomputable def d_348_1440 (L : Nat) (x4 : Int32) (m : Mm) : Option ((Int32 × Mm) ⊕ (Bool × Mm)) := if ev_in (x4 + 1) L = true then (if ev_in (x4 + 2) L = true then ((d_325 20 (m 2 (ix (x4 + 1))) (m 2 (ix (x4 + 2))) 266 m).bind fun r86 => if ev_in (x4 + 1) L = true then (if ev_in (x4 + 2) L = true then ((d_236 249 (r86.2 2 (ix (x4 + 1))) (r86.2 2 (ix (x4 + 2))) r86.2).bind fun r87 => (d_182 249 r87.2).bind fun v88 => if v88 = r86.1 then (if ¬ r86.1 = 0 then (wb (x4 + 7) fun y89 => some (.inl (y89, r87.2))) else (if ev_in 0 (sh_n 266) = true then (if (ilg (r87.2 266 (ix 0)) r87.1) = 0 then (wb (x4 + 7) fun y90 => some (.inl (y90, r87.2))) else (some (.inr (false, r87.2)))) else none)) else (some (.inr (false, r87.2)))) else none) else none) else none) else none
theorem t_348_1440 {L nx : Nat} (hN : okn nx) {b z : Nat} (hb : 2 ≤ b) (hz : 12 ≤ z) {b0 z0 : Nat} (hb0 : b0 + 2 ≤ b + 4) (hz0 : z0 + 12 ≤ z + 24) {m : Mm} (h0 : ok nx 2 99) (h1 : ok nx 20 10) (h2 : ok nx 249 11) (h3 : ok nx 266 102) {x4 : Int32} {o5 : Option Value} {o6 : Option Value} {o7 : Option Value} {o8 : Option Value} : Im (d_348_1440 L x4 m) (kM (wZ L nx) (fun b z => E_348_23 L nx b z) b0 z0) (ev_dn b z 348 1440 [some (.ref 2), some (.ref 20), some (.ref 249), some (.ref 266), some (.int x4), o5, o6, o7, o8] [] (nx, mem L nx m)) := by
  unfold d_348_1440
  refine i_bl (pc' := 1446) [(.aload_n 1, 1), (.aload_n 0, 1), (.iload 4, 2), (.iconst 1, 1), (.iadd, 1)] [some (.ref 2), some (.ref 20), some (.ref 249), some (.ref 266), some (.int x4), o5, o6, o7, o8] [.int (x4 + 1), .ref 2, .ref 20] (by decide +kernel) rfl ?_
  refine i_aS (pc' := 1447) L (by decide +kernel) rfl h0 ?_
  refine i_bl (pc' := 1452) [(.aload_n 0, 1), (.iload 4, 2), (.iconst 2, 1), (.iadd, 1)] [some (.ref 2), some (.ref 20), some (.ref 249), some (.ref 266), some (.int x4), o5, o6, o7, o8] [.int (x4 + 2), .ref 2, .int (m 2 (ix (x4 + 1))), .ref 20] (by decide +kernel) rfl ?_
  refine i_aS (pc' := 1453) L (by decide +kernel) rfl h0 ?_
  refine i_bl (pc' := 1454) [(.aload_n 3, 1)] [some (.ref 2), some (.ref 20), some (.ref 249), some (.ref 266), some (.int x4), o5, o6, o7, o8] [.ref 266, .int (m 2 (ix (x4 + 2))), .int (m 2 (ix (x4 + 1))), .ref 20] (by decide +kernel) rfl ?_
  refine i_ck (k1 := 2) (k2 := 12) (t := 325) (na := 4) (ml := 5) (idx := 214) (pc' := 1457) (st' := []) (en := [some (.ref 20), some (.int (m 2 (ix (x4 + 1)))), some (.int (m 2 (ix (x4 + 2)))), some (.ref 266), none]) (av := [.ref 20, .int (m 2 (ix (x4 + 1))), .int (m 2 (ix (x4 + 2))), .ref 266]) (vo := fun v => some (.int v.1)) (mo := fun v => v.2) (s2 := fun v => .int v.1 :: []) (by decide +kernel) ⟨rfl, rfl, rfl, rfl, rfl, rfl⟩ ⟨by omega, by omega⟩ (fun _ => rfl) (t_325 hN (b := 2) (z := 12) (by decide) (by decide) (h0 := h1) (h3 := h3)) (fun r86 => ?_)
  refine i_bl (pc' := 1465) [(.istore 5, 2), (.aload_n 2, 1), (.aload_n 0, 1), (.iload 4, 2), (.iconst 1, 1), (.iadd, 1)] [some (.ref 2), some (.ref 20), some (.ref 249), some (.ref 266), some (.int x4), some (.int r86.1), o6, o7, o8] [.int (x4 + 1), .ref 2, .ref 249] (by decide +kernel) rfl ?_
  refine i_aS (pc' := 1466) L (by decide +kernel) rfl h0 ?_
  refine i_bl (pc' := 1471) [(.aload_n 0, 1), (.iload 4, 2), (.iconst 2, 1), (.iadd, 1)] [some (.ref 2), some (.ref 20), some (.ref 249), some (.ref 266), some (.int x4), some (.int r86.1), o6, o7, o8] [.int (x4 + 2), .ref 2, .int (r86.2 2 (ix (x4 + 1))), .ref 249] (by decide +kernel) rfl ?_
  refine i_aS (pc' := 1472) L (by decide +kernel) rfl h0 ?_
  refine i_cv (ci := 11) (t := 236) (na := 3) (ml := 3) (idx := 216) (pc' := 1475) (st' := []) (en := [some (.ref 249), some (.int (r86.2 2 (ix (x4 + 1)))), some (.int (r86.2 2 (ix (x4 + 2))))]) (av := [.int (r86.2 2 (ix (x4 + 1))), .int (r86.2 2 (ix (x4 + 2)))]) (vo := fun v => some (.int v.1)) (mo := fun v => v.2) (s2 := fun v => .int v.1 :: []) (by decide +kernel) (by decide +kernel) h2 ⟨rfl, rfl, rfl, rfl, rfl, rfl⟩ (fun _ => rfl) (t_236 hN (h0 := h2)) (fun r87 => ?_)
  refine i_bl (pc' := 1478) [(.istore 6, 2), (.aload_n 2, 1)] [some (.ref 2), some (.ref 20), some (.ref 249), some (.ref 266), some (.int x4), some (.int r86.1), some (.int r87.1), o7, o8] [.ref 249] (by decide +kernel) rfl ?_
  refine i_cv (ci := 11) (t := 182) (na := 1) (ml := 1) (idx := 167) (pc' := 1481) (st' := []) (en := [some (.ref 249)]) (av := []) (vo := fun v => some (.int v)) (mo := fun _ => r87.2) (s2 := fun v => .int v :: []) (by decide +kernel) (by decide +kernel) h2 ⟨rfl, rfl, rfl, rfl, rfl, rfl⟩ (fun _ => rfl) (t_182 hN (h0 := h2)) (fun v88 => ?_)
  refine i_bl (pc' := 1483) [(.iload 5, 2)] [some (.ref 2), some (.ref 20), some (.ref 249), some (.ref 266), some (.int x4), some (.int r86.1), some (.int r87.1), o7, o8] [.int r86.1, .int v88] (by decide +kernel) rfl ?_
  refine i_ic (c := .eq) (off := 5) (t := 1488) (pc' := 1486) (p := v88 = r86.1) (by decide +kernel) rfl ?_ ?_
  · refine i_bl (pc' := 1490) [(.iload 5, 2)] [some (.ref 2), some (.ref 20), some (.ref 249), some (.ref 266), some (.int x4), some (.int r86.1), some (.int r87.1), o7, o8] [.int r86.1] (by decide +kernel) rfl ?_
    refine i_if (c := .ne) (off := 15) (t := 1505) (pc' := 1493) (p := ¬ r86.1 = 0) (by decide +kernel) rfl ?_ ?_
    · refine i_go (t := 3271) (off := 1766) (by decide +kernel) ?_
      refine i_bl (pc' := 3274) [(.iinc 4 (7), 3)] [some (.ref 2), some (.ref 20), some (.ref 249), some (.ref 266), some (.int (x4 + 7)), some (.int r86.1), some (.int r87.1), o7, o8] [] (by decide +kernel) rfl ?_
      refine i_wb (fun y89 => ev_dn (b - 2) (z - 12) 348 3274 [some (.ref 2), some (.ref 20), some (.ref 249), some (.ref 266), some (.int y89), some (.int r86.1), some (.int r87.1), o7, o8] [] (nx, mem L nx r87.2)) (fun y89 => ?_)
      refine i_go (t := 23) (off := -3251) (by decide +kernel) ?_
      exact i_cL (some (.int r86.1), some (.int r87.1), o7, o8) (b - 2) (z - 12) (by omega) (by omega) rfl
    · refine i_bl (pc' := 1495) [(.aload_n 3, 1), (.iconst 0, 1)] [some (.ref 2), some (.ref 20), some (.ref 249), some (.ref 266), some (.int x4), some (.int r86.1), some (.int r87.1), o7, o8] [.int 0, .ref 266] (by decide +kernel) rfl ?_
      refine i_ll (pc' := 1496) (by decide +kernel) h3 ?_
      refine i_bl (pc' := 1499) [(.iload 6, 2), (.i2l, 1)] [some (.ref 2), some (.ref 20), some (.ref 249), some (.ref 266), some (.int x4), some (.int r86.1), some (.int r87.1), o7, o8] [.long r87.1.toInt64, .long (r87.2 266 (ix 0)).toInt64] (by decide +kernel) rfl ?_
      refine i_lcm (x := (r87.2 266 (ix 0))) (y := r87.1) (pc' := 1500) (by decide +kernel) ?_
      refine i_if (c := .eq) (off := 5) (t := 1505) (pc' := 1503) (p := (ilg (r87.2 266 (ix 0)) r87.1) = 0) (by decide +kernel) rfl ?_ ?_
      · refine i_go (t := 3271) (off := 1766) (by decide +kernel) ?_
        refine i_bl (pc' := 3274) [(.iinc 4 (7), 3)] [some (.ref 2), some (.ref 20), some (.ref 249), some (.ref 266), some (.int (x4 + 7)), some (.int r86.1), some (.int r87.1), o7, o8] [] (by decide +kernel) rfl ?_
        refine i_wb (fun y90 => ev_dn (b - 2) (z - 12) 348 3274 [some (.ref 2), some (.ref 20), some (.ref 249), some (.ref 266), some (.int y90), some (.int r86.1), some (.int r87.1), o7, o8] [] (nx, mem L nx r87.2)) (fun y90 => ?_)
        refine i_go (t := 23) (off := -3251) (by decide +kernel) ?_
        exact i_cL (some (.int r86.1), some (.int r87.1), o7, o8) (b - 2) (z - 12) (by omega) (by omega) rfl
      · refine i_bl (pc' := 1504) [(.iconst 0, 1)] [some (.ref 2), some (.ref 20), some (.ref 249), some (.ref 266), some (.int x4), some (.int r86.1), some (.int r87.1), o7, o8] [.int 0] (by decide +kernel) rfl ?_
        exact i_iM (i_rz (B := false) (by decide +kernel) rfl)
  · refine i_bl (pc' := 1487) [(.iconst 0, 1)] [some (.ref 2), some (.ref 20), some (.ref 249), some (.ref 266), some (.int x4), some (.int r86.1), some (.int r87.1), o7, o8] [.int 0] (by decide +kernel) rfl ?_
    exact i_iM (i_rz (B := false) (by decide +kernel) rfl)

noncomputable def d_348_1508 (L : Nat) (x4 : Int32) (m : Mm) : Option ((Int32 × Mm) ⊕ (Bool × Mm)) := if ev_in (x4 + 1) L = true then ((d_326 20 (m 2 (ix (x4 + 1))) 266 m).bind fun r91 => if ev_in (x4 + 1) L = true then ((d_237 249 (r91.2 2 (ix (x4 + 1))) r91.2).bind fun r92 => (d_182 249 r92.2).bind fun v93 => if v93 = r91.1 then (if ¬ r91.1 = 0 then (wb (x4 + 7) fun y94 => some (.inl (y94, r92.2))) else (if ev_in 0 (sh_n 266) = true then (if (ilg (r92.2 266 (ix 0)) r92.1) = 0 then (wb (x4 + 7) fun y95 => some (.inl (y95, r92.2))) else (some (.inr (false, r92.2)))) else none)) else (some (.inr (false, r92.2)))) else none) else none
theorem t_348_1508 {L nx : Nat} (hN : okn nx) {b z : Nat} (hb : 1 ≤ b) (hz : 6 ≤ z) {b0 z0 : Nat} (hb0 : b0 + 1 ≤ b + 4) (hz0 : z0 + 6 ≤ z + 24) {m : Mm} (h0 : ok nx 2 99) (h1 : ok nx 20 10) (h2 : ok nx 249 11) (h3 : ok nx 266 102) {x4 : Int32} {o5 : Option Value} {o6 : Option Value} {o7 : Option Value} {o8 : Option Value} : Im (d_348_1508 L x4 m) (kM (wZ L nx) (fun b z => E_348_23 L nx b z) b0 z0) (ev_dn b z 348 1508 [some (.ref 2), some (.ref 20), some (.ref 249), some (.ref 266), some (.int x4), o5, o6, o7, o8] [] (nx, mem L nx m)) := by
  unfold d_348_1508
  refine i_bl (pc' := 1514) [(.aload_n 1, 1), (.aload_n 0, 1), (.iload 4, 2), (.iconst 1, 1), (.iadd, 1)] [some (.ref 2), some (.ref 20), some (.ref 249), some (.ref 266), some (.int x4), o5, o6, o7, o8] [.int (x4 + 1), .ref 2, .ref 20] (by decide +kernel) rfl ?_
  refine i_aS (pc' := 1515) L (by decide +kernel) rfl h0 ?_
  refine i_bl (pc' := 1516) [(.aload_n 3, 1)] [some (.ref 2), some (.ref 20), some (.ref 249), some (.ref 266), some (.int x4), o5, o6, o7, o8] [.ref 266, .int (m 2 (ix (x4 + 1))), .ref 20] (by decide +kernel) rfl ?_
  refine i_ck (k1 := 1) (k2 := 6) (t := 326) (na := 3) (ml := 4) (idx := 217) (pc' := 1519) (st' := []) (en := [some (.ref 20), some (.int (m 2 (ix (x4 + 1)))), some (.ref 266), none]) (av := [.ref 20, .int (m 2 (ix (x4 + 1))), .ref 266]) (vo := fun v => some (.int v.1)) (mo := fun v => v.2) (s2 := fun v => .int v.1 :: []) (by decide +kernel) ⟨rfl, rfl, rfl, rfl, rfl, rfl⟩ ⟨by omega, by omega⟩ (fun _ => rfl) (t_326 hN (b := 1) (z := 6) (by decide) (by decide) (h0 := h1) (h2 := h3)) (fun r91 => ?_)
  refine i_bl (pc' := 1527) [(.istore 5, 2), (.aload_n 2, 1), (.aload_n 0, 1), (.iload 4, 2), (.iconst 1, 1), (.iadd, 1)] [some (.ref 2), some (.ref 20), some (.ref 249), some (.ref 266), some (.int x4), some (.int r91.1), o6, o7, o8] [.int (x4 + 1), .ref 2, .ref 249] (by decide +kernel) rfl ?_
  refine i_aS (pc' := 1528) L (by decide +kernel) rfl h0 ?_
  refine i_cv (ci := 11) (t := 237) (na := 2) (ml := 3) (idx := 219) (pc' := 1531) (st' := []) (en := [some (.ref 249), some (.int (r91.2 2 (ix (x4 + 1)))), none]) (av := [.int (r91.2 2 (ix (x4 + 1)))]) (vo := fun v => some (.int v.1)) (mo := fun v => v.2) (s2 := fun v => .int v.1 :: []) (by decide +kernel) (by decide +kernel) h2 ⟨rfl, rfl, rfl, rfl, rfl, rfl⟩ (fun _ => rfl) (t_237 hN (h0 := h2)) (fun r92 => ?_)
  refine i_bl (pc' := 1534) [(.istore 6, 2), (.aload_n 2, 1)] [some (.ref 2), some (.ref 20), some (.ref 249), some (.ref 266), some (.int x4), some (.int r91.1), some (.int r92.1), o7, o8] [.ref 249] (by decide +kernel) rfl ?_
  refine i_cv (ci := 11) (t := 182) (na := 1) (ml := 1) (idx := 167) (pc' := 1537) (st' := []) (en := [some (.ref 249)]) (av := []) (vo := fun v => some (.int v)) (mo := fun _ => r92.2) (s2 := fun v => .int v :: []) (by decide +kernel) (by decide +kernel) h2 ⟨rfl, rfl, rfl, rfl, rfl, rfl⟩ (fun _ => rfl) (t_182 hN (h0 := h2)) (fun v93 => ?_)
  refine i_bl (pc' := 1539) [(.iload 5, 2)] [some (.ref 2), some (.ref 20), some (.ref 249), some (.ref 266), some (.int x4), some (.int r91.1), some (.int r92.1), o7, o8] [.int r91.1, .int v93] (by decide +kernel) rfl ?_
  refine i_ic (c := .eq) (off := 5) (t := 1544) (pc' := 1542) (p := v93 = r91.1) (by decide +kernel) rfl ?_ ?_
  · refine i_bl (pc' := 1546) [(.iload 5, 2)] [some (.ref 2), some (.ref 20), some (.ref 249), some (.ref 266), some (.int x4), some (.int r91.1), some (.int r92.1), o7, o8] [.int r91.1] (by decide +kernel) rfl ?_
    refine i_if (c := .ne) (off := 15) (t := 1561) (pc' := 1549) (p := ¬ r91.1 = 0) (by decide +kernel) rfl ?_ ?_
    · refine i_go (t := 3271) (off := 1710) (by decide +kernel) ?_
      refine i_bl (pc' := 3274) [(.iinc 4 (7), 3)] [some (.ref 2), some (.ref 20), some (.ref 249), some (.ref 266), some (.int (x4 + 7)), some (.int r91.1), some (.int r92.1), o7, o8] [] (by decide +kernel) rfl ?_
      refine i_wb (fun y94 => ev_dn (b - 1) (z - 6) 348 3274 [some (.ref 2), some (.ref 20), some (.ref 249), some (.ref 266), some (.int y94), some (.int r91.1), some (.int r92.1), o7, o8] [] (nx, mem L nx r92.2)) (fun y94 => ?_)
      refine i_go (t := 23) (off := -3251) (by decide +kernel) ?_
      exact i_cL (some (.int r91.1), some (.int r92.1), o7, o8) (b - 1) (z - 6) (by omega) (by omega) rfl
    · refine i_bl (pc' := 1551) [(.aload_n 3, 1), (.iconst 0, 1)] [some (.ref 2), some (.ref 20), some (.ref 249), some (.ref 266), some (.int x4), some (.int r91.1), some (.int r92.1), o7, o8] [.int 0, .ref 266] (by decide +kernel) rfl ?_
      refine i_ll (pc' := 1552) (by decide +kernel) h3 ?_
      refine i_bl (pc' := 1555) [(.iload 6, 2), (.i2l, 1)] [some (.ref 2), some (.ref 20), some (.ref 249), some (.ref 266), some (.int x4), some (.int r91.1), some (.int r92.1), o7, o8] [.long r92.1.toInt64, .long (r92.2 266 (ix 0)).toInt64] (by decide +kernel) rfl ?_
      refine i_lcm (x := (r92.2 266 (ix 0))) (y := r92.1) (pc' := 1556) (by decide +kernel) ?_
      refine i_if (c := .eq) (off := 5) (t := 1561) (pc' := 1559) (p := (ilg (r92.2 266 (ix 0)) r92.1) = 0) (by decide +kernel) rfl ?_ ?_
      · refine i_go (t := 3271) (off := 1710) (by decide +kernel) ?_
        refine i_bl (pc' := 3274) [(.iinc 4 (7), 3)] [some (.ref 2), some (.ref 20), some (.ref 249), some (.ref 266), some (.int (x4 + 7)), some (.int r91.1), some (.int r92.1), o7, o8] [] (by decide +kernel) rfl ?_
        refine i_wb (fun y95 => ev_dn (b - 1) (z - 6) 348 3274 [some (.ref 2), some (.ref 20), some (.ref 249), some (.ref 266), some (.int y95), some (.int r91.1), some (.int r92.1), o7, o8] [] (nx, mem L nx r92.2)) (fun y95 => ?_)
        refine i_go (t := 23) (off := -3251) (by decide +kernel) ?_
        exact i_cL (some (.int r91.1), some (.int r92.1), o7, o8) (b - 1) (z - 6) (by omega) (by omega) rfl
      · refine i_bl (pc' := 1560) [(.iconst 0, 1)] [some (.ref 2), some (.ref 20), some (.ref 249), some (.ref 266), some (.int x4), some (.int r91.1), some (.int r92.1), o7, o8] [.int 0] (by decide +kernel) rfl ?_
        exact i_iM (i_rz (B := false) (by decide +kernel) rfl)
  · refine i_bl (pc' := 1543) [(.iconst 0, 1)] [some (.ref 2), some (.ref 20), some (.ref 249), some (.ref 266), some (.int x4), some (.int r91.1), some (.int r92.1), o7, o8] [.int 0] (by decide +kernel) rfl ?_
    exact i_iM (i_rz (B := false) (by decide +kernel) rfl)

noncomputable def d_348_1564 (L : Nat) (x4 : Int32) (m : Mm) : Option ((Int32 × Mm) ⊕ (Bool × Mm)) := if ev_in (x4 + 1) L = true then (if ev_in (x4 + 2) L = true then ((d_327 20 (m 2 (ix (x4 + 1))) (m 2 (ix (x4 + 2))) 266 m).bind fun r96 => if ev_in (x4 + 1) L = true then (if ev_in (x4 + 2) L = true then ((d_239 249 (r96.2 2 (ix (x4 + 1))) (r96.2 2 (ix (x4 + 2))) r96.2).bind fun r97 => (d_182 249 r97.2).bind fun v98 => if v98 = r96.1 then (if ¬ r96.1 = 0 then (wb (x4 + 7) fun y99 => some (.inl (y99, r97.2))) else (if ev_in 0 (sh_n 266) = true then (if (ilg (r97.2 266 (ix 0)) r97.1) = 0 then (wb (x4 + 7) fun y100 => some (.inl (y100, r97.2))) else (some (.inr (false, r97.2)))) else none)) else (some (.inr (false, r97.2)))) else none) else none) else none) else none
theorem t_348_1564 {L nx : Nat} (hN : okn nx) {b z : Nat} (hb : 2 ≤ b) (hz : 12 ≤ z) {b0 z0 : Nat} (hb0 : b0 + 2 ≤ b + 4) (hz0 : z0 + 12 ≤ z + 24) {m : Mm} (h0 : ok nx 2 99) (h1 : ok nx 20 10) (h2 : ok nx 249 11) (h3 : ok nx 266 102) {x4 : Int32} {o5 : Option Value} {o6 : Option Value} {o7 : Option Value} {o8 : Option Value} : Im (d_348_1564 L x4 m) (kM (wZ L nx) (fun b z => E_348_23 L nx b z) b0 z0) (ev_dn b z 348 1564 [some (.ref 2), some (.ref 20), some (.ref 249), some (.ref 266), some (.int x4), o5, o6, o7, o8] [] (nx, mem L nx m)) := by
  unfold d_348_1564
  refine i_bl (pc' := 1570) [(.aload_n 1, 1), (.aload_n 0, 1), (.iload 4, 2), (.iconst 1, 1), (.iadd, 1)] [some (.ref 2), some (.ref 20), some (.ref 249), some (.ref 266), some (.int x4), o5, o6, o7, o8] [.int (x4 + 1), .ref 2, .ref 20] (by decide +kernel) rfl ?_
  refine i_aS (pc' := 1571) L (by decide +kernel) rfl h0 ?_
  refine i_bl (pc' := 1576) [(.aload_n 0, 1), (.iload 4, 2), (.iconst 2, 1), (.iadd, 1)] [some (.ref 2), some (.ref 20), some (.ref 249), some (.ref 266), some (.int x4), o5, o6, o7, o8] [.int (x4 + 2), .ref 2, .int (m 2 (ix (x4 + 1))), .ref 20] (by decide +kernel) rfl ?_
  refine i_aS (pc' := 1577) L (by decide +kernel) rfl h0 ?_
  refine i_bl (pc' := 1578) [(.aload_n 3, 1)] [some (.ref 2), some (.ref 20), some (.ref 249), some (.ref 266), some (.int x4), o5, o6, o7, o8] [.ref 266, .int (m 2 (ix (x4 + 2))), .int (m 2 (ix (x4 + 1))), .ref 20] (by decide +kernel) rfl ?_
  refine i_ck (k1 := 2) (k2 := 12) (t := 327) (na := 4) (ml := 5) (idx := 220) (pc' := 1581) (st' := []) (en := [some (.ref 20), some (.int (m 2 (ix (x4 + 1)))), some (.int (m 2 (ix (x4 + 2)))), some (.ref 266), none]) (av := [.ref 20, .int (m 2 (ix (x4 + 1))), .int (m 2 (ix (x4 + 2))), .ref 266]) (vo := fun v => some (.int v.1)) (mo := fun v => v.2) (s2 := fun v => .int v.1 :: []) (by decide +kernel) ⟨rfl, rfl, rfl, rfl, rfl, rfl⟩ ⟨by omega, by omega⟩ (fun _ => rfl) (t_327 hN (b := 2) (z := 12) (by decide) (by decide) (h0 := h1) (h3 := h3)) (fun r96 => ?_)
  refine i_bl (pc' := 1589) [(.istore 5, 2), (.aload_n 2, 1), (.aload_n 0, 1), (.iload 4, 2), (.iconst 1, 1), (.iadd, 1)] [some (.ref 2), some (.ref 20), some (.ref 249), some (.ref 266), some (.int x4), some (.int r96.1), o6, o7, o8] [.int (x4 + 1), .ref 2, .ref 249] (by decide +kernel) rfl ?_
  refine i_aS (pc' := 1590) L (by decide +kernel) rfl h0 ?_
  refine i_bl (pc' := 1595) [(.aload_n 0, 1), (.iload 4, 2), (.iconst 2, 1), (.iadd, 1)] [some (.ref 2), some (.ref 20), some (.ref 249), some (.ref 266), some (.int x4), some (.int r96.1), o6, o7, o8] [.int (x4 + 2), .ref 2, .int (r96.2 2 (ix (x4 + 1))), .ref 249] (by decide +kernel) rfl ?_
  refine i_aS (pc' := 1596) L (by decide +kernel) rfl h0 ?_
  refine i_cv (ci := 11) (t := 239) (na := 3) (ml := 3) (idx := 222) (pc' := 1599) (st' := []) (en := [some (.ref 249), some (.int (r96.2 2 (ix (x4 + 1)))), some (.int (r96.2 2 (ix (x4 + 2))))]) (av := [.int (r96.2 2 (ix (x4 + 1))), .int (r96.2 2 (ix (x4 + 2)))]) (vo := fun v => some (.int v.1)) (mo := fun v => v.2) (s2 := fun v => .int v.1 :: []) (by decide +kernel) (by decide +kernel) h2 ⟨rfl, rfl, rfl, rfl, rfl, rfl⟩ (fun _ => rfl) (t_239 hN (h0 := h2)) (fun r97 => ?_)
  refine i_bl (pc' := 1602) [(.istore 6, 2), (.aload_n 2, 1)] [some (.ref 2), some (.ref 20), some (.ref 249), some (.ref 266), some (.int x4), some (.int r96.1), some (.int r97.1), o7, o8] [.ref 249] (by decide +kernel) rfl ?_
  refine i_cv (ci := 11) (t := 182) (na := 1) (ml := 1) (idx := 167) (pc' := 1605) (st' := []) (en := [some (.ref 249)]) (av := []) (vo := fun v => some (.int v)) (mo := fun _ => r97.2) (s2 := fun v => .int v :: []) (by decide +kernel) (by decide +kernel) h2 ⟨rfl, rfl, rfl, rfl, rfl, rfl⟩ (fun _ => rfl) (t_182 hN (h0 := h2)) (fun v98 => ?_)
  refine i_bl (pc' := 1607) [(.iload 5, 2)] [some (.ref 2), some (.ref 20), some (.ref 249), some (.ref 266), some (.int x4), some (.int r96.1), some (.int r97.1), o7, o8] [.int r96.1, .int v98] (by decide +kernel) rfl ?_
  refine i_ic (c := .eq) (off := 5) (t := 1612) (pc' := 1610) (p := v98 = r96.1) (by decide +kernel) rfl ?_ ?_
  · refine i_bl (pc' := 1614) [(.iload 5, 2)] [some (.ref 2), some (.ref 20), some (.ref 249), some (.ref 266), some (.int x4), some (.int r96.1), some (.int r97.1), o7, o8] [.int r96.1] (by decide +kernel) rfl ?_
    refine i_if (c := .ne) (off := 15) (t := 1629) (pc' := 1617) (p := ¬ r96.1 = 0) (by decide +kernel) rfl ?_ ?_
    · refine i_go (t := 3271) (off := 1642) (by decide +kernel) ?_
      refine i_bl (pc' := 3274) [(.iinc 4 (7), 3)] [some (.ref 2), some (.ref 20), some (.ref 249), some (.ref 266), some (.int (x4 + 7)), some (.int r96.1), some (.int r97.1), o7, o8] [] (by decide +kernel) rfl ?_
      refine i_wb (fun y99 => ev_dn (b - 2) (z - 12) 348 3274 [some (.ref 2), some (.ref 20), some (.ref 249), some (.ref 266), some (.int y99), some (.int r96.1), some (.int r97.1), o7, o8] [] (nx, mem L nx r97.2)) (fun y99 => ?_)
      refine i_go (t := 23) (off := -3251) (by decide +kernel) ?_
      exact i_cL (some (.int r96.1), some (.int r97.1), o7, o8) (b - 2) (z - 12) (by omega) (by omega) rfl
    · refine i_bl (pc' := 1619) [(.aload_n 3, 1), (.iconst 0, 1)] [some (.ref 2), some (.ref 20), some (.ref 249), some (.ref 266), some (.int x4), some (.int r96.1), some (.int r97.1), o7, o8] [.int 0, .ref 266] (by decide +kernel) rfl ?_
      refine i_ll (pc' := 1620) (by decide +kernel) h3 ?_
      refine i_bl (pc' := 1623) [(.iload 6, 2), (.i2l, 1)] [some (.ref 2), some (.ref 20), some (.ref 249), some (.ref 266), some (.int x4), some (.int r96.1), some (.int r97.1), o7, o8] [.long r97.1.toInt64, .long (r97.2 266 (ix 0)).toInt64] (by decide +kernel) rfl ?_
      refine i_lcm (x := (r97.2 266 (ix 0))) (y := r97.1) (pc' := 1624) (by decide +kernel) ?_
      refine i_if (c := .eq) (off := 5) (t := 1629) (pc' := 1627) (p := (ilg (r97.2 266 (ix 0)) r97.1) = 0) (by decide +kernel) rfl ?_ ?_
      · refine i_go (t := 3271) (off := 1642) (by decide +kernel) ?_
        refine i_bl (pc' := 3274) [(.iinc 4 (7), 3)] [some (.ref 2), some (.ref 20), some (.ref 249), some (.ref 266), some (.int (x4 + 7)), some (.int r96.1), some (.int r97.1), o7, o8] [] (by decide +kernel) rfl ?_
        refine i_wb (fun y100 => ev_dn (b - 2) (z - 12) 348 3274 [some (.ref 2), some (.ref 20), some (.ref 249), some (.ref 266), some (.int y100), some (.int r96.1), some (.int r97.1), o7, o8] [] (nx, mem L nx r97.2)) (fun y100 => ?_)
        refine i_go (t := 23) (off := -3251) (by decide +kernel) ?_
        exact i_cL (some (.int r96.1), some (.int r97.1), o7, o8) (b - 2) (z - 12) (by omega) (by omega) rfl
      · refine i_bl (pc' := 1628) [(.iconst 0, 1)] [some (.ref 2), some (.ref 20), some (.ref 249), some (.ref 266), some (.int x4), some (.int r96.1), some (.int r97.1), o7, o8] [.int 0] (by decide +kernel) rfl ?_
        exact i_iM (i_rz (B := false) (by decide +kernel) rfl)
  · refine i_bl (pc' := 1611) [(.iconst 0, 1)] [some (.ref 2), some (.ref 20), some (.ref 249), some (.ref 266), some (.int x4), some (.int r96.1), some (.int r97.1), o7, o8] [.int 0] (by decide +kernel) rfl ?_
    exact i_iM (i_rz (B := false) (by decide +kernel) rfl)

noncomputable def d_348_1632 (L : Nat) (x4 : Int32) (m : Mm) : Option ((Int32 × Mm) ⊕ (Bool × Mm)) := if ev_in (x4 + 1) L = true then (if ev_in (x4 + 2) L = true then (if ev_in (x4 + 3) L = true then (if ev_in (x4 + 4) L = true then (if ev_in (x4 + 5) L = true then ((d_328 20 (m 2 (ix (x4 + 1))) (m 2 (ix (x4 + 2))) (m 2 (ix (x4 + 3))) (m 2 (ix (x4 + 4))) (m 2 (ix (x4 + 5))) 266 m).bind fun r101 => if ev_in (x4 + 1) L = true then (if ev_in (x4 + 2) L = true then (if ev_in (x4 + 3) L = true then (if ev_in (x4 + 4) L = true then (if ev_in (x4 + 5) L = true then ((d_254 249 (r101.2 2 (ix (x4 + 1))) (r101.2 2 (ix (x4 + 2))) (r101.2 2 (ix (x4 + 3))) (r101.2 2 (ix (x4 + 4))) (r101.2 2 (ix (x4 + 5))) r101.2).bind fun r102 => (d_182 249 r102.2).bind fun v103 => if v103 = r101.1 then (if ¬ r101.1 = 0 then (wb (x4 + 7) fun y104 => some (.inl (y104, r102.2))) else (if ev_in 0 (sh_n 266) = true then (if (ilg (r102.2 266 (ix 0)) r102.1) = 0 then (wb (x4 + 7) fun y105 => some (.inl (y105, r102.2))) else (some (.inr (false, r102.2)))) else none)) else (some (.inr (false, r102.2)))) else none) else none) else none) else none) else none) else none) else none) else none) else none) else none
theorem t_348_1632 {L nx : Nat} (hN : okn nx) {b z : Nat} (hb : 3 ≤ b) (hz : 18 ≤ z) {b0 z0 : Nat} (hb0 : b0 + 3 ≤ b + 4) (hz0 : z0 + 18 ≤ z + 24) {m : Mm} (h0 : ok nx 2 99) (h1 : ok nx 20 10) (h2 : ok nx 249 11) (h3 : ok nx 266 102) {x4 : Int32} {o5 : Option Value} {o6 : Option Value} {o7 : Option Value} {o8 : Option Value} : Im (d_348_1632 L x4 m) (kM (wZ L nx) (fun b z => E_348_23 L nx b z) b0 z0) (ev_dn b z 348 1632 [some (.ref 2), some (.ref 20), some (.ref 249), some (.ref 266), some (.int x4), o5, o6, o7, o8] [] (nx, mem L nx m)) := by
  unfold d_348_1632
  refine i_bl (pc' := 1638) [(.aload_n 1, 1), (.aload_n 0, 1), (.iload 4, 2), (.iconst 1, 1), (.iadd, 1)] [some (.ref 2), some (.ref 20), some (.ref 249), some (.ref 266), some (.int x4), o5, o6, o7, o8] [.int (x4 + 1), .ref 2, .ref 20] (by decide +kernel) rfl ?_
  refine i_aS (pc' := 1639) L (by decide +kernel) rfl h0 ?_
  refine i_bl (pc' := 1644) [(.aload_n 0, 1), (.iload 4, 2), (.iconst 2, 1), (.iadd, 1)] [some (.ref 2), some (.ref 20), some (.ref 249), some (.ref 266), some (.int x4), o5, o6, o7, o8] [.int (x4 + 2), .ref 2, .int (m 2 (ix (x4 + 1))), .ref 20] (by decide +kernel) rfl ?_
  refine i_aS (pc' := 1645) L (by decide +kernel) rfl h0 ?_
  refine i_bl (pc' := 1650) [(.aload_n 0, 1), (.iload 4, 2), (.iconst 3, 1), (.iadd, 1)] [some (.ref 2), some (.ref 20), some (.ref 249), some (.ref 266), some (.int x4), o5, o6, o7, o8] [.int (x4 + 3), .ref 2, .int (m 2 (ix (x4 + 2))), .int (m 2 (ix (x4 + 1))), .ref 20] (by decide +kernel) rfl ?_
  refine i_aS (pc' := 1651) L (by decide +kernel) rfl h0 ?_
  refine i_bl (pc' := 1656) [(.aload_n 0, 1), (.iload 4, 2), (.iconst 4, 1), (.iadd, 1)] [some (.ref 2), some (.ref 20), some (.ref 249), some (.ref 266), some (.int x4), o5, o6, o7, o8] [.int (x4 + 4), .ref 2, .int (m 2 (ix (x4 + 3))), .int (m 2 (ix (x4 + 2))), .int (m 2 (ix (x4 + 1))), .ref 20] (by decide +kernel) rfl ?_
  refine i_aS (pc' := 1657) L (by decide +kernel) rfl h0 ?_
  refine i_bl (pc' := 1662) [(.aload_n 0, 1), (.iload 4, 2), (.iconst 5, 1), (.iadd, 1)] [some (.ref 2), some (.ref 20), some (.ref 249), some (.ref 266), some (.int x4), o5, o6, o7, o8] [.int (x4 + 5), .ref 2, .int (m 2 (ix (x4 + 4))), .int (m 2 (ix (x4 + 3))), .int (m 2 (ix (x4 + 2))), .int (m 2 (ix (x4 + 1))), .ref 20] (by decide +kernel) rfl ?_
  refine i_aS (pc' := 1663) L (by decide +kernel) rfl h0 ?_
  refine i_bl (pc' := 1664) [(.aload_n 3, 1)] [some (.ref 2), some (.ref 20), some (.ref 249), some (.ref 266), some (.int x4), o5, o6, o7, o8] [.ref 266, .int (m 2 (ix (x4 + 5))), .int (m 2 (ix (x4 + 4))), .int (m 2 (ix (x4 + 3))), .int (m 2 (ix (x4 + 2))), .int (m 2 (ix (x4 + 1))), .ref 20] (by decide +kernel) rfl ?_
  refine i_ck (k1 := 3) (k2 := 18) (t := 328) (na := 7) (ml := 8) (idx := 223) (pc' := 1667) (st' := []) (en := [some (.ref 20), some (.int (m 2 (ix (x4 + 1)))), some (.int (m 2 (ix (x4 + 2)))), some (.int (m 2 (ix (x4 + 3)))), some (.int (m 2 (ix (x4 + 4)))), some (.int (m 2 (ix (x4 + 5)))), some (.ref 266), none]) (av := [.ref 20, .int (m 2 (ix (x4 + 1))), .int (m 2 (ix (x4 + 2))), .int (m 2 (ix (x4 + 3))), .int (m 2 (ix (x4 + 4))), .int (m 2 (ix (x4 + 5))), .ref 266]) (vo := fun v => some (.int v.1)) (mo := fun v => v.2) (s2 := fun v => .int v.1 :: []) (by decide +kernel) ⟨rfl, rfl, rfl, rfl, rfl, rfl⟩ ⟨by omega, by omega⟩ (fun _ => rfl) (t_328 hN (b := 3) (z := 18) (by decide) (by decide) (h0 := h1) (h6 := h3)) (fun r101 => ?_)
  refine i_bl (pc' := 1675) [(.istore 5, 2), (.aload_n 2, 1), (.aload_n 0, 1), (.iload 4, 2), (.iconst 1, 1), (.iadd, 1)] [some (.ref 2), some (.ref 20), some (.ref 249), some (.ref 266), some (.int x4), some (.int r101.1), o6, o7, o8] [.int (x4 + 1), .ref 2, .ref 249] (by decide +kernel) rfl ?_
  refine i_aS (pc' := 1676) L (by decide +kernel) rfl h0 ?_
  refine i_bl (pc' := 1681) [(.aload_n 0, 1), (.iload 4, 2), (.iconst 2, 1), (.iadd, 1)] [some (.ref 2), some (.ref 20), some (.ref 249), some (.ref 266), some (.int x4), some (.int r101.1), o6, o7, o8] [.int (x4 + 2), .ref 2, .int (r101.2 2 (ix (x4 + 1))), .ref 249] (by decide +kernel) rfl ?_
  refine i_aS (pc' := 1682) L (by decide +kernel) rfl h0 ?_
  refine i_bl (pc' := 1687) [(.aload_n 0, 1), (.iload 4, 2), (.iconst 3, 1), (.iadd, 1)] [some (.ref 2), some (.ref 20), some (.ref 249), some (.ref 266), some (.int x4), some (.int r101.1), o6, o7, o8] [.int (x4 + 3), .ref 2, .int (r101.2 2 (ix (x4 + 2))), .int (r101.2 2 (ix (x4 + 1))), .ref 249] (by decide +kernel) rfl ?_
  refine i_aS (pc' := 1688) L (by decide +kernel) rfl h0 ?_
  refine i_bl (pc' := 1693) [(.aload_n 0, 1), (.iload 4, 2), (.iconst 4, 1), (.iadd, 1)] [some (.ref 2), some (.ref 20), some (.ref 249), some (.ref 266), some (.int x4), some (.int r101.1), o6, o7, o8] [.int (x4 + 4), .ref 2, .int (r101.2 2 (ix (x4 + 3))), .int (r101.2 2 (ix (x4 + 2))), .int (r101.2 2 (ix (x4 + 1))), .ref 249] (by decide +kernel) rfl ?_
  refine i_aS (pc' := 1694) L (by decide +kernel) rfl h0 ?_
  refine i_bl (pc' := 1699) [(.aload_n 0, 1), (.iload 4, 2), (.iconst 5, 1), (.iadd, 1)] [some (.ref 2), some (.ref 20), some (.ref 249), some (.ref 266), some (.int x4), some (.int r101.1), o6, o7, o8] [.int (x4 + 5), .ref 2, .int (r101.2 2 (ix (x4 + 4))), .int (r101.2 2 (ix (x4 + 3))), .int (r101.2 2 (ix (x4 + 2))), .int (r101.2 2 (ix (x4 + 1))), .ref 249] (by decide +kernel) rfl ?_
  refine i_aS (pc' := 1700) L (by decide +kernel) rfl h0 ?_
  refine i_cv (ci := 11) (t := 254) (na := 6) (ml := 6) (idx := 225) (pc' := 1703) (st' := []) (en := [some (.ref 249), some (.int (r101.2 2 (ix (x4 + 1)))), some (.int (r101.2 2 (ix (x4 + 2)))), some (.int (r101.2 2 (ix (x4 + 3)))), some (.int (r101.2 2 (ix (x4 + 4)))), some (.int (r101.2 2 (ix (x4 + 5))))]) (av := [.int (r101.2 2 (ix (x4 + 1))), .int (r101.2 2 (ix (x4 + 2))), .int (r101.2 2 (ix (x4 + 3))), .int (r101.2 2 (ix (x4 + 4))), .int (r101.2 2 (ix (x4 + 5)))]) (vo := fun v => some (.int v.1)) (mo := fun v => v.2) (s2 := fun v => .int v.1 :: []) (by decide +kernel) (by decide +kernel) h2 ⟨rfl, rfl, rfl, rfl, rfl, rfl⟩ (fun _ => rfl) (t_254 hN (h0 := h2)) (fun r102 => ?_)
  refine i_bl (pc' := 1706) [(.istore 6, 2), (.aload_n 2, 1)] [some (.ref 2), some (.ref 20), some (.ref 249), some (.ref 266), some (.int x4), some (.int r101.1), some (.int r102.1), o7, o8] [.ref 249] (by decide +kernel) rfl ?_
  refine i_cv (ci := 11) (t := 182) (na := 1) (ml := 1) (idx := 167) (pc' := 1709) (st' := []) (en := [some (.ref 249)]) (av := []) (vo := fun v => some (.int v)) (mo := fun _ => r102.2) (s2 := fun v => .int v :: []) (by decide +kernel) (by decide +kernel) h2 ⟨rfl, rfl, rfl, rfl, rfl, rfl⟩ (fun _ => rfl) (t_182 hN (h0 := h2)) (fun v103 => ?_)
  refine i_bl (pc' := 1711) [(.iload 5, 2)] [some (.ref 2), some (.ref 20), some (.ref 249), some (.ref 266), some (.int x4), some (.int r101.1), some (.int r102.1), o7, o8] [.int r101.1, .int v103] (by decide +kernel) rfl ?_
  refine i_ic (c := .eq) (off := 5) (t := 1716) (pc' := 1714) (p := v103 = r101.1) (by decide +kernel) rfl ?_ ?_
  · refine i_bl (pc' := 1718) [(.iload 5, 2)] [some (.ref 2), some (.ref 20), some (.ref 249), some (.ref 266), some (.int x4), some (.int r101.1), some (.int r102.1), o7, o8] [.int r101.1] (by decide +kernel) rfl ?_
    refine i_if (c := .ne) (off := 15) (t := 1733) (pc' := 1721) (p := ¬ r101.1 = 0) (by decide +kernel) rfl ?_ ?_
    · refine i_go (t := 3271) (off := 1538) (by decide +kernel) ?_
      refine i_bl (pc' := 3274) [(.iinc 4 (7), 3)] [some (.ref 2), some (.ref 20), some (.ref 249), some (.ref 266), some (.int (x4 + 7)), some (.int r101.1), some (.int r102.1), o7, o8] [] (by decide +kernel) rfl ?_
      refine i_wb (fun y104 => ev_dn (b - 3) (z - 18) 348 3274 [some (.ref 2), some (.ref 20), some (.ref 249), some (.ref 266), some (.int y104), some (.int r101.1), some (.int r102.1), o7, o8] [] (nx, mem L nx r102.2)) (fun y104 => ?_)
      refine i_go (t := 23) (off := -3251) (by decide +kernel) ?_
      exact i_cL (some (.int r101.1), some (.int r102.1), o7, o8) (b - 3) (z - 18) (by omega) (by omega) rfl
    · refine i_bl (pc' := 1723) [(.aload_n 3, 1), (.iconst 0, 1)] [some (.ref 2), some (.ref 20), some (.ref 249), some (.ref 266), some (.int x4), some (.int r101.1), some (.int r102.1), o7, o8] [.int 0, .ref 266] (by decide +kernel) rfl ?_
      refine i_ll (pc' := 1724) (by decide +kernel) h3 ?_
      refine i_bl (pc' := 1727) [(.iload 6, 2), (.i2l, 1)] [some (.ref 2), some (.ref 20), some (.ref 249), some (.ref 266), some (.int x4), some (.int r101.1), some (.int r102.1), o7, o8] [.long r102.1.toInt64, .long (r102.2 266 (ix 0)).toInt64] (by decide +kernel) rfl ?_
      refine i_lcm (x := (r102.2 266 (ix 0))) (y := r102.1) (pc' := 1728) (by decide +kernel) ?_
      refine i_if (c := .eq) (off := 5) (t := 1733) (pc' := 1731) (p := (ilg (r102.2 266 (ix 0)) r102.1) = 0) (by decide +kernel) rfl ?_ ?_
      · refine i_go (t := 3271) (off := 1538) (by decide +kernel) ?_
        refine i_bl (pc' := 3274) [(.iinc 4 (7), 3)] [some (.ref 2), some (.ref 20), some (.ref 249), some (.ref 266), some (.int (x4 + 7)), some (.int r101.1), some (.int r102.1), o7, o8] [] (by decide +kernel) rfl ?_
        refine i_wb (fun y105 => ev_dn (b - 3) (z - 18) 348 3274 [some (.ref 2), some (.ref 20), some (.ref 249), some (.ref 266), some (.int y105), some (.int r101.1), some (.int r102.1), o7, o8] [] (nx, mem L nx r102.2)) (fun y105 => ?_)
        refine i_go (t := 23) (off := -3251) (by decide +kernel) ?_
        exact i_cL (some (.int r101.1), some (.int r102.1), o7, o8) (b - 3) (z - 18) (by omega) (by omega) rfl
      · refine i_bl (pc' := 1732) [(.iconst 0, 1)] [some (.ref 2), some (.ref 20), some (.ref 249), some (.ref 266), some (.int x4), some (.int r101.1), some (.int r102.1), o7, o8] [.int 0] (by decide +kernel) rfl ?_
        exact i_iM (i_rz (B := false) (by decide +kernel) rfl)
  · refine i_bl (pc' := 1715) [(.iconst 0, 1)] [some (.ref 2), some (.ref 20), some (.ref 249), some (.ref 266), some (.int x4), some (.int r101.1), some (.int r102.1), o7, o8] [.int 0] (by decide +kernel) rfl ?_
    exact i_iM (i_rz (B := false) (by decide +kernel) rfl)

noncomputable def d_348_1736 (L : Nat) (x4 : Int32) (m : Mm) : Option ((Int32 × Mm) ⊕ (Bool × Mm)) := if ev_in (x4 + 1) L = true then (if ev_in (x4 + 2) L = true then (if ev_in (x4 + 3) L = true then (if ev_in (x4 + 4) L = true then (if ev_in (x4 + 5) L = true then ((d_329 20 (m 2 (ix (x4 + 1))) (m 2 (ix (x4 + 2))) (m 2 (ix (x4 + 3))) (m 2 (ix (x4 + 4))) (m 2 (ix (x4 + 5))) 266 m).bind fun r106 => if ev_in (x4 + 1) L = true then (if ev_in (x4 + 2) L = true then (if ev_in (x4 + 3) L = true then (if ev_in (x4 + 4) L = true then (if ev_in (x4 + 5) L = true then ((d_255 249 (r106.2 2 (ix (x4 + 1))) (r106.2 2 (ix (x4 + 2))) (r106.2 2 (ix (x4 + 3))) (r106.2 2 (ix (x4 + 4))) (r106.2 2 (ix (x4 + 5))) r106.2).bind fun r107 => (d_182 249 r107.2).bind fun v108 => if v108 = r106.1 then (if ¬ r106.1 = 0 then (wb (x4 + 7) fun y109 => some (.inl (y109, r107.2))) else (if ev_in 0 (sh_n 266) = true then (if (ilg (r107.2 266 (ix 0)) r107.1) = 0 then (wb (x4 + 7) fun y110 => some (.inl (y110, r107.2))) else (some (.inr (false, r107.2)))) else none)) else (some (.inr (false, r107.2)))) else none) else none) else none) else none) else none) else none) else none) else none) else none) else none
theorem t_348_1736 {L nx : Nat} (hN : okn nx) {b z : Nat} (hb : 3 ≤ b) (hz : 18 ≤ z) {b0 z0 : Nat} (hb0 : b0 + 3 ≤ b + 4) (hz0 : z0 + 18 ≤ z + 24) {m : Mm} (h0 : ok nx 2 99) (h1 : ok nx 20 10) (h2 : ok nx 249 11) (h3 : ok nx 266 102) {x4 : Int32} {o5 : Option Value} {o6 : Option Value} {o7 : Option Value} {o8 : Option Value} : Im (d_348_1736 L x4 m) (kM (wZ L nx) (fun b z => E_348_23 L nx b z) b0 z0) (ev_dn b z 348 1736 [some (.ref 2), some (.ref 20), some (.ref 249), some (.ref 266), some (.int x4), o5, o6, o7, o8] [] (nx, mem L nx m)) := by
  unfold d_348_1736
  refine i_bl (pc' := 1742) [(.aload_n 1, 1), (.aload_n 0, 1), (.iload 4, 2), (.iconst 1, 1), (.iadd, 1)] [some (.ref 2), some (.ref 20), some (.ref 249), some (.ref 266), some (.int x4), o5, o6, o7, o8] [.int (x4 + 1), .ref 2, .ref 20] (by decide +kernel) rfl ?_
  refine i_aS (pc' := 1743) L (by decide +kernel) rfl h0 ?_
  refine i_bl (pc' := 1748) [(.aload_n 0, 1), (.iload 4, 2), (.iconst 2, 1), (.iadd, 1)] [some (.ref 2), some (.ref 20), some (.ref 249), some (.ref 266), some (.int x4), o5, o6, o7, o8] [.int (x4 + 2), .ref 2, .int (m 2 (ix (x4 + 1))), .ref 20] (by decide +kernel) rfl ?_
  refine i_aS (pc' := 1749) L (by decide +kernel) rfl h0 ?_
  refine i_bl (pc' := 1754) [(.aload_n 0, 1), (.iload 4, 2), (.iconst 3, 1), (.iadd, 1)] [some (.ref 2), some (.ref 20), some (.ref 249), some (.ref 266), some (.int x4), o5, o6, o7, o8] [.int (x4 + 3), .ref 2, .int (m 2 (ix (x4 + 2))), .int (m 2 (ix (x4 + 1))), .ref 20] (by decide +kernel) rfl ?_
  refine i_aS (pc' := 1755) L (by decide +kernel) rfl h0 ?_
  refine i_bl (pc' := 1760) [(.aload_n 0, 1), (.iload 4, 2), (.iconst 4, 1), (.iadd, 1)] [some (.ref 2), some (.ref 20), some (.ref 249), some (.ref 266), some (.int x4), o5, o6, o7, o8] [.int (x4 + 4), .ref 2, .int (m 2 (ix (x4 + 3))), .int (m 2 (ix (x4 + 2))), .int (m 2 (ix (x4 + 1))), .ref 20] (by decide +kernel) rfl ?_
  refine i_aS (pc' := 1761) L (by decide +kernel) rfl h0 ?_
  refine i_bl (pc' := 1766) [(.aload_n 0, 1), (.iload 4, 2), (.iconst 5, 1), (.iadd, 1)] [some (.ref 2), some (.ref 20), some (.ref 249), some (.ref 266), some (.int x4), o5, o6, o7, o8] [.int (x4 + 5), .ref 2, .int (m 2 (ix (x4 + 4))), .int (m 2 (ix (x4 + 3))), .int (m 2 (ix (x4 + 2))), .int (m 2 (ix (x4 + 1))), .ref 20] (by decide +kernel) rfl ?_
  refine i_aS (pc' := 1767) L (by decide +kernel) rfl h0 ?_
  refine i_bl (pc' := 1768) [(.aload_n 3, 1)] [some (.ref 2), some (.ref 20), some (.ref 249), some (.ref 266), some (.int x4), o5, o6, o7, o8] [.ref 266, .int (m 2 (ix (x4 + 5))), .int (m 2 (ix (x4 + 4))), .int (m 2 (ix (x4 + 3))), .int (m 2 (ix (x4 + 2))), .int (m 2 (ix (x4 + 1))), .ref 20] (by decide +kernel) rfl ?_
  refine i_ck (k1 := 3) (k2 := 18) (t := 329) (na := 7) (ml := 8) (idx := 226) (pc' := 1771) (st' := []) (en := [some (.ref 20), some (.int (m 2 (ix (x4 + 1)))), some (.int (m 2 (ix (x4 + 2)))), some (.int (m 2 (ix (x4 + 3)))), some (.int (m 2 (ix (x4 + 4)))), some (.int (m 2 (ix (x4 + 5)))), some (.ref 266), none]) (av := [.ref 20, .int (m 2 (ix (x4 + 1))), .int (m 2 (ix (x4 + 2))), .int (m 2 (ix (x4 + 3))), .int (m 2 (ix (x4 + 4))), .int (m 2 (ix (x4 + 5))), .ref 266]) (vo := fun v => some (.int v.1)) (mo := fun v => v.2) (s2 := fun v => .int v.1 :: []) (by decide +kernel) ⟨rfl, rfl, rfl, rfl, rfl, rfl⟩ ⟨by omega, by omega⟩ (fun _ => rfl) (t_329 hN (b := 3) (z := 18) (by decide) (by decide) (h0 := h1) (h6 := h3)) (fun r106 => ?_)
  refine i_bl (pc' := 1779) [(.istore 5, 2), (.aload_n 2, 1), (.aload_n 0, 1), (.iload 4, 2), (.iconst 1, 1), (.iadd, 1)] [some (.ref 2), some (.ref 20), some (.ref 249), some (.ref 266), some (.int x4), some (.int r106.1), o6, o7, o8] [.int (x4 + 1), .ref 2, .ref 249] (by decide +kernel) rfl ?_
  refine i_aS (pc' := 1780) L (by decide +kernel) rfl h0 ?_
  refine i_bl (pc' := 1785) [(.aload_n 0, 1), (.iload 4, 2), (.iconst 2, 1), (.iadd, 1)] [some (.ref 2), some (.ref 20), some (.ref 249), some (.ref 266), some (.int x4), some (.int r106.1), o6, o7, o8] [.int (x4 + 2), .ref 2, .int (r106.2 2 (ix (x4 + 1))), .ref 249] (by decide +kernel) rfl ?_
  refine i_aS (pc' := 1786) L (by decide +kernel) rfl h0 ?_
  refine i_bl (pc' := 1791) [(.aload_n 0, 1), (.iload 4, 2), (.iconst 3, 1), (.iadd, 1)] [some (.ref 2), some (.ref 20), some (.ref 249), some (.ref 266), some (.int x4), some (.int r106.1), o6, o7, o8] [.int (x4 + 3), .ref 2, .int (r106.2 2 (ix (x4 + 2))), .int (r106.2 2 (ix (x4 + 1))), .ref 249] (by decide +kernel) rfl ?_
  refine i_aS (pc' := 1792) L (by decide +kernel) rfl h0 ?_
  refine i_bl (pc' := 1797) [(.aload_n 0, 1), (.iload 4, 2), (.iconst 4, 1), (.iadd, 1)] [some (.ref 2), some (.ref 20), some (.ref 249), some (.ref 266), some (.int x4), some (.int r106.1), o6, o7, o8] [.int (x4 + 4), .ref 2, .int (r106.2 2 (ix (x4 + 3))), .int (r106.2 2 (ix (x4 + 2))), .int (r106.2 2 (ix (x4 + 1))), .ref 249] (by decide +kernel) rfl ?_
  refine i_aS (pc' := 1798) L (by decide +kernel) rfl h0 ?_
  refine i_bl (pc' := 1803) [(.aload_n 0, 1), (.iload 4, 2), (.iconst 5, 1), (.iadd, 1)] [some (.ref 2), some (.ref 20), some (.ref 249), some (.ref 266), some (.int x4), some (.int r106.1), o6, o7, o8] [.int (x4 + 5), .ref 2, .int (r106.2 2 (ix (x4 + 4))), .int (r106.2 2 (ix (x4 + 3))), .int (r106.2 2 (ix (x4 + 2))), .int (r106.2 2 (ix (x4 + 1))), .ref 249] (by decide +kernel) rfl ?_
  refine i_aS (pc' := 1804) L (by decide +kernel) rfl h0 ?_
  refine i_cv (ci := 11) (t := 255) (na := 6) (ml := 7) (idx := 228) (pc' := 1807) (st' := []) (en := [some (.ref 249), some (.int (r106.2 2 (ix (x4 + 1)))), some (.int (r106.2 2 (ix (x4 + 2)))), some (.int (r106.2 2 (ix (x4 + 3)))), some (.int (r106.2 2 (ix (x4 + 4)))), some (.int (r106.2 2 (ix (x4 + 5)))), none]) (av := [.int (r106.2 2 (ix (x4 + 1))), .int (r106.2 2 (ix (x4 + 2))), .int (r106.2 2 (ix (x4 + 3))), .int (r106.2 2 (ix (x4 + 4))), .int (r106.2 2 (ix (x4 + 5)))]) (vo := fun v => some (.int v.1)) (mo := fun v => v.2) (s2 := fun v => .int v.1 :: []) (by decide +kernel) (by decide +kernel) h2 ⟨rfl, rfl, rfl, rfl, rfl, rfl⟩ (fun _ => rfl) (t_255 hN (h0 := h2)) (fun r107 => ?_)
  refine i_bl (pc' := 1810) [(.istore 6, 2), (.aload_n 2, 1)] [some (.ref 2), some (.ref 20), some (.ref 249), some (.ref 266), some (.int x4), some (.int r106.1), some (.int r107.1), o7, o8] [.ref 249] (by decide +kernel) rfl ?_
  refine i_cv (ci := 11) (t := 182) (na := 1) (ml := 1) (idx := 167) (pc' := 1813) (st' := []) (en := [some (.ref 249)]) (av := []) (vo := fun v => some (.int v)) (mo := fun _ => r107.2) (s2 := fun v => .int v :: []) (by decide +kernel) (by decide +kernel) h2 ⟨rfl, rfl, rfl, rfl, rfl, rfl⟩ (fun _ => rfl) (t_182 hN (h0 := h2)) (fun v108 => ?_)
  refine i_bl (pc' := 1815) [(.iload 5, 2)] [some (.ref 2), some (.ref 20), some (.ref 249), some (.ref 266), some (.int x4), some (.int r106.1), some (.int r107.1), o7, o8] [.int r106.1, .int v108] (by decide +kernel) rfl ?_
  refine i_ic (c := .eq) (off := 5) (t := 1820) (pc' := 1818) (p := v108 = r106.1) (by decide +kernel) rfl ?_ ?_
  · refine i_bl (pc' := 1822) [(.iload 5, 2)] [some (.ref 2), some (.ref 20), some (.ref 249), some (.ref 266), some (.int x4), some (.int r106.1), some (.int r107.1), o7, o8] [.int r106.1] (by decide +kernel) rfl ?_
    refine i_if (c := .ne) (off := 15) (t := 1837) (pc' := 1825) (p := ¬ r106.1 = 0) (by decide +kernel) rfl ?_ ?_
    · refine i_go (t := 3271) (off := 1434) (by decide +kernel) ?_
      refine i_bl (pc' := 3274) [(.iinc 4 (7), 3)] [some (.ref 2), some (.ref 20), some (.ref 249), some (.ref 266), some (.int (x4 + 7)), some (.int r106.1), some (.int r107.1), o7, o8] [] (by decide +kernel) rfl ?_
      refine i_wb (fun y109 => ev_dn (b - 3) (z - 18) 348 3274 [some (.ref 2), some (.ref 20), some (.ref 249), some (.ref 266), some (.int y109), some (.int r106.1), some (.int r107.1), o7, o8] [] (nx, mem L nx r107.2)) (fun y109 => ?_)
      refine i_go (t := 23) (off := -3251) (by decide +kernel) ?_
      exact i_cL (some (.int r106.1), some (.int r107.1), o7, o8) (b - 3) (z - 18) (by omega) (by omega) rfl
    · refine i_bl (pc' := 1827) [(.aload_n 3, 1), (.iconst 0, 1)] [some (.ref 2), some (.ref 20), some (.ref 249), some (.ref 266), some (.int x4), some (.int r106.1), some (.int r107.1), o7, o8] [.int 0, .ref 266] (by decide +kernel) rfl ?_
      refine i_ll (pc' := 1828) (by decide +kernel) h3 ?_
      refine i_bl (pc' := 1831) [(.iload 6, 2), (.i2l, 1)] [some (.ref 2), some (.ref 20), some (.ref 249), some (.ref 266), some (.int x4), some (.int r106.1), some (.int r107.1), o7, o8] [.long r107.1.toInt64, .long (r107.2 266 (ix 0)).toInt64] (by decide +kernel) rfl ?_
      refine i_lcm (x := (r107.2 266 (ix 0))) (y := r107.1) (pc' := 1832) (by decide +kernel) ?_
      refine i_if (c := .eq) (off := 5) (t := 1837) (pc' := 1835) (p := (ilg (r107.2 266 (ix 0)) r107.1) = 0) (by decide +kernel) rfl ?_ ?_
      · refine i_go (t := 3271) (off := 1434) (by decide +kernel) ?_
        refine i_bl (pc' := 3274) [(.iinc 4 (7), 3)] [some (.ref 2), some (.ref 20), some (.ref 249), some (.ref 266), some (.int (x4 + 7)), some (.int r106.1), some (.int r107.1), o7, o8] [] (by decide +kernel) rfl ?_
        refine i_wb (fun y110 => ev_dn (b - 3) (z - 18) 348 3274 [some (.ref 2), some (.ref 20), some (.ref 249), some (.ref 266), some (.int y110), some (.int r106.1), some (.int r107.1), o7, o8] [] (nx, mem L nx r107.2)) (fun y110 => ?_)
        refine i_go (t := 23) (off := -3251) (by decide +kernel) ?_
        exact i_cL (some (.int r106.1), some (.int r107.1), o7, o8) (b - 3) (z - 18) (by omega) (by omega) rfl
      · refine i_bl (pc' := 1836) [(.iconst 0, 1)] [some (.ref 2), some (.ref 20), some (.ref 249), some (.ref 266), some (.int x4), some (.int r106.1), some (.int r107.1), o7, o8] [.int 0] (by decide +kernel) rfl ?_
        exact i_iM (i_rz (B := false) (by decide +kernel) rfl)
  · refine i_bl (pc' := 1819) [(.iconst 0, 1)] [some (.ref 2), some (.ref 20), some (.ref 249), some (.ref 266), some (.int x4), some (.int r106.1), some (.int r107.1), o7, o8] [.int 0] (by decide +kernel) rfl ?_
    exact i_iM (i_rz (B := false) (by decide +kernel) rfl)

noncomputable def d_348_1840 (L : Nat) (x4 : Int32) (m : Mm) : Option ((Int32 × Mm) ⊕ (Bool × Mm)) := if ev_in (x4 + 1) L = true then (if ev_in (x4 + 2) L = true then (if ev_in (x4 + 3) L = true then (if ev_in (x4 + 4) L = true then ((d_330 20 (m 2 (ix (x4 + 1))) (m 2 (ix (x4 + 2))) (m 2 (ix (x4 + 3))) (m 2 (ix (x4 + 4))) 266 m).bind fun r111 => if ev_in (x4 + 1) L = true then (if ev_in (x4 + 2) L = true then (if ev_in (x4 + 3) L = true then (if ev_in (x4 + 4) L = true then ((d_256 249 (r111.2 2 (ix (x4 + 1))) (r111.2 2 (ix (x4 + 2))) (r111.2 2 (ix (x4 + 3))) (r111.2 2 (ix (x4 + 4))) r111.2).bind fun r112 => (d_182 249 r112.2).bind fun v113 => if v113 = r111.1 then (if ¬ r111.1 = 0 then (wb (x4 + 7) fun y114 => some (.inl (y114, r112.2))) else (if ev_in 0 (sh_n 266) = true then (if (ilg (r112.2 266 (ix 0)) r112.1) = 0 then (wb (x4 + 7) fun y115 => some (.inl (y115, r112.2))) else (some (.inr (false, r112.2)))) else none)) else (some (.inr (false, r112.2)))) else none) else none) else none) else none) else none) else none) else none) else none
theorem t_348_1840 {L nx : Nat} (hN : okn nx) {b z : Nat} (hb : 2 ≤ b) (hz : 12 ≤ z) {b0 z0 : Nat} (hb0 : b0 + 2 ≤ b + 4) (hz0 : z0 + 12 ≤ z + 24) {m : Mm} (h0 : ok nx 2 99) (h1 : ok nx 20 10) (h2 : ok nx 249 11) (h3 : ok nx 266 102) {x4 : Int32} {o5 : Option Value} {o6 : Option Value} {o7 : Option Value} {o8 : Option Value} : Im (d_348_1840 L x4 m) (kM (wZ L nx) (fun b z => E_348_23 L nx b z) b0 z0) (ev_dn b z 348 1840 [some (.ref 2), some (.ref 20), some (.ref 249), some (.ref 266), some (.int x4), o5, o6, o7, o8] [] (nx, mem L nx m)) := by
  unfold d_348_1840
  refine i_bl (pc' := 1846) [(.aload_n 1, 1), (.aload_n 0, 1), (.iload 4, 2), (.iconst 1, 1), (.iadd, 1)] [some (.ref 2), some (.ref 20), some (.ref 249), some (.ref 266), some (.int x4), o5, o6, o7, o8] [.int (x4 + 1), .ref 2, .ref 20] (by decide +kernel) rfl ?_
  refine i_aS (pc' := 1847) L (by decide +kernel) rfl h0 ?_
  refine i_bl (pc' := 1852) [(.aload_n 0, 1), (.iload 4, 2), (.iconst 2, 1), (.iadd, 1)] [some (.ref 2), some (.ref 20), some (.ref 249), some (.ref 266), some (.int x4), o5, o6, o7, o8] [.int (x4 + 2), .ref 2, .int (m 2 (ix (x4 + 1))), .ref 20] (by decide +kernel) rfl ?_
  refine i_aS (pc' := 1853) L (by decide +kernel) rfl h0 ?_
  refine i_bl (pc' := 1858) [(.aload_n 0, 1), (.iload 4, 2), (.iconst 3, 1), (.iadd, 1)] [some (.ref 2), some (.ref 20), some (.ref 249), some (.ref 266), some (.int x4), o5, o6, o7, o8] [.int (x4 + 3), .ref 2, .int (m 2 (ix (x4 + 2))), .int (m 2 (ix (x4 + 1))), .ref 20] (by decide +kernel) rfl ?_
  refine i_aS (pc' := 1859) L (by decide +kernel) rfl h0 ?_
  refine i_bl (pc' := 1864) [(.aload_n 0, 1), (.iload 4, 2), (.iconst 4, 1), (.iadd, 1)] [some (.ref 2), some (.ref 20), some (.ref 249), some (.ref 266), some (.int x4), o5, o6, o7, o8] [.int (x4 + 4), .ref 2, .int (m 2 (ix (x4 + 3))), .int (m 2 (ix (x4 + 2))), .int (m 2 (ix (x4 + 1))), .ref 20] (by decide +kernel) rfl ?_
  refine i_aS (pc' := 1865) L (by decide +kernel) rfl h0 ?_
  refine i_bl (pc' := 1866) [(.aload_n 3, 1)] [some (.ref 2), some (.ref 20), some (.ref 249), some (.ref 266), some (.int x4), o5, o6, o7, o8] [.ref 266, .int (m 2 (ix (x4 + 4))), .int (m 2 (ix (x4 + 3))), .int (m 2 (ix (x4 + 2))), .int (m 2 (ix (x4 + 1))), .ref 20] (by decide +kernel) rfl ?_
  refine i_ck (k1 := 2) (k2 := 12) (t := 330) (na := 6) (ml := 7) (idx := 229) (pc' := 1869) (st' := []) (en := [some (.ref 20), some (.int (m 2 (ix (x4 + 1)))), some (.int (m 2 (ix (x4 + 2)))), some (.int (m 2 (ix (x4 + 3)))), some (.int (m 2 (ix (x4 + 4)))), some (.ref 266), none]) (av := [.ref 20, .int (m 2 (ix (x4 + 1))), .int (m 2 (ix (x4 + 2))), .int (m 2 (ix (x4 + 3))), .int (m 2 (ix (x4 + 4))), .ref 266]) (vo := fun v => some (.int v.1)) (mo := fun v => v.2) (s2 := fun v => .int v.1 :: []) (by decide +kernel) ⟨rfl, rfl, rfl, rfl, rfl, rfl⟩ ⟨by omega, by omega⟩ (fun _ => rfl) (t_330 hN (b := 2) (z := 12) (by decide) (by decide) (h0 := h1) (h5 := h3)) (fun r111 => ?_)
  refine i_bl (pc' := 1877) [(.istore 5, 2), (.aload_n 2, 1), (.aload_n 0, 1), (.iload 4, 2), (.iconst 1, 1), (.iadd, 1)] [some (.ref 2), some (.ref 20), some (.ref 249), some (.ref 266), some (.int x4), some (.int r111.1), o6, o7, o8] [.int (x4 + 1), .ref 2, .ref 249] (by decide +kernel) rfl ?_
  refine i_aS (pc' := 1878) L (by decide +kernel) rfl h0 ?_
  refine i_bl (pc' := 1883) [(.aload_n 0, 1), (.iload 4, 2), (.iconst 2, 1), (.iadd, 1)] [some (.ref 2), some (.ref 20), some (.ref 249), some (.ref 266), some (.int x4), some (.int r111.1), o6, o7, o8] [.int (x4 + 2), .ref 2, .int (r111.2 2 (ix (x4 + 1))), .ref 249] (by decide +kernel) rfl ?_
  refine i_aS (pc' := 1884) L (by decide +kernel) rfl h0 ?_
  refine i_bl (pc' := 1889) [(.aload_n 0, 1), (.iload 4, 2), (.iconst 3, 1), (.iadd, 1)] [some (.ref 2), some (.ref 20), some (.ref 249), some (.ref 266), some (.int x4), some (.int r111.1), o6, o7, o8] [.int (x4 + 3), .ref 2, .int (r111.2 2 (ix (x4 + 2))), .int (r111.2 2 (ix (x4 + 1))), .ref 249] (by decide +kernel) rfl ?_
  refine i_aS (pc' := 1890) L (by decide +kernel) rfl h0 ?_
  refine i_bl (pc' := 1895) [(.aload_n 0, 1), (.iload 4, 2), (.iconst 4, 1), (.iadd, 1)] [some (.ref 2), some (.ref 20), some (.ref 249), some (.ref 266), some (.int x4), some (.int r111.1), o6, o7, o8] [.int (x4 + 4), .ref 2, .int (r111.2 2 (ix (x4 + 3))), .int (r111.2 2 (ix (x4 + 2))), .int (r111.2 2 (ix (x4 + 1))), .ref 249] (by decide +kernel) rfl ?_
  refine i_aS (pc' := 1896) L (by decide +kernel) rfl h0 ?_
  refine i_cv (ci := 11) (t := 256) (na := 5) (ml := 5) (idx := 231) (pc' := 1899) (st' := []) (en := [some (.ref 249), some (.int (r111.2 2 (ix (x4 + 1)))), some (.int (r111.2 2 (ix (x4 + 2)))), some (.int (r111.2 2 (ix (x4 + 3)))), some (.int (r111.2 2 (ix (x4 + 4))))]) (av := [.int (r111.2 2 (ix (x4 + 1))), .int (r111.2 2 (ix (x4 + 2))), .int (r111.2 2 (ix (x4 + 3))), .int (r111.2 2 (ix (x4 + 4)))]) (vo := fun v => some (.int v.1)) (mo := fun v => v.2) (s2 := fun v => .int v.1 :: []) (by decide +kernel) (by decide +kernel) h2 ⟨rfl, rfl, rfl, rfl, rfl, rfl⟩ (fun _ => rfl) (t_256 hN (h0 := h2)) (fun r112 => ?_)
  refine i_bl (pc' := 1902) [(.istore 6, 2), (.aload_n 2, 1)] [some (.ref 2), some (.ref 20), some (.ref 249), some (.ref 266), some (.int x4), some (.int r111.1), some (.int r112.1), o7, o8] [.ref 249] (by decide +kernel) rfl ?_
  refine i_cv (ci := 11) (t := 182) (na := 1) (ml := 1) (idx := 167) (pc' := 1905) (st' := []) (en := [some (.ref 249)]) (av := []) (vo := fun v => some (.int v)) (mo := fun _ => r112.2) (s2 := fun v => .int v :: []) (by decide +kernel) (by decide +kernel) h2 ⟨rfl, rfl, rfl, rfl, rfl, rfl⟩ (fun _ => rfl) (t_182 hN (h0 := h2)) (fun v113 => ?_)
  refine i_bl (pc' := 1907) [(.iload 5, 2)] [some (.ref 2), some (.ref 20), some (.ref 249), some (.ref 266), some (.int x4), some (.int r111.1), some (.int r112.1), o7, o8] [.int r111.1, .int v113] (by decide +kernel) rfl ?_
  refine i_ic (c := .eq) (off := 5) (t := 1912) (pc' := 1910) (p := v113 = r111.1) (by decide +kernel) rfl ?_ ?_
  · refine i_bl (pc' := 1914) [(.iload 5, 2)] [some (.ref 2), some (.ref 20), some (.ref 249), some (.ref 266), some (.int x4), some (.int r111.1), some (.int r112.1), o7, o8] [.int r111.1] (by decide +kernel) rfl ?_
    refine i_if (c := .ne) (off := 15) (t := 1929) (pc' := 1917) (p := ¬ r111.1 = 0) (by decide +kernel) rfl ?_ ?_
    · refine i_go (t := 3271) (off := 1342) (by decide +kernel) ?_
      refine i_bl (pc' := 3274) [(.iinc 4 (7), 3)] [some (.ref 2), some (.ref 20), some (.ref 249), some (.ref 266), some (.int (x4 + 7)), some (.int r111.1), some (.int r112.1), o7, o8] [] (by decide +kernel) rfl ?_
      refine i_wb (fun y114 => ev_dn (b - 2) (z - 12) 348 3274 [some (.ref 2), some (.ref 20), some (.ref 249), some (.ref 266), some (.int y114), some (.int r111.1), some (.int r112.1), o7, o8] [] (nx, mem L nx r112.2)) (fun y114 => ?_)
      refine i_go (t := 23) (off := -3251) (by decide +kernel) ?_
      exact i_cL (some (.int r111.1), some (.int r112.1), o7, o8) (b - 2) (z - 12) (by omega) (by omega) rfl
    · refine i_bl (pc' := 1919) [(.aload_n 3, 1), (.iconst 0, 1)] [some (.ref 2), some (.ref 20), some (.ref 249), some (.ref 266), some (.int x4), some (.int r111.1), some (.int r112.1), o7, o8] [.int 0, .ref 266] (by decide +kernel) rfl ?_
      refine i_ll (pc' := 1920) (by decide +kernel) h3 ?_
      refine i_bl (pc' := 1923) [(.iload 6, 2), (.i2l, 1)] [some (.ref 2), some (.ref 20), some (.ref 249), some (.ref 266), some (.int x4), some (.int r111.1), some (.int r112.1), o7, o8] [.long r112.1.toInt64, .long (r112.2 266 (ix 0)).toInt64] (by decide +kernel) rfl ?_
      refine i_lcm (x := (r112.2 266 (ix 0))) (y := r112.1) (pc' := 1924) (by decide +kernel) ?_
      refine i_if (c := .eq) (off := 5) (t := 1929) (pc' := 1927) (p := (ilg (r112.2 266 (ix 0)) r112.1) = 0) (by decide +kernel) rfl ?_ ?_
      · refine i_go (t := 3271) (off := 1342) (by decide +kernel) ?_
        refine i_bl (pc' := 3274) [(.iinc 4 (7), 3)] [some (.ref 2), some (.ref 20), some (.ref 249), some (.ref 266), some (.int (x4 + 7)), some (.int r111.1), some (.int r112.1), o7, o8] [] (by decide +kernel) rfl ?_
        refine i_wb (fun y115 => ev_dn (b - 2) (z - 12) 348 3274 [some (.ref 2), some (.ref 20), some (.ref 249), some (.ref 266), some (.int y115), some (.int r111.1), some (.int r112.1), o7, o8] [] (nx, mem L nx r112.2)) (fun y115 => ?_)
        refine i_go (t := 23) (off := -3251) (by decide +kernel) ?_
        exact i_cL (some (.int r111.1), some (.int r112.1), o7, o8) (b - 2) (z - 12) (by omega) (by omega) rfl
      · refine i_bl (pc' := 1928) [(.iconst 0, 1)] [some (.ref 2), some (.ref 20), some (.ref 249), some (.ref 266), some (.int x4), some (.int r111.1), some (.int r112.1), o7, o8] [.int 0] (by decide +kernel) rfl ?_
        exact i_iM (i_rz (B := false) (by decide +kernel) rfl)
  · refine i_bl (pc' := 1911) [(.iconst 0, 1)] [some (.ref 2), some (.ref 20), some (.ref 249), some (.ref 266), some (.int x4), some (.int r111.1), some (.int r112.1), o7, o8] [.int 0] (by decide +kernel) rfl ?_
    exact i_iM (i_rz (B := false) (by decide +kernel) rfl)

noncomputable def d_348_1932 (L : Nat) (x4 : Int32) (m : Mm) : Option ((Int32 × Mm) ⊕ (Bool × Mm)) := if ev_in (x4 + 1) L = true then (if ev_in (x4 + 2) L = true then (if ev_in (x4 + 3) L = true then (if ev_in (x4 + 4) L = true then ((d_331 20 (m 2 (ix (x4 + 1))) (m 2 (ix (x4 + 2))) (m 2 (ix (x4 + 3))) (m 2 (ix (x4 + 4))) 266 m).bind fun r116 => if ev_in (x4 + 1) L = true then (if ev_in (x4 + 2) L = true then (if ev_in (x4 + 3) L = true then (if ev_in (x4 + 4) L = true then ((d_257 249 (r116.2 2 (ix (x4 + 1))) (r116.2 2 (ix (x4 + 2))) (r116.2 2 (ix (x4 + 3))) (r116.2 2 (ix (x4 + 4))) r116.2).bind fun r117 => (d_182 249 r117.2).bind fun v118 => if v118 = r116.1 then (if ¬ r116.1 = 0 then (wb (x4 + 7) fun y119 => some (.inl (y119, r117.2))) else (if ev_in 0 (sh_n 266) = true then (if (ilg (r117.2 266 (ix 0)) r117.1) = 0 then (wb (x4 + 7) fun y120 => some (.inl (y120, r117.2))) else (some (.inr (false, r117.2)))) else none)) else (some (.inr (false, r117.2)))) else none) else none) else none) else none) else none) else none) else none) else none
theorem t_348_1932 {L nx : Nat} (hN : okn nx) {b z : Nat} (hb : 2 ≤ b) (hz : 12 ≤ z) {b0 z0 : Nat} (hb0 : b0 + 2 ≤ b + 4) (hz0 : z0 + 12 ≤ z + 24) {m : Mm} (h0 : ok nx 2 99) (h1 : ok nx 20 10) (h2 : ok nx 249 11) (h3 : ok nx 266 102) {x4 : Int32} {o5 : Option Value} {o6 : Option Value} {o7 : Option Value} {o8 : Option Value} : Im (d_348_1932 L x4 m) (kM (wZ L nx) (fun b z => E_348_23 L nx b z) b0 z0) (ev_dn b z 348 1932 [some (.ref 2), some (.ref 20), some (.ref 249), some (.ref 266), some (.int x4), o5, o6, o7, o8] [] (nx, mem L nx m)) := by
  unfold d_348_1932
  refine i_bl (pc' := 1938) [(.aload_n 1, 1), (.aload_n 0, 1), (.iload 4, 2), (.iconst 1, 1), (.iadd, 1)] [some (.ref 2), some (.ref 20), some (.ref 249), some (.ref 266), some (.int x4), o5, o6, o7, o8] [.int (x4 + 1), .ref 2, .ref 20] (by decide +kernel) rfl ?_
  refine i_aS (pc' := 1939) L (by decide +kernel) rfl h0 ?_
  refine i_bl (pc' := 1944) [(.aload_n 0, 1), (.iload 4, 2), (.iconst 2, 1), (.iadd, 1)] [some (.ref 2), some (.ref 20), some (.ref 249), some (.ref 266), some (.int x4), o5, o6, o7, o8] [.int (x4 + 2), .ref 2, .int (m 2 (ix (x4 + 1))), .ref 20] (by decide +kernel) rfl ?_
  refine i_aS (pc' := 1945) L (by decide +kernel) rfl h0 ?_
  refine i_bl (pc' := 1950) [(.aload_n 0, 1), (.iload 4, 2), (.iconst 3, 1), (.iadd, 1)] [some (.ref 2), some (.ref 20), some (.ref 249), some (.ref 266), some (.int x4), o5, o6, o7, o8] [.int (x4 + 3), .ref 2, .int (m 2 (ix (x4 + 2))), .int (m 2 (ix (x4 + 1))), .ref 20] (by decide +kernel) rfl ?_
  refine i_aS (pc' := 1951) L (by decide +kernel) rfl h0 ?_
  refine i_bl (pc' := 1956) [(.aload_n 0, 1), (.iload 4, 2), (.iconst 4, 1), (.iadd, 1)] [some (.ref 2), some (.ref 20), some (.ref 249), some (.ref 266), some (.int x4), o5, o6, o7, o8] [.int (x4 + 4), .ref 2, .int (m 2 (ix (x4 + 3))), .int (m 2 (ix (x4 + 2))), .int (m 2 (ix (x4 + 1))), .ref 20] (by decide +kernel) rfl ?_
  refine i_aS (pc' := 1957) L (by decide +kernel) rfl h0 ?_
  refine i_bl (pc' := 1958) [(.aload_n 3, 1)] [some (.ref 2), some (.ref 20), some (.ref 249), some (.ref 266), some (.int x4), o5, o6, o7, o8] [.ref 266, .int (m 2 (ix (x4 + 4))), .int (m 2 (ix (x4 + 3))), .int (m 2 (ix (x4 + 2))), .int (m 2 (ix (x4 + 1))), .ref 20] (by decide +kernel) rfl ?_
  refine i_ck (k1 := 2) (k2 := 12) (t := 331) (na := 6) (ml := 7) (idx := 232) (pc' := 1961) (st' := []) (en := [some (.ref 20), some (.int (m 2 (ix (x4 + 1)))), some (.int (m 2 (ix (x4 + 2)))), some (.int (m 2 (ix (x4 + 3)))), some (.int (m 2 (ix (x4 + 4)))), some (.ref 266), none]) (av := [.ref 20, .int (m 2 (ix (x4 + 1))), .int (m 2 (ix (x4 + 2))), .int (m 2 (ix (x4 + 3))), .int (m 2 (ix (x4 + 4))), .ref 266]) (vo := fun v => some (.int v.1)) (mo := fun v => v.2) (s2 := fun v => .int v.1 :: []) (by decide +kernel) ⟨rfl, rfl, rfl, rfl, rfl, rfl⟩ ⟨by omega, by omega⟩ (fun _ => rfl) (t_331 hN (b := 2) (z := 12) (by decide) (by decide) (h0 := h1) (h5 := h3)) (fun r116 => ?_)
  refine i_bl (pc' := 1969) [(.istore 5, 2), (.aload_n 2, 1), (.aload_n 0, 1), (.iload 4, 2), (.iconst 1, 1), (.iadd, 1)] [some (.ref 2), some (.ref 20), some (.ref 249), some (.ref 266), some (.int x4), some (.int r116.1), o6, o7, o8] [.int (x4 + 1), .ref 2, .ref 249] (by decide +kernel) rfl ?_
  refine i_aS (pc' := 1970) L (by decide +kernel) rfl h0 ?_
  refine i_bl (pc' := 1975) [(.aload_n 0, 1), (.iload 4, 2), (.iconst 2, 1), (.iadd, 1)] [some (.ref 2), some (.ref 20), some (.ref 249), some (.ref 266), some (.int x4), some (.int r116.1), o6, o7, o8] [.int (x4 + 2), .ref 2, .int (r116.2 2 (ix (x4 + 1))), .ref 249] (by decide +kernel) rfl ?_
  refine i_aS (pc' := 1976) L (by decide +kernel) rfl h0 ?_
  refine i_bl (pc' := 1981) [(.aload_n 0, 1), (.iload 4, 2), (.iconst 3, 1), (.iadd, 1)] [some (.ref 2), some (.ref 20), some (.ref 249), some (.ref 266), some (.int x4), some (.int r116.1), o6, o7, o8] [.int (x4 + 3), .ref 2, .int (r116.2 2 (ix (x4 + 2))), .int (r116.2 2 (ix (x4 + 1))), .ref 249] (by decide +kernel) rfl ?_
  refine i_aS (pc' := 1982) L (by decide +kernel) rfl h0 ?_
  refine i_bl (pc' := 1987) [(.aload_n 0, 1), (.iload 4, 2), (.iconst 4, 1), (.iadd, 1)] [some (.ref 2), some (.ref 20), some (.ref 249), some (.ref 266), some (.int x4), some (.int r116.1), o6, o7, o8] [.int (x4 + 4), .ref 2, .int (r116.2 2 (ix (x4 + 3))), .int (r116.2 2 (ix (x4 + 2))), .int (r116.2 2 (ix (x4 + 1))), .ref 249] (by decide +kernel) rfl ?_
  refine i_aS (pc' := 1988) L (by decide +kernel) rfl h0 ?_
  refine i_cv (ci := 11) (t := 257) (na := 5) (ml := 6) (idx := 234) (pc' := 1991) (st' := []) (en := [some (.ref 249), some (.int (r116.2 2 (ix (x4 + 1)))), some (.int (r116.2 2 (ix (x4 + 2)))), some (.int (r116.2 2 (ix (x4 + 3)))), some (.int (r116.2 2 (ix (x4 + 4)))), none]) (av := [.int (r116.2 2 (ix (x4 + 1))), .int (r116.2 2 (ix (x4 + 2))), .int (r116.2 2 (ix (x4 + 3))), .int (r116.2 2 (ix (x4 + 4)))]) (vo := fun v => some (.int v.1)) (mo := fun v => v.2) (s2 := fun v => .int v.1 :: []) (by decide +kernel) (by decide +kernel) h2 ⟨rfl, rfl, rfl, rfl, rfl, rfl⟩ (fun _ => rfl) (t_257 hN (h0 := h2)) (fun r117 => ?_)
  refine i_bl (pc' := 1994) [(.istore 6, 2), (.aload_n 2, 1)] [some (.ref 2), some (.ref 20), some (.ref 249), some (.ref 266), some (.int x4), some (.int r116.1), some (.int r117.1), o7, o8] [.ref 249] (by decide +kernel) rfl ?_
  refine i_cv (ci := 11) (t := 182) (na := 1) (ml := 1) (idx := 167) (pc' := 1997) (st' := []) (en := [some (.ref 249)]) (av := []) (vo := fun v => some (.int v)) (mo := fun _ => r117.2) (s2 := fun v => .int v :: []) (by decide +kernel) (by decide +kernel) h2 ⟨rfl, rfl, rfl, rfl, rfl, rfl⟩ (fun _ => rfl) (t_182 hN (h0 := h2)) (fun v118 => ?_)
  refine i_bl (pc' := 1999) [(.iload 5, 2)] [some (.ref 2), some (.ref 20), some (.ref 249), some (.ref 266), some (.int x4), some (.int r116.1), some (.int r117.1), o7, o8] [.int r116.1, .int v118] (by decide +kernel) rfl ?_
  refine i_ic (c := .eq) (off := 5) (t := 2004) (pc' := 2002) (p := v118 = r116.1) (by decide +kernel) rfl ?_ ?_
  · refine i_bl (pc' := 2006) [(.iload 5, 2)] [some (.ref 2), some (.ref 20), some (.ref 249), some (.ref 266), some (.int x4), some (.int r116.1), some (.int r117.1), o7, o8] [.int r116.1] (by decide +kernel) rfl ?_
    refine i_if (c := .ne) (off := 15) (t := 2021) (pc' := 2009) (p := ¬ r116.1 = 0) (by decide +kernel) rfl ?_ ?_
    · refine i_go (t := 3271) (off := 1250) (by decide +kernel) ?_
      refine i_bl (pc' := 3274) [(.iinc 4 (7), 3)] [some (.ref 2), some (.ref 20), some (.ref 249), some (.ref 266), some (.int (x4 + 7)), some (.int r116.1), some (.int r117.1), o7, o8] [] (by decide +kernel) rfl ?_
      refine i_wb (fun y119 => ev_dn (b - 2) (z - 12) 348 3274 [some (.ref 2), some (.ref 20), some (.ref 249), some (.ref 266), some (.int y119), some (.int r116.1), some (.int r117.1), o7, o8] [] (nx, mem L nx r117.2)) (fun y119 => ?_)
      refine i_go (t := 23) (off := -3251) (by decide +kernel) ?_
      exact i_cL (some (.int r116.1), some (.int r117.1), o7, o8) (b - 2) (z - 12) (by omega) (by omega) rfl
    · refine i_bl (pc' := 2011) [(.aload_n 3, 1), (.iconst 0, 1)] [some (.ref 2), some (.ref 20), some (.ref 249), some (.ref 266), some (.int x4), some (.int r116.1), some (.int r117.1), o7, o8] [.int 0, .ref 266] (by decide +kernel) rfl ?_
      refine i_ll (pc' := 2012) (by decide +kernel) h3 ?_
      refine i_bl (pc' := 2015) [(.iload 6, 2), (.i2l, 1)] [some (.ref 2), some (.ref 20), some (.ref 249), some (.ref 266), some (.int x4), some (.int r116.1), some (.int r117.1), o7, o8] [.long r117.1.toInt64, .long (r117.2 266 (ix 0)).toInt64] (by decide +kernel) rfl ?_
      refine i_lcm (x := (r117.2 266 (ix 0))) (y := r117.1) (pc' := 2016) (by decide +kernel) ?_
      refine i_if (c := .eq) (off := 5) (t := 2021) (pc' := 2019) (p := (ilg (r117.2 266 (ix 0)) r117.1) = 0) (by decide +kernel) rfl ?_ ?_
      · refine i_go (t := 3271) (off := 1250) (by decide +kernel) ?_
        refine i_bl (pc' := 3274) [(.iinc 4 (7), 3)] [some (.ref 2), some (.ref 20), some (.ref 249), some (.ref 266), some (.int (x4 + 7)), some (.int r116.1), some (.int r117.1), o7, o8] [] (by decide +kernel) rfl ?_
        refine i_wb (fun y120 => ev_dn (b - 2) (z - 12) 348 3274 [some (.ref 2), some (.ref 20), some (.ref 249), some (.ref 266), some (.int y120), some (.int r116.1), some (.int r117.1), o7, o8] [] (nx, mem L nx r117.2)) (fun y120 => ?_)
        refine i_go (t := 23) (off := -3251) (by decide +kernel) ?_
        exact i_cL (some (.int r116.1), some (.int r117.1), o7, o8) (b - 2) (z - 12) (by omega) (by omega) rfl
      · refine i_bl (pc' := 2020) [(.iconst 0, 1)] [some (.ref 2), some (.ref 20), some (.ref 249), some (.ref 266), some (.int x4), some (.int r116.1), some (.int r117.1), o7, o8] [.int 0] (by decide +kernel) rfl ?_
        exact i_iM (i_rz (B := false) (by decide +kernel) rfl)
  · refine i_bl (pc' := 2003) [(.iconst 0, 1)] [some (.ref 2), some (.ref 20), some (.ref 249), some (.ref 266), some (.int x4), some (.int r116.1), some (.int r117.1), o7, o8] [.int 0] (by decide +kernel) rfl ?_
    exact i_iM (i_rz (B := false) (by decide +kernel) rfl)

noncomputable def d_348_2024 (L : Nat) (x4 : Int32) (m : Mm) : Option ((Int32 × Mm) ⊕ (Bool × Mm)) := if ev_in (x4 + 1) L = true then (if ev_in (x4 + 2) L = true then (if ev_in (x4 + 3) L = true then (if ev_in (x4 + 4) L = true then (if ev_in (x4 + 5) L = true then ((d_332 20 (m 2 (ix (x4 + 1))) (m 2 (ix (x4 + 2))) (m 2 (ix (x4 + 3))) (m 2 (ix (x4 + 4))) (m 2 (ix (x4 + 5))) 266 m).bind fun r121 => if ev_in (x4 + 1) L = true then (if ev_in (x4 + 2) L = true then (if ev_in (x4 + 3) L = true then (if ev_in (x4 + 4) L = true then (if ev_in (x4 + 5) L = true then ((d_268 249 (r121.2 2 (ix (x4 + 1))) (r121.2 2 (ix (x4 + 2))) (r121.2 2 (ix (x4 + 3))) (r121.2 2 (ix (x4 + 4))) (r121.2 2 (ix (x4 + 5))) r121.2).bind fun r122 => (d_182 249 r122.2).bind fun v123 => if v123 = r121.1 then (if ¬ r121.1 = 0 then (wb (x4 + 7) fun y124 => some (.inl (y124, r122.2))) else (if ev_in 0 (sh_n 266) = true then (if (ilg (r122.2 266 (ix 0)) r122.1) = 0 then (wb (x4 + 7) fun y125 => some (.inl (y125, r122.2))) else (some (.inr (false, r122.2)))) else none)) else (some (.inr (false, r122.2)))) else none) else none) else none) else none) else none) else none) else none) else none) else none) else none
theorem t_348_2024 {L nx : Nat} (hN : okn nx) {b z : Nat} (hb : 4 ≤ b) (hz : 24 ≤ z) {b0 z0 : Nat} (hb0 : b0 + 4 ≤ b + 4) (hz0 : z0 + 24 ≤ z + 24) {m : Mm} (h0 : ok nx 2 99) (h1 : ok nx 20 10) (h2 : ok nx 249 11) (h3 : ok nx 266 102) {x4 : Int32} {o5 : Option Value} {o6 : Option Value} {o7 : Option Value} {o8 : Option Value} : Im (d_348_2024 L x4 m) (kM (wZ L nx) (fun b z => E_348_23 L nx b z) b0 z0) (ev_dn b z 348 2024 [some (.ref 2), some (.ref 20), some (.ref 249), some (.ref 266), some (.int x4), o5, o6, o7, o8] [] (nx, mem L nx m)) := by
  unfold d_348_2024
  refine i_bl (pc' := 2030) [(.aload_n 1, 1), (.aload_n 0, 1), (.iload 4, 2), (.iconst 1, 1), (.iadd, 1)] [some (.ref 2), some (.ref 20), some (.ref 249), some (.ref 266), some (.int x4), o5, o6, o7, o8] [.int (x4 + 1), .ref 2, .ref 20] (by decide +kernel) rfl ?_
  refine i_aS (pc' := 2031) L (by decide +kernel) rfl h0 ?_
  refine i_bl (pc' := 2036) [(.aload_n 0, 1), (.iload 4, 2), (.iconst 2, 1), (.iadd, 1)] [some (.ref 2), some (.ref 20), some (.ref 249), some (.ref 266), some (.int x4), o5, o6, o7, o8] [.int (x4 + 2), .ref 2, .int (m 2 (ix (x4 + 1))), .ref 20] (by decide +kernel) rfl ?_
  refine i_aS (pc' := 2037) L (by decide +kernel) rfl h0 ?_
  refine i_bl (pc' := 2042) [(.aload_n 0, 1), (.iload 4, 2), (.iconst 3, 1), (.iadd, 1)] [some (.ref 2), some (.ref 20), some (.ref 249), some (.ref 266), some (.int x4), o5, o6, o7, o8] [.int (x4 + 3), .ref 2, .int (m 2 (ix (x4 + 2))), .int (m 2 (ix (x4 + 1))), .ref 20] (by decide +kernel) rfl ?_
  refine i_aS (pc' := 2043) L (by decide +kernel) rfl h0 ?_
  refine i_bl (pc' := 2048) [(.aload_n 0, 1), (.iload 4, 2), (.iconst 4, 1), (.iadd, 1)] [some (.ref 2), some (.ref 20), some (.ref 249), some (.ref 266), some (.int x4), o5, o6, o7, o8] [.int (x4 + 4), .ref 2, .int (m 2 (ix (x4 + 3))), .int (m 2 (ix (x4 + 2))), .int (m 2 (ix (x4 + 1))), .ref 20] (by decide +kernel) rfl ?_
  refine i_aS (pc' := 2049) L (by decide +kernel) rfl h0 ?_
  refine i_bl (pc' := 2054) [(.aload_n 0, 1), (.iload 4, 2), (.iconst 5, 1), (.iadd, 1)] [some (.ref 2), some (.ref 20), some (.ref 249), some (.ref 266), some (.int x4), o5, o6, o7, o8] [.int (x4 + 5), .ref 2, .int (m 2 (ix (x4 + 4))), .int (m 2 (ix (x4 + 3))), .int (m 2 (ix (x4 + 2))), .int (m 2 (ix (x4 + 1))), .ref 20] (by decide +kernel) rfl ?_
  refine i_aS (pc' := 2055) L (by decide +kernel) rfl h0 ?_
  refine i_bl (pc' := 2056) [(.aload_n 3, 1)] [some (.ref 2), some (.ref 20), some (.ref 249), some (.ref 266), some (.int x4), o5, o6, o7, o8] [.ref 266, .int (m 2 (ix (x4 + 5))), .int (m 2 (ix (x4 + 4))), .int (m 2 (ix (x4 + 3))), .int (m 2 (ix (x4 + 2))), .int (m 2 (ix (x4 + 1))), .ref 20] (by decide +kernel) rfl ?_
  refine i_ck (k1 := 4) (k2 := 24) (t := 332) (na := 7) (ml := 8) (idx := 235) (pc' := 2059) (st' := []) (en := [some (.ref 20), some (.int (m 2 (ix (x4 + 1)))), some (.int (m 2 (ix (x4 + 2)))), some (.int (m 2 (ix (x4 + 3)))), some (.int (m 2 (ix (x4 + 4)))), some (.int (m 2 (ix (x4 + 5)))), some (.ref 266), none]) (av := [.ref 20, .int (m 2 (ix (x4 + 1))), .int (m 2 (ix (x4 + 2))), .int (m 2 (ix (x4 + 3))), .int (m 2 (ix (x4 + 4))), .int (m 2 (ix (x4 + 5))), .ref 266]) (vo := fun v => some (.int v.1)) (mo := fun v => v.2) (s2 := fun v => .int v.1 :: []) (by decide +kernel) ⟨rfl, rfl, rfl, rfl, rfl, rfl⟩ ⟨by omega, by omega⟩ (fun _ => rfl) (t_332 hN (b := 4) (z := 24) (by decide) (by decide) (h0 := h1) (h6 := h3)) (fun r121 => ?_)
  refine i_bl (pc' := 2067) [(.istore 5, 2), (.aload_n 2, 1), (.aload_n 0, 1), (.iload 4, 2), (.iconst 1, 1), (.iadd, 1)] [some (.ref 2), some (.ref 20), some (.ref 249), some (.ref 266), some (.int x4), some (.int r121.1), o6, o7, o8] [.int (x4 + 1), .ref 2, .ref 249] (by decide +kernel) rfl ?_
  refine i_aS (pc' := 2068) L (by decide +kernel) rfl h0 ?_
  refine i_bl (pc' := 2073) [(.aload_n 0, 1), (.iload 4, 2), (.iconst 2, 1), (.iadd, 1)] [some (.ref 2), some (.ref 20), some (.ref 249), some (.ref 266), some (.int x4), some (.int r121.1), o6, o7, o8] [.int (x4 + 2), .ref 2, .int (r121.2 2 (ix (x4 + 1))), .ref 249] (by decide +kernel) rfl ?_
  refine i_aS (pc' := 2074) L (by decide +kernel) rfl h0 ?_
  refine i_bl (pc' := 2079) [(.aload_n 0, 1), (.iload 4, 2), (.iconst 3, 1), (.iadd, 1)] [some (.ref 2), some (.ref 20), some (.ref 249), some (.ref 266), some (.int x4), some (.int r121.1), o6, o7, o8] [.int (x4 + 3), .ref 2, .int (r121.2 2 (ix (x4 + 2))), .int (r121.2 2 (ix (x4 + 1))), .ref 249] (by decide +kernel) rfl ?_
  refine i_aS (pc' := 2080) L (by decide +kernel) rfl h0 ?_
  refine i_bl (pc' := 2085) [(.aload_n 0, 1), (.iload 4, 2), (.iconst 4, 1), (.iadd, 1)] [some (.ref 2), some (.ref 20), some (.ref 249), some (.ref 266), some (.int x4), some (.int r121.1), o6, o7, o8] [.int (x4 + 4), .ref 2, .int (r121.2 2 (ix (x4 + 3))), .int (r121.2 2 (ix (x4 + 2))), .int (r121.2 2 (ix (x4 + 1))), .ref 249] (by decide +kernel) rfl ?_
  refine i_aS (pc' := 2086) L (by decide +kernel) rfl h0 ?_
  refine i_bl (pc' := 2091) [(.aload_n 0, 1), (.iload 4, 2), (.iconst 5, 1), (.iadd, 1)] [some (.ref 2), some (.ref 20), some (.ref 249), some (.ref 266), some (.int x4), some (.int r121.1), o6, o7, o8] [.int (x4 + 5), .ref 2, .int (r121.2 2 (ix (x4 + 4))), .int (r121.2 2 (ix (x4 + 3))), .int (r121.2 2 (ix (x4 + 2))), .int (r121.2 2 (ix (x4 + 1))), .ref 249] (by decide +kernel) rfl ?_
  refine i_aS (pc' := 2092) L (by decide +kernel) rfl h0 ?_
  refine i_cv (ci := 11) (t := 268) (na := 6) (ml := 9) (idx := 237) (pc' := 2095) (st' := []) (en := [some (.ref 249), some (.int (r121.2 2 (ix (x4 + 1)))), some (.int (r121.2 2 (ix (x4 + 2)))), some (.int (r121.2 2 (ix (x4 + 3)))), some (.int (r121.2 2 (ix (x4 + 4)))), some (.int (r121.2 2 (ix (x4 + 5)))), none, none, none]) (av := [.int (r121.2 2 (ix (x4 + 1))), .int (r121.2 2 (ix (x4 + 2))), .int (r121.2 2 (ix (x4 + 3))), .int (r121.2 2 (ix (x4 + 4))), .int (r121.2 2 (ix (x4 + 5)))]) (vo := fun v => some (.int v.1)) (mo := fun v => v.2) (s2 := fun v => .int v.1 :: []) (by decide +kernel) (by decide +kernel) h2 ⟨rfl, rfl, rfl, rfl, rfl, rfl⟩ (fun _ => rfl) (t_268 hN (h0 := h2)) (fun r122 => ?_)
  refine i_bl (pc' := 2098) [(.istore 6, 2), (.aload_n 2, 1)] [some (.ref 2), some (.ref 20), some (.ref 249), some (.ref 266), some (.int x4), some (.int r121.1), some (.int r122.1), o7, o8] [.ref 249] (by decide +kernel) rfl ?_
  refine i_cv (ci := 11) (t := 182) (na := 1) (ml := 1) (idx := 167) (pc' := 2101) (st' := []) (en := [some (.ref 249)]) (av := []) (vo := fun v => some (.int v)) (mo := fun _ => r122.2) (s2 := fun v => .int v :: []) (by decide +kernel) (by decide +kernel) h2 ⟨rfl, rfl, rfl, rfl, rfl, rfl⟩ (fun _ => rfl) (t_182 hN (h0 := h2)) (fun v123 => ?_)
  refine i_bl (pc' := 2103) [(.iload 5, 2)] [some (.ref 2), some (.ref 20), some (.ref 249), some (.ref 266), some (.int x4), some (.int r121.1), some (.int r122.1), o7, o8] [.int r121.1, .int v123] (by decide +kernel) rfl ?_
  refine i_ic (c := .eq) (off := 5) (t := 2108) (pc' := 2106) (p := v123 = r121.1) (by decide +kernel) rfl ?_ ?_
  · refine i_bl (pc' := 2110) [(.iload 5, 2)] [some (.ref 2), some (.ref 20), some (.ref 249), some (.ref 266), some (.int x4), some (.int r121.1), some (.int r122.1), o7, o8] [.int r121.1] (by decide +kernel) rfl ?_
    refine i_if (c := .ne) (off := 15) (t := 2125) (pc' := 2113) (p := ¬ r121.1 = 0) (by decide +kernel) rfl ?_ ?_
    · refine i_go (t := 3271) (off := 1146) (by decide +kernel) ?_
      refine i_bl (pc' := 3274) [(.iinc 4 (7), 3)] [some (.ref 2), some (.ref 20), some (.ref 249), some (.ref 266), some (.int (x4 + 7)), some (.int r121.1), some (.int r122.1), o7, o8] [] (by decide +kernel) rfl ?_
      refine i_wb (fun y124 => ev_dn (b - 4) (z - 24) 348 3274 [some (.ref 2), some (.ref 20), some (.ref 249), some (.ref 266), some (.int y124), some (.int r121.1), some (.int r122.1), o7, o8] [] (nx, mem L nx r122.2)) (fun y124 => ?_)
      refine i_go (t := 23) (off := -3251) (by decide +kernel) ?_
      exact i_cL (some (.int r121.1), some (.int r122.1), o7, o8) (b - 4) (z - 24) (by omega) (by omega) rfl
    · refine i_bl (pc' := 2115) [(.aload_n 3, 1), (.iconst 0, 1)] [some (.ref 2), some (.ref 20), some (.ref 249), some (.ref 266), some (.int x4), some (.int r121.1), some (.int r122.1), o7, o8] [.int 0, .ref 266] (by decide +kernel) rfl ?_
      refine i_ll (pc' := 2116) (by decide +kernel) h3 ?_
      refine i_bl (pc' := 2119) [(.iload 6, 2), (.i2l, 1)] [some (.ref 2), some (.ref 20), some (.ref 249), some (.ref 266), some (.int x4), some (.int r121.1), some (.int r122.1), o7, o8] [.long r122.1.toInt64, .long (r122.2 266 (ix 0)).toInt64] (by decide +kernel) rfl ?_
      refine i_lcm (x := (r122.2 266 (ix 0))) (y := r122.1) (pc' := 2120) (by decide +kernel) ?_
      refine i_if (c := .eq) (off := 5) (t := 2125) (pc' := 2123) (p := (ilg (r122.2 266 (ix 0)) r122.1) = 0) (by decide +kernel) rfl ?_ ?_
      · refine i_go (t := 3271) (off := 1146) (by decide +kernel) ?_
        refine i_bl (pc' := 3274) [(.iinc 4 (7), 3)] [some (.ref 2), some (.ref 20), some (.ref 249), some (.ref 266), some (.int (x4 + 7)), some (.int r121.1), some (.int r122.1), o7, o8] [] (by decide +kernel) rfl ?_
        refine i_wb (fun y125 => ev_dn (b - 4) (z - 24) 348 3274 [some (.ref 2), some (.ref 20), some (.ref 249), some (.ref 266), some (.int y125), some (.int r121.1), some (.int r122.1), o7, o8] [] (nx, mem L nx r122.2)) (fun y125 => ?_)
        refine i_go (t := 23) (off := -3251) (by decide +kernel) ?_
        exact i_cL (some (.int r121.1), some (.int r122.1), o7, o8) (b - 4) (z - 24) (by omega) (by omega) rfl
      · refine i_bl (pc' := 2124) [(.iconst 0, 1)] [some (.ref 2), some (.ref 20), some (.ref 249), some (.ref 266), some (.int x4), some (.int r121.1), some (.int r122.1), o7, o8] [.int 0] (by decide +kernel) rfl ?_
        exact i_iM (i_rz (B := false) (by decide +kernel) rfl)
  · refine i_bl (pc' := 2107) [(.iconst 0, 1)] [some (.ref 2), some (.ref 20), some (.ref 249), some (.ref 266), some (.int x4), some (.int r121.1), some (.int r122.1), o7, o8] [.int 0] (by decide +kernel) rfl ?_
    exact i_iM (i_rz (B := false) (by decide +kernel) rfl)

noncomputable def d_348_2128 (L : Nat) (x4 : Int32) (m : Mm) : Option ((Int32 × Mm) ⊕ (Bool × Mm)) := if ev_in (x4 + 1) L = true then (if ev_in (x4 + 2) L = true then (if ev_in (x4 + 3) L = true then (if ev_in (x4 + 4) L = true then (if ev_in (x4 + 5) L = true then ((d_333 20 (m 2 (ix (x4 + 1))) (m 2 (ix (x4 + 2))) (m 2 (ix (x4 + 3))) (m 2 (ix (x4 + 4))) (m 2 (ix (x4 + 5))) 266 m).bind fun r126 => if ev_in (x4 + 1) L = true then (if ev_in (x4 + 2) L = true then (if ev_in (x4 + 3) L = true then (if ev_in (x4 + 4) L = true then (if ev_in (x4 + 5) L = true then ((d_269 249 (r126.2 2 (ix (x4 + 1))) (r126.2 2 (ix (x4 + 2))) (r126.2 2 (ix (x4 + 3))) (r126.2 2 (ix (x4 + 4))) (r126.2 2 (ix (x4 + 5))) r126.2).bind fun r127 => (d_182 249 r127.2).bind fun v128 => if v128 = r126.1 then (if ¬ r126.1 = 0 then (wb (x4 + 7) fun y129 => some (.inl (y129, r127.2))) else (if ev_in 0 (sh_n 266) = true then (if (ilg (r127.2 266 (ix 0)) r127.1) = 0 then (wb (x4 + 7) fun y130 => some (.inl (y130, r127.2))) else (some (.inr (false, r127.2)))) else none)) else (some (.inr (false, r127.2)))) else none) else none) else none) else none) else none) else none) else none) else none) else none) else none
theorem t_348_2128 {L nx : Nat} (hN : okn nx) {b z : Nat} (hb : 4 ≤ b) (hz : 24 ≤ z) {b0 z0 : Nat} (hb0 : b0 + 4 ≤ b + 4) (hz0 : z0 + 24 ≤ z + 24) {m : Mm} (h0 : ok nx 2 99) (h1 : ok nx 20 10) (h2 : ok nx 249 11) (h3 : ok nx 266 102) {x4 : Int32} {o5 : Option Value} {o6 : Option Value} {o7 : Option Value} {o8 : Option Value} : Im (d_348_2128 L x4 m) (kM (wZ L nx) (fun b z => E_348_23 L nx b z) b0 z0) (ev_dn b z 348 2128 [some (.ref 2), some (.ref 20), some (.ref 249), some (.ref 266), some (.int x4), o5, o6, o7, o8] [] (nx, mem L nx m)) := by
  unfold d_348_2128
  refine i_bl (pc' := 2134) [(.aload_n 1, 1), (.aload_n 0, 1), (.iload 4, 2), (.iconst 1, 1), (.iadd, 1)] [some (.ref 2), some (.ref 20), some (.ref 249), some (.ref 266), some (.int x4), o5, o6, o7, o8] [.int (x4 + 1), .ref 2, .ref 20] (by decide +kernel) rfl ?_
  refine i_aS (pc' := 2135) L (by decide +kernel) rfl h0 ?_
  refine i_bl (pc' := 2140) [(.aload_n 0, 1), (.iload 4, 2), (.iconst 2, 1), (.iadd, 1)] [some (.ref 2), some (.ref 20), some (.ref 249), some (.ref 266), some (.int x4), o5, o6, o7, o8] [.int (x4 + 2), .ref 2, .int (m 2 (ix (x4 + 1))), .ref 20] (by decide +kernel) rfl ?_
  refine i_aS (pc' := 2141) L (by decide +kernel) rfl h0 ?_
  refine i_bl (pc' := 2146) [(.aload_n 0, 1), (.iload 4, 2), (.iconst 3, 1), (.iadd, 1)] [some (.ref 2), some (.ref 20), some (.ref 249), some (.ref 266), some (.int x4), o5, o6, o7, o8] [.int (x4 + 3), .ref 2, .int (m 2 (ix (x4 + 2))), .int (m 2 (ix (x4 + 1))), .ref 20] (by decide +kernel) rfl ?_
  refine i_aS (pc' := 2147) L (by decide +kernel) rfl h0 ?_
  refine i_bl (pc' := 2152) [(.aload_n 0, 1), (.iload 4, 2), (.iconst 4, 1), (.iadd, 1)] [some (.ref 2), some (.ref 20), some (.ref 249), some (.ref 266), some (.int x4), o5, o6, o7, o8] [.int (x4 + 4), .ref 2, .int (m 2 (ix (x4 + 3))), .int (m 2 (ix (x4 + 2))), .int (m 2 (ix (x4 + 1))), .ref 20] (by decide +kernel) rfl ?_
  refine i_aS (pc' := 2153) L (by decide +kernel) rfl h0 ?_
  refine i_bl (pc' := 2158) [(.aload_n 0, 1), (.iload 4, 2), (.iconst 5, 1), (.iadd, 1)] [some (.ref 2), some (.ref 20), some (.ref 249), some (.ref 266), some (.int x4), o5, o6, o7, o8] [.int (x4 + 5), .ref 2, .int (m 2 (ix (x4 + 4))), .int (m 2 (ix (x4 + 3))), .int (m 2 (ix (x4 + 2))), .int (m 2 (ix (x4 + 1))), .ref 20] (by decide +kernel) rfl ?_
  refine i_aS (pc' := 2159) L (by decide +kernel) rfl h0 ?_
  refine i_bl (pc' := 2160) [(.aload_n 3, 1)] [some (.ref 2), some (.ref 20), some (.ref 249), some (.ref 266), some (.int x4), o5, o6, o7, o8] [.ref 266, .int (m 2 (ix (x4 + 5))), .int (m 2 (ix (x4 + 4))), .int (m 2 (ix (x4 + 3))), .int (m 2 (ix (x4 + 2))), .int (m 2 (ix (x4 + 1))), .ref 20] (by decide +kernel) rfl ?_
  refine i_ck (k1 := 4) (k2 := 24) (t := 333) (na := 7) (ml := 8) (idx := 238) (pc' := 2163) (st' := []) (en := [some (.ref 20), some (.int (m 2 (ix (x4 + 1)))), some (.int (m 2 (ix (x4 + 2)))), some (.int (m 2 (ix (x4 + 3)))), some (.int (m 2 (ix (x4 + 4)))), some (.int (m 2 (ix (x4 + 5)))), some (.ref 266), none]) (av := [.ref 20, .int (m 2 (ix (x4 + 1))), .int (m 2 (ix (x4 + 2))), .int (m 2 (ix (x4 + 3))), .int (m 2 (ix (x4 + 4))), .int (m 2 (ix (x4 + 5))), .ref 266]) (vo := fun v => some (.int v.1)) (mo := fun v => v.2) (s2 := fun v => .int v.1 :: []) (by decide +kernel) ⟨rfl, rfl, rfl, rfl, rfl, rfl⟩ ⟨by omega, by omega⟩ (fun _ => rfl) (t_333 hN (b := 4) (z := 24) (by decide) (by decide) (h0 := h1) (h6 := h3)) (fun r126 => ?_)
  refine i_bl (pc' := 2171) [(.istore 5, 2), (.aload_n 2, 1), (.aload_n 0, 1), (.iload 4, 2), (.iconst 1, 1), (.iadd, 1)] [some (.ref 2), some (.ref 20), some (.ref 249), some (.ref 266), some (.int x4), some (.int r126.1), o6, o7, o8] [.int (x4 + 1), .ref 2, .ref 249] (by decide +kernel) rfl ?_
  refine i_aS (pc' := 2172) L (by decide +kernel) rfl h0 ?_
  refine i_bl (pc' := 2177) [(.aload_n 0, 1), (.iload 4, 2), (.iconst 2, 1), (.iadd, 1)] [some (.ref 2), some (.ref 20), some (.ref 249), some (.ref 266), some (.int x4), some (.int r126.1), o6, o7, o8] [.int (x4 + 2), .ref 2, .int (r126.2 2 (ix (x4 + 1))), .ref 249] (by decide +kernel) rfl ?_
  refine i_aS (pc' := 2178) L (by decide +kernel) rfl h0 ?_
  refine i_bl (pc' := 2183) [(.aload_n 0, 1), (.iload 4, 2), (.iconst 3, 1), (.iadd, 1)] [some (.ref 2), some (.ref 20), some (.ref 249), some (.ref 266), some (.int x4), some (.int r126.1), o6, o7, o8] [.int (x4 + 3), .ref 2, .int (r126.2 2 (ix (x4 + 2))), .int (r126.2 2 (ix (x4 + 1))), .ref 249] (by decide +kernel) rfl ?_
  refine i_aS (pc' := 2184) L (by decide +kernel) rfl h0 ?_
  refine i_bl (pc' := 2189) [(.aload_n 0, 1), (.iload 4, 2), (.iconst 4, 1), (.iadd, 1)] [some (.ref 2), some (.ref 20), some (.ref 249), some (.ref 266), some (.int x4), some (.int r126.1), o6, o7, o8] [.int (x4 + 4), .ref 2, .int (r126.2 2 (ix (x4 + 3))), .int (r126.2 2 (ix (x4 + 2))), .int (r126.2 2 (ix (x4 + 1))), .ref 249] (by decide +kernel) rfl ?_
  refine i_aS (pc' := 2190) L (by decide +kernel) rfl h0 ?_
  refine i_bl (pc' := 2195) [(.aload_n 0, 1), (.iload 4, 2), (.iconst 5, 1), (.iadd, 1)] [some (.ref 2), some (.ref 20), some (.ref 249), some (.ref 266), some (.int x4), some (.int r126.1), o6, o7, o8] [.int (x4 + 5), .ref 2, .int (r126.2 2 (ix (x4 + 4))), .int (r126.2 2 (ix (x4 + 3))), .int (r126.2 2 (ix (x4 + 2))), .int (r126.2 2 (ix (x4 + 1))), .ref 249] (by decide +kernel) rfl ?_
  refine i_aS (pc' := 2196) L (by decide +kernel) rfl h0 ?_
  refine i_cv (ci := 11) (t := 269) (na := 6) (ml := 10) (idx := 240) (pc' := 2199) (st' := []) (en := [some (.ref 249), some (.int (r126.2 2 (ix (x4 + 1)))), some (.int (r126.2 2 (ix (x4 + 2)))), some (.int (r126.2 2 (ix (x4 + 3)))), some (.int (r126.2 2 (ix (x4 + 4)))), some (.int (r126.2 2 (ix (x4 + 5)))), none, none, none, none]) (av := [.int (r126.2 2 (ix (x4 + 1))), .int (r126.2 2 (ix (x4 + 2))), .int (r126.2 2 (ix (x4 + 3))), .int (r126.2 2 (ix (x4 + 4))), .int (r126.2 2 (ix (x4 + 5)))]) (vo := fun v => some (.int v.1)) (mo := fun v => v.2) (s2 := fun v => .int v.1 :: []) (by decide +kernel) (by decide +kernel) h2 ⟨rfl, rfl, rfl, rfl, rfl, rfl⟩ (fun _ => rfl) (t_269 hN (h0 := h2)) (fun r127 => ?_)
  refine i_bl (pc' := 2202) [(.istore 6, 2), (.aload_n 2, 1)] [some (.ref 2), some (.ref 20), some (.ref 249), some (.ref 266), some (.int x4), some (.int r126.1), some (.int r127.1), o7, o8] [.ref 249] (by decide +kernel) rfl ?_
  refine i_cv (ci := 11) (t := 182) (na := 1) (ml := 1) (idx := 167) (pc' := 2205) (st' := []) (en := [some (.ref 249)]) (av := []) (vo := fun v => some (.int v)) (mo := fun _ => r127.2) (s2 := fun v => .int v :: []) (by decide +kernel) (by decide +kernel) h2 ⟨rfl, rfl, rfl, rfl, rfl, rfl⟩ (fun _ => rfl) (t_182 hN (h0 := h2)) (fun v128 => ?_)
  refine i_bl (pc' := 2207) [(.iload 5, 2)] [some (.ref 2), some (.ref 20), some (.ref 249), some (.ref 266), some (.int x4), some (.int r126.1), some (.int r127.1), o7, o8] [.int r126.1, .int v128] (by decide +kernel) rfl ?_
  refine i_ic (c := .eq) (off := 5) (t := 2212) (pc' := 2210) (p := v128 = r126.1) (by decide +kernel) rfl ?_ ?_
  · refine i_bl (pc' := 2214) [(.iload 5, 2)] [some (.ref 2), some (.ref 20), some (.ref 249), some (.ref 266), some (.int x4), some (.int r126.1), some (.int r127.1), o7, o8] [.int r126.1] (by decide +kernel) rfl ?_
    refine i_if (c := .ne) (off := 15) (t := 2229) (pc' := 2217) (p := ¬ r126.1 = 0) (by decide +kernel) rfl ?_ ?_
    · refine i_go (t := 3271) (off := 1042) (by decide +kernel) ?_
      refine i_bl (pc' := 3274) [(.iinc 4 (7), 3)] [some (.ref 2), some (.ref 20), some (.ref 249), some (.ref 266), some (.int (x4 + 7)), some (.int r126.1), some (.int r127.1), o7, o8] [] (by decide +kernel) rfl ?_
      refine i_wb (fun y129 => ev_dn (b - 4) (z - 24) 348 3274 [some (.ref 2), some (.ref 20), some (.ref 249), some (.ref 266), some (.int y129), some (.int r126.1), some (.int r127.1), o7, o8] [] (nx, mem L nx r127.2)) (fun y129 => ?_)
      refine i_go (t := 23) (off := -3251) (by decide +kernel) ?_
      exact i_cL (some (.int r126.1), some (.int r127.1), o7, o8) (b - 4) (z - 24) (by omega) (by omega) rfl
    · refine i_bl (pc' := 2219) [(.aload_n 3, 1), (.iconst 0, 1)] [some (.ref 2), some (.ref 20), some (.ref 249), some (.ref 266), some (.int x4), some (.int r126.1), some (.int r127.1), o7, o8] [.int 0, .ref 266] (by decide +kernel) rfl ?_
      refine i_ll (pc' := 2220) (by decide +kernel) h3 ?_
      refine i_bl (pc' := 2223) [(.iload 6, 2), (.i2l, 1)] [some (.ref 2), some (.ref 20), some (.ref 249), some (.ref 266), some (.int x4), some (.int r126.1), some (.int r127.1), o7, o8] [.long r127.1.toInt64, .long (r127.2 266 (ix 0)).toInt64] (by decide +kernel) rfl ?_
      refine i_lcm (x := (r127.2 266 (ix 0))) (y := r127.1) (pc' := 2224) (by decide +kernel) ?_
      refine i_if (c := .eq) (off := 5) (t := 2229) (pc' := 2227) (p := (ilg (r127.2 266 (ix 0)) r127.1) = 0) (by decide +kernel) rfl ?_ ?_
      · refine i_go (t := 3271) (off := 1042) (by decide +kernel) ?_
        refine i_bl (pc' := 3274) [(.iinc 4 (7), 3)] [some (.ref 2), some (.ref 20), some (.ref 249), some (.ref 266), some (.int (x4 + 7)), some (.int r126.1), some (.int r127.1), o7, o8] [] (by decide +kernel) rfl ?_
        refine i_wb (fun y130 => ev_dn (b - 4) (z - 24) 348 3274 [some (.ref 2), some (.ref 20), some (.ref 249), some (.ref 266), some (.int y130), some (.int r126.1), some (.int r127.1), o7, o8] [] (nx, mem L nx r127.2)) (fun y130 => ?_)
        refine i_go (t := 23) (off := -3251) (by decide +kernel) ?_
        exact i_cL (some (.int r126.1), some (.int r127.1), o7, o8) (b - 4) (z - 24) (by omega) (by omega) rfl
      · refine i_bl (pc' := 2228) [(.iconst 0, 1)] [some (.ref 2), some (.ref 20), some (.ref 249), some (.ref 266), some (.int x4), some (.int r126.1), some (.int r127.1), o7, o8] [.int 0] (by decide +kernel) rfl ?_
        exact i_iM (i_rz (B := false) (by decide +kernel) rfl)
  · refine i_bl (pc' := 2211) [(.iconst 0, 1)] [some (.ref 2), some (.ref 20), some (.ref 249), some (.ref 266), some (.int x4), some (.int r126.1), some (.int r127.1), o7, o8] [.int 0] (by decide +kernel) rfl ?_
    exact i_iM (i_rz (B := false) (by decide +kernel) rfl)

noncomputable def d_348_2232 (L : Nat) (x4 : Int32) (m : Mm) : Option ((Int32 × Mm) ⊕ (Bool × Mm)) := if ev_in (x4 + 1) L = true then (if ev_in (x4 + 2) L = true then ((d_334 20 (m 2 (ix (x4 + 1))) (m 2 (ix (x4 + 2))) 266 m).bind fun r131 => if ev_in (x4 + 1) L = true then (if ev_in (x4 + 2) L = true then ((d_270 249 (r131.2 2 (ix (x4 + 1))) (r131.2 2 (ix (x4 + 2))) r131.2).bind fun r132 => (d_182 249 r132.2).bind fun v133 => if v133 = r131.1 then (if ¬ r131.1 = 0 then (wb (x4 + 7) fun y134 => some (.inl (y134, r132.2))) else (if ev_in 0 (sh_n 266) = true then (if (ilg (r132.2 266 (ix 0)) r132.1) = 0 then (wb (x4 + 7) fun y135 => some (.inl (y135, r132.2))) else (some (.inr (false, r132.2)))) else none)) else (some (.inr (false, r132.2)))) else none) else none) else none) else none
theorem t_348_2232 {L nx : Nat} (hN : okn nx) {b z : Nat} (hb : 2 ≤ b) (hz : 12 ≤ z) {b0 z0 : Nat} (hb0 : b0 + 2 ≤ b + 4) (hz0 : z0 + 12 ≤ z + 24) {m : Mm} (h0 : ok nx 2 99) (h1 : ok nx 20 10) (h2 : ok nx 249 11) (h3 : ok nx 266 102) {x4 : Int32} {o5 : Option Value} {o6 : Option Value} {o7 : Option Value} {o8 : Option Value} : Im (d_348_2232 L x4 m) (kM (wZ L nx) (fun b z => E_348_23 L nx b z) b0 z0) (ev_dn b z 348 2232 [some (.ref 2), some (.ref 20), some (.ref 249), some (.ref 266), some (.int x4), o5, o6, o7, o8] [] (nx, mem L nx m)) := by
  unfold d_348_2232
  refine i_bl (pc' := 2238) [(.aload_n 1, 1), (.aload_n 0, 1), (.iload 4, 2), (.iconst 1, 1), (.iadd, 1)] [some (.ref 2), some (.ref 20), some (.ref 249), some (.ref 266), some (.int x4), o5, o6, o7, o8] [.int (x4 + 1), .ref 2, .ref 20] (by decide +kernel) rfl ?_
  refine i_aS (pc' := 2239) L (by decide +kernel) rfl h0 ?_
  refine i_bl (pc' := 2244) [(.aload_n 0, 1), (.iload 4, 2), (.iconst 2, 1), (.iadd, 1)] [some (.ref 2), some (.ref 20), some (.ref 249), some (.ref 266), some (.int x4), o5, o6, o7, o8] [.int (x4 + 2), .ref 2, .int (m 2 (ix (x4 + 1))), .ref 20] (by decide +kernel) rfl ?_
  refine i_aS (pc' := 2245) L (by decide +kernel) rfl h0 ?_
  refine i_bl (pc' := 2246) [(.aload_n 3, 1)] [some (.ref 2), some (.ref 20), some (.ref 249), some (.ref 266), some (.int x4), o5, o6, o7, o8] [.ref 266, .int (m 2 (ix (x4 + 2))), .int (m 2 (ix (x4 + 1))), .ref 20] (by decide +kernel) rfl ?_
  refine i_ck (k1 := 2) (k2 := 12) (t := 334) (na := 4) (ml := 5) (idx := 241) (pc' := 2249) (st' := []) (en := [some (.ref 20), some (.int (m 2 (ix (x4 + 1)))), some (.int (m 2 (ix (x4 + 2)))), some (.ref 266), none]) (av := [.ref 20, .int (m 2 (ix (x4 + 1))), .int (m 2 (ix (x4 + 2))), .ref 266]) (vo := fun v => some (.int v.1)) (mo := fun v => v.2) (s2 := fun v => .int v.1 :: []) (by decide +kernel) ⟨rfl, rfl, rfl, rfl, rfl, rfl⟩ ⟨by omega, by omega⟩ (fun _ => rfl) (t_334 hN (b := 2) (z := 12) (by decide) (by decide) (h0 := h1) (h3 := h3)) (fun r131 => ?_)
  refine i_bl (pc' := 2257) [(.istore 5, 2), (.aload_n 2, 1), (.aload_n 0, 1), (.iload 4, 2), (.iconst 1, 1), (.iadd, 1)] [some (.ref 2), some (.ref 20), some (.ref 249), some (.ref 266), some (.int x4), some (.int r131.1), o6, o7, o8] [.int (x4 + 1), .ref 2, .ref 249] (by decide +kernel) rfl ?_
  refine i_aS (pc' := 2258) L (by decide +kernel) rfl h0 ?_
  refine i_bl (pc' := 2263) [(.aload_n 0, 1), (.iload 4, 2), (.iconst 2, 1), (.iadd, 1)] [some (.ref 2), some (.ref 20), some (.ref 249), some (.ref 266), some (.int x4), some (.int r131.1), o6, o7, o8] [.int (x4 + 2), .ref 2, .int (r131.2 2 (ix (x4 + 1))), .ref 249] (by decide +kernel) rfl ?_
  refine i_aS (pc' := 2264) L (by decide +kernel) rfl h0 ?_
  refine i_cv (ci := 11) (t := 270) (na := 3) (ml := 3) (idx := 243) (pc' := 2267) (st' := []) (en := [some (.ref 249), some (.int (r131.2 2 (ix (x4 + 1)))), some (.int (r131.2 2 (ix (x4 + 2))))]) (av := [.int (r131.2 2 (ix (x4 + 1))), .int (r131.2 2 (ix (x4 + 2)))]) (vo := fun v => some (.int v.1)) (mo := fun v => v.2) (s2 := fun v => .int v.1 :: []) (by decide +kernel) (by decide +kernel) h2 ⟨rfl, rfl, rfl, rfl, rfl, rfl⟩ (fun _ => rfl) (t_270 hN (h0 := h2)) (fun r132 => ?_)
  refine i_bl (pc' := 2270) [(.istore 6, 2), (.aload_n 2, 1)] [some (.ref 2), some (.ref 20), some (.ref 249), some (.ref 266), some (.int x4), some (.int r131.1), some (.int r132.1), o7, o8] [.ref 249] (by decide +kernel) rfl ?_
  refine i_cv (ci := 11) (t := 182) (na := 1) (ml := 1) (idx := 167) (pc' := 2273) (st' := []) (en := [some (.ref 249)]) (av := []) (vo := fun v => some (.int v)) (mo := fun _ => r132.2) (s2 := fun v => .int v :: []) (by decide +kernel) (by decide +kernel) h2 ⟨rfl, rfl, rfl, rfl, rfl, rfl⟩ (fun _ => rfl) (t_182 hN (h0 := h2)) (fun v133 => ?_)
  refine i_bl (pc' := 2275) [(.iload 5, 2)] [some (.ref 2), some (.ref 20), some (.ref 249), some (.ref 266), some (.int x4), some (.int r131.1), some (.int r132.1), o7, o8] [.int r131.1, .int v133] (by decide +kernel) rfl ?_
  refine i_ic (c := .eq) (off := 5) (t := 2280) (pc' := 2278) (p := v133 = r131.1) (by decide +kernel) rfl ?_ ?_
  · refine i_bl (pc' := 2282) [(.iload 5, 2)] [some (.ref 2), some (.ref 20), some (.ref 249), some (.ref 266), some (.int x4), some (.int r131.1), some (.int r132.1), o7, o8] [.int r131.1] (by decide +kernel) rfl ?_
    refine i_if (c := .ne) (off := 15) (t := 2297) (pc' := 2285) (p := ¬ r131.1 = 0) (by decide +kernel) rfl ?_ ?_
    · refine i_go (t := 3271) (off := 974) (by decide +kernel) ?_
      refine i_bl (pc' := 3274) [(.iinc 4 (7), 3)] [some (.ref 2), some (.ref 20), some (.ref 249), some (.ref 266), some (.int (x4 + 7)), some (.int r131.1), some (.int r132.1), o7, o8] [] (by decide +kernel) rfl ?_
      refine i_wb (fun y134 => ev_dn (b - 2) (z - 12) 348 3274 [some (.ref 2), some (.ref 20), some (.ref 249), some (.ref 266), some (.int y134), some (.int r131.1), some (.int r132.1), o7, o8] [] (nx, mem L nx r132.2)) (fun y134 => ?_)
      refine i_go (t := 23) (off := -3251) (by decide +kernel) ?_
      exact i_cL (some (.int r131.1), some (.int r132.1), o7, o8) (b - 2) (z - 12) (by omega) (by omega) rfl
    · refine i_bl (pc' := 2287) [(.aload_n 3, 1), (.iconst 0, 1)] [some (.ref 2), some (.ref 20), some (.ref 249), some (.ref 266), some (.int x4), some (.int r131.1), some (.int r132.1), o7, o8] [.int 0, .ref 266] (by decide +kernel) rfl ?_
      refine i_ll (pc' := 2288) (by decide +kernel) h3 ?_
      refine i_bl (pc' := 2291) [(.iload 6, 2), (.i2l, 1)] [some (.ref 2), some (.ref 20), some (.ref 249), some (.ref 266), some (.int x4), some (.int r131.1), some (.int r132.1), o7, o8] [.long r132.1.toInt64, .long (r132.2 266 (ix 0)).toInt64] (by decide +kernel) rfl ?_
      refine i_lcm (x := (r132.2 266 (ix 0))) (y := r132.1) (pc' := 2292) (by decide +kernel) ?_
      refine i_if (c := .eq) (off := 5) (t := 2297) (pc' := 2295) (p := (ilg (r132.2 266 (ix 0)) r132.1) = 0) (by decide +kernel) rfl ?_ ?_
      · refine i_go (t := 3271) (off := 974) (by decide +kernel) ?_
        refine i_bl (pc' := 3274) [(.iinc 4 (7), 3)] [some (.ref 2), some (.ref 20), some (.ref 249), some (.ref 266), some (.int (x4 + 7)), some (.int r131.1), some (.int r132.1), o7, o8] [] (by decide +kernel) rfl ?_
        refine i_wb (fun y135 => ev_dn (b - 2) (z - 12) 348 3274 [some (.ref 2), some (.ref 20), some (.ref 249), some (.ref 266), some (.int y135), some (.int r131.1), some (.int r132.1), o7, o8] [] (nx, mem L nx r132.2)) (fun y135 => ?_)
        refine i_go (t := 23) (off := -3251) (by decide +kernel) ?_
        exact i_cL (some (.int r131.1), some (.int r132.1), o7, o8) (b - 2) (z - 12) (by omega) (by omega) rfl
      · refine i_bl (pc' := 2296) [(.iconst 0, 1)] [some (.ref 2), some (.ref 20), some (.ref 249), some (.ref 266), some (.int x4), some (.int r131.1), some (.int r132.1), o7, o8] [.int 0] (by decide +kernel) rfl ?_
        exact i_iM (i_rz (B := false) (by decide +kernel) rfl)
  · refine i_bl (pc' := 2279) [(.iconst 0, 1)] [some (.ref 2), some (.ref 20), some (.ref 249), some (.ref 266), some (.int x4), some (.int r131.1), some (.int r132.1), o7, o8] [.int 0] (by decide +kernel) rfl ?_
    exact i_iM (i_rz (B := false) (by decide +kernel) rfl)

noncomputable def d_348_2300 (L : Nat) (x4 : Int32) (m : Mm) : Option ((Int32 × Mm) ⊕ (Bool × Mm)) := if ev_in (x4 + 1) L = true then (if ev_in (x4 + 2) L = true then ((d_335 20 (m 2 (ix (x4 + 1))) (m 2 (ix (x4 + 2))) 266 m).bind fun r136 => if ev_in (x4 + 1) L = true then (if ev_in (x4 + 2) L = true then ((d_271 249 (r136.2 2 (ix (x4 + 1))) (r136.2 2 (ix (x4 + 2))) r136.2).bind fun r137 => (d_182 249 r137.2).bind fun v138 => if v138 = r136.1 then (if ¬ r136.1 = 0 then (wb (x4 + 7) fun y139 => some (.inl (y139, r137.2))) else (if ev_in 0 (sh_n 266) = true then (if (ilg (r137.2 266 (ix 0)) r137.1) = 0 then (wb (x4 + 7) fun y140 => some (.inl (y140, r137.2))) else (some (.inr (false, r137.2)))) else none)) else (some (.inr (false, r137.2)))) else none) else none) else none) else none
theorem t_348_2300 {L nx : Nat} (hN : okn nx) {b z : Nat} (hb : 2 ≤ b) (hz : 12 ≤ z) {b0 z0 : Nat} (hb0 : b0 + 2 ≤ b + 4) (hz0 : z0 + 12 ≤ z + 24) {m : Mm} (h0 : ok nx 2 99) (h1 : ok nx 20 10) (h2 : ok nx 249 11) (h3 : ok nx 266 102) {x4 : Int32} {o5 : Option Value} {o6 : Option Value} {o7 : Option Value} {o8 : Option Value} : Im (d_348_2300 L x4 m) (kM (wZ L nx) (fun b z => E_348_23 L nx b z) b0 z0) (ev_dn b z 348 2300 [some (.ref 2), some (.ref 20), some (.ref 249), some (.ref 266), some (.int x4), o5, o6, o7, o8] [] (nx, mem L nx m)) := by
  unfold d_348_2300
  refine i_bl (pc' := 2306) [(.aload_n 1, 1), (.aload_n 0, 1), (.iload 4, 2), (.iconst 1, 1), (.iadd, 1)] [some (.ref 2), some (.ref 20), some (.ref 249), some (.ref 266), some (.int x4), o5, o6, o7, o8] [.int (x4 + 1), .ref 2, .ref 20] (by decide +kernel) rfl ?_
  refine i_aS (pc' := 2307) L (by decide +kernel) rfl h0 ?_
  refine i_bl (pc' := 2312) [(.aload_n 0, 1), (.iload 4, 2), (.iconst 2, 1), (.iadd, 1)] [some (.ref 2), some (.ref 20), some (.ref 249), some (.ref 266), some (.int x4), o5, o6, o7, o8] [.int (x4 + 2), .ref 2, .int (m 2 (ix (x4 + 1))), .ref 20] (by decide +kernel) rfl ?_
  refine i_aS (pc' := 2313) L (by decide +kernel) rfl h0 ?_
  refine i_bl (pc' := 2314) [(.aload_n 3, 1)] [some (.ref 2), some (.ref 20), some (.ref 249), some (.ref 266), some (.int x4), o5, o6, o7, o8] [.ref 266, .int (m 2 (ix (x4 + 2))), .int (m 2 (ix (x4 + 1))), .ref 20] (by decide +kernel) rfl ?_
  refine i_ck (k1 := 2) (k2 := 12) (t := 335) (na := 4) (ml := 5) (idx := 244) (pc' := 2317) (st' := []) (en := [some (.ref 20), some (.int (m 2 (ix (x4 + 1)))), some (.int (m 2 (ix (x4 + 2)))), some (.ref 266), none]) (av := [.ref 20, .int (m 2 (ix (x4 + 1))), .int (m 2 (ix (x4 + 2))), .ref 266]) (vo := fun v => some (.int v.1)) (mo := fun v => v.2) (s2 := fun v => .int v.1 :: []) (by decide +kernel) ⟨rfl, rfl, rfl, rfl, rfl, rfl⟩ ⟨by omega, by omega⟩ (fun _ => rfl) (t_335 hN (b := 2) (z := 12) (by decide) (by decide) (h0 := h1) (h3 := h3)) (fun r136 => ?_)
  refine i_bl (pc' := 2325) [(.istore 5, 2), (.aload_n 2, 1), (.aload_n 0, 1), (.iload 4, 2), (.iconst 1, 1), (.iadd, 1)] [some (.ref 2), some (.ref 20), some (.ref 249), some (.ref 266), some (.int x4), some (.int r136.1), o6, o7, o8] [.int (x4 + 1), .ref 2, .ref 249] (by decide +kernel) rfl ?_
  refine i_aS (pc' := 2326) L (by decide +kernel) rfl h0 ?_
  refine i_bl (pc' := 2331) [(.aload_n 0, 1), (.iload 4, 2), (.iconst 2, 1), (.iadd, 1)] [some (.ref 2), some (.ref 20), some (.ref 249), some (.ref 266), some (.int x4), some (.int r136.1), o6, o7, o8] [.int (x4 + 2), .ref 2, .int (r136.2 2 (ix (x4 + 1))), .ref 249] (by decide +kernel) rfl ?_
  refine i_aS (pc' := 2332) L (by decide +kernel) rfl h0 ?_
  refine i_cv (ci := 11) (t := 271) (na := 3) (ml := 3) (idx := 246) (pc' := 2335) (st' := []) (en := [some (.ref 249), some (.int (r136.2 2 (ix (x4 + 1)))), some (.int (r136.2 2 (ix (x4 + 2))))]) (av := [.int (r136.2 2 (ix (x4 + 1))), .int (r136.2 2 (ix (x4 + 2)))]) (vo := fun v => some (.int v.1)) (mo := fun v => v.2) (s2 := fun v => .int v.1 :: []) (by decide +kernel) (by decide +kernel) h2 ⟨rfl, rfl, rfl, rfl, rfl, rfl⟩ (fun _ => rfl) (t_271 hN (h0 := h2)) (fun r137 => ?_)
  refine i_bl (pc' := 2338) [(.istore 6, 2), (.aload_n 2, 1)] [some (.ref 2), some (.ref 20), some (.ref 249), some (.ref 266), some (.int x4), some (.int r136.1), some (.int r137.1), o7, o8] [.ref 249] (by decide +kernel) rfl ?_
  refine i_cv (ci := 11) (t := 182) (na := 1) (ml := 1) (idx := 167) (pc' := 2341) (st' := []) (en := [some (.ref 249)]) (av := []) (vo := fun v => some (.int v)) (mo := fun _ => r137.2) (s2 := fun v => .int v :: []) (by decide +kernel) (by decide +kernel) h2 ⟨rfl, rfl, rfl, rfl, rfl, rfl⟩ (fun _ => rfl) (t_182 hN (h0 := h2)) (fun v138 => ?_)
  refine i_bl (pc' := 2343) [(.iload 5, 2)] [some (.ref 2), some (.ref 20), some (.ref 249), some (.ref 266), some (.int x4), some (.int r136.1), some (.int r137.1), o7, o8] [.int r136.1, .int v138] (by decide +kernel) rfl ?_
  refine i_ic (c := .eq) (off := 5) (t := 2348) (pc' := 2346) (p := v138 = r136.1) (by decide +kernel) rfl ?_ ?_
  · refine i_bl (pc' := 2350) [(.iload 5, 2)] [some (.ref 2), some (.ref 20), some (.ref 249), some (.ref 266), some (.int x4), some (.int r136.1), some (.int r137.1), o7, o8] [.int r136.1] (by decide +kernel) rfl ?_
    refine i_if (c := .ne) (off := 15) (t := 2365) (pc' := 2353) (p := ¬ r136.1 = 0) (by decide +kernel) rfl ?_ ?_
    · refine i_go (t := 3271) (off := 906) (by decide +kernel) ?_
      refine i_bl (pc' := 3274) [(.iinc 4 (7), 3)] [some (.ref 2), some (.ref 20), some (.ref 249), some (.ref 266), some (.int (x4 + 7)), some (.int r136.1), some (.int r137.1), o7, o8] [] (by decide +kernel) rfl ?_
      refine i_wb (fun y139 => ev_dn (b - 2) (z - 12) 348 3274 [some (.ref 2), some (.ref 20), some (.ref 249), some (.ref 266), some (.int y139), some (.int r136.1), some (.int r137.1), o7, o8] [] (nx, mem L nx r137.2)) (fun y139 => ?_)
      refine i_go (t := 23) (off := -3251) (by decide +kernel) ?_
      exact i_cL (some (.int r136.1), some (.int r137.1), o7, o8) (b - 2) (z - 12) (by omega) (by omega) rfl
    · refine i_bl (pc' := 2355) [(.aload_n 3, 1), (.iconst 0, 1)] [some (.ref 2), some (.ref 20), some (.ref 249), some (.ref 266), some (.int x4), some (.int r136.1), some (.int r137.1), o7, o8] [.int 0, .ref 266] (by decide +kernel) rfl ?_
      refine i_ll (pc' := 2356) (by decide +kernel) h3 ?_
      refine i_bl (pc' := 2359) [(.iload 6, 2), (.i2l, 1)] [some (.ref 2), some (.ref 20), some (.ref 249), some (.ref 266), some (.int x4), some (.int r136.1), some (.int r137.1), o7, o8] [.long r137.1.toInt64, .long (r137.2 266 (ix 0)).toInt64] (by decide +kernel) rfl ?_
      refine i_lcm (x := (r137.2 266 (ix 0))) (y := r137.1) (pc' := 2360) (by decide +kernel) ?_
      refine i_if (c := .eq) (off := 5) (t := 2365) (pc' := 2363) (p := (ilg (r137.2 266 (ix 0)) r137.1) = 0) (by decide +kernel) rfl ?_ ?_
      · refine i_go (t := 3271) (off := 906) (by decide +kernel) ?_
        refine i_bl (pc' := 3274) [(.iinc 4 (7), 3)] [some (.ref 2), some (.ref 20), some (.ref 249), some (.ref 266), some (.int (x4 + 7)), some (.int r136.1), some (.int r137.1), o7, o8] [] (by decide +kernel) rfl ?_
        refine i_wb (fun y140 => ev_dn (b - 2) (z - 12) 348 3274 [some (.ref 2), some (.ref 20), some (.ref 249), some (.ref 266), some (.int y140), some (.int r136.1), some (.int r137.1), o7, o8] [] (nx, mem L nx r137.2)) (fun y140 => ?_)
        refine i_go (t := 23) (off := -3251) (by decide +kernel) ?_
        exact i_cL (some (.int r136.1), some (.int r137.1), o7, o8) (b - 2) (z - 12) (by omega) (by omega) rfl
      · refine i_bl (pc' := 2364) [(.iconst 0, 1)] [some (.ref 2), some (.ref 20), some (.ref 249), some (.ref 266), some (.int x4), some (.int r136.1), some (.int r137.1), o7, o8] [.int 0] (by decide +kernel) rfl ?_
        exact i_iM (i_rz (B := false) (by decide +kernel) rfl)
  · refine i_bl (pc' := 2347) [(.iconst 0, 1)] [some (.ref 2), some (.ref 20), some (.ref 249), some (.ref 266), some (.int x4), some (.int r136.1), some (.int r137.1), o7, o8] [.int 0] (by decide +kernel) rfl ?_
    exact i_iM (i_rz (B := false) (by decide +kernel) rfl)

noncomputable def d_348_2368 (L : Nat) (x4 : Int32) (m : Mm) : Option ((Int32 × Mm) ⊕ (Bool × Mm)) := (d_152 20 m).bind fun v141 => (d_272 249 m).bind fun r142 => if (Op.cmpValue (FP.dcmp v141 r142.1) .l) = 0 then (wb (x4 + 7) fun y143 => some (.inl (y143, r142.2))) else (if (Op.cmpValue (FP.dcmp v141 v141) .l) = 0 then (some (.inr (false, r142.2))) else (if ¬ (Op.cmpValue (FP.dcmp r142.1 r142.1) .l) = 0 then (wb (x4 + 7) fun y144 => some (.inl (y144, r142.2))) else (some (.inr (false, r142.2)))))
theorem t_348_2368 {L nx : Nat} (hN : okn nx) {b z : Nat} {b0 z0 : Nat} (hb0 : b0 + 0 ≤ b + 4) (hz0 : z0 + 0 ≤ z + 24) {m : Mm} (h0 : ok nx 2 99) (h1 : ok nx 20 10) (h2 : ok nx 249 11) (h3 : ok nx 266 102) {x4 : Int32} {o5 : Option Value} {o6 : Option Value} {o7 : Option Value} {o8 : Option Value} : Im (d_348_2368 L x4 m) (kM (wZ L nx) (fun b z => E_348_23 L nx b z) b0 z0) (ev_dn b z 348 2368 [some (.ref 2), some (.ref 20), some (.ref 249), some (.ref 266), some (.int x4), o5, o6, o7, o8] [] (nx, mem L nx m)) := by
  unfold d_348_2368
  refine i_bl (pc' := 2369) [(.aload_n 1, 1)] [some (.ref 2), some (.ref 20), some (.ref 249), some (.ref 266), some (.int x4), o5, o6, o7, o8] [.ref 20] (by decide +kernel) rfl ?_
  refine i_cv (ci := 10) (t := 152) (na := 1) (ml := 2) (idx := 247) (pc' := 2372) (st' := []) (en := [some (.ref 20), none]) (av := []) (vo := fun v => some (.double v)) (mo := fun _ => m) (s2 := fun v => .double v :: []) (by decide +kernel) (by decide +kernel) h1 ⟨rfl, rfl, rfl, rfl, rfl, rfl⟩ (fun _ => rfl) (t_152 hN (h0 := h1)) (fun v141 => ?_)
  refine i_bl (pc' := 2375) [(.dstore 5, 2), (.aload_n 2, 1)] [some (.ref 2), some (.ref 20), some (.ref 249), some (.ref 266), some (.int x4), some (.double v141), none, o7, o8] [.ref 249] (by decide +kernel) rfl ?_
  refine i_cv (ci := 11) (t := 272) (na := 1) (ml := 3) (idx := 251) (pc' := 2378) (st' := []) (en := [some (.ref 249), none, none]) (av := []) (vo := fun v => some (.double v.1)) (mo := fun v => v.2) (s2 := fun v => .double v.1 :: []) (by decide +kernel) (by decide +kernel) h2 ⟨rfl, rfl, rfl, rfl, rfl, rfl⟩ (fun _ => rfl) (t_272 hN (h0 := h2)) (fun r142 => ?_)
  refine i_bl (pc' := 2385) [(.dstore 7, 2), (.dload 5, 2), (.dload 7, 2), (.dcmp .l, 1)] [some (.ref 2), some (.ref 20), some (.ref 249), some (.ref 266), some (.int x4), some (.double v141), none, some (.double r142.1), none] [.int (Op.cmpValue (FP.dcmp v141 r142.1) .l)] (by decide +kernel) rfl ?_
  refine i_if (c := .eq) (off := 21) (t := 2406) (pc' := 2388) (p := (Op.cmpValue (FP.dcmp v141 r142.1) .l) = 0) (by decide +kernel) rfl ?_ ?_
  · refine i_go (t := 3271) (off := 865) (by decide +kernel) ?_
    refine i_bl (pc' := 3274) [(.iinc 4 (7), 3)] [some (.ref 2), some (.ref 20), some (.ref 249), some (.ref 266), some (.int (x4 + 7)), some (.double v141), none, some (.double r142.1), none] [] (by decide +kernel) rfl ?_
    refine i_wb (fun y143 => ev_dn b z 348 3274 [some (.ref 2), some (.ref 20), some (.ref 249), some (.ref 266), some (.int y143), some (.double v141), none, some (.double r142.1), none] [] (nx, mem L nx r142.2)) (fun y143 => ?_)
    refine i_go (t := 23) (off := -3251) (by decide +kernel) ?_
    exact i_cL (some (.double v141), none, some (.double r142.1), none) b z (by omega) (by omega) rfl
  · refine i_bl (pc' := 2393) [(.dload 5, 2), (.dload 5, 2), (.dcmp .l, 1)] [some (.ref 2), some (.ref 20), some (.ref 249), some (.ref 266), some (.int x4), some (.double v141), none, some (.double r142.1), none] [.int (Op.cmpValue (FP.dcmp v141 v141) .l)] (by decide +kernel) rfl ?_
    refine i_if (c := .eq) (off := 11) (t := 2404) (pc' := 2396) (p := (Op.cmpValue (FP.dcmp v141 v141) .l) = 0) (by decide +kernel) rfl ?_ ?_
    · refine i_bl (pc' := 2405) [(.iconst 0, 1)] [some (.ref 2), some (.ref 20), some (.ref 249), some (.ref 266), some (.int x4), some (.double v141), none, some (.double r142.1), none] [.int 0] (by decide +kernel) rfl ?_
      exact i_iM (i_rz (B := false) (by decide +kernel) rfl)
    · refine i_bl (pc' := 2401) [(.dload 7, 2), (.dload 7, 2), (.dcmp .l, 1)] [some (.ref 2), some (.ref 20), some (.ref 249), some (.ref 266), some (.int x4), some (.double v141), none, some (.double r142.1), none] [.int (Op.cmpValue (FP.dcmp r142.1 r142.1) .l)] (by decide +kernel) rfl ?_
      refine i_if (c := .ne) (off := 5) (t := 2406) (pc' := 2404) (p := ¬ (Op.cmpValue (FP.dcmp r142.1 r142.1) .l) = 0) (by decide +kernel) rfl ?_ ?_
      · refine i_go (t := 3271) (off := 865) (by decide +kernel) ?_
        refine i_bl (pc' := 3274) [(.iinc 4 (7), 3)] [some (.ref 2), some (.ref 20), some (.ref 249), some (.ref 266), some (.int (x4 + 7)), some (.double v141), none, some (.double r142.1), none] [] (by decide +kernel) rfl ?_
        refine i_wb (fun y144 => ev_dn b z 348 3274 [some (.ref 2), some (.ref 20), some (.ref 249), some (.ref 266), some (.int y144), some (.double v141), none, some (.double r142.1), none] [] (nx, mem L nx r142.2)) (fun y144 => ?_)
        refine i_go (t := 23) (off := -3251) (by decide +kernel) ?_
        exact i_cL (some (.double v141), none, some (.double r142.1), none) b z (by omega) (by omega) rfl
      · refine i_bl (pc' := 2405) [(.iconst 0, 1)] [some (.ref 2), some (.ref 20), some (.ref 249), some (.ref 266), some (.int x4), some (.double v141), none, some (.double r142.1), none] [.int 0] (by decide +kernel) rfl ?_
        exact i_iM (i_rz (B := false) (by decide +kernel) rfl)

noncomputable def d_348_2409 (L : Nat) (x4 : Int32) (m : Mm) : Option ((Int32 × Mm) ⊕ (Bool × Mm)) := (d_153 20 m).bind fun v145 => if (FP.f2d v145) &&& 0x7fffffffffffffff ≤ 0x7ff0000000000000 then (wb (FP.f2d v145) fun y146 => (d_273 249 m).bind fun r147 => if (FP.f2d r147.1) &&& 0x7fffffffffffffff ≤ 0x7ff0000000000000 then (wb (FP.f2d r147.1) fun y148 => if (Op.cmpValue (FP.dcmp y146 y148) .l) = 0 then (wb (x4 + 7) fun y149 => some (.inl (y149, r147.2))) else (if (Op.cmpValue (FP.dcmp y146 y146) .l) = 0 then (some (.inr (false, r147.2))) else (if ¬ (Op.cmpValue (FP.dcmp y148 y148) .l) = 0 then (wb (x4 + 7) fun y150 => some (.inl (y150, r147.2))) else (some (.inr (false, r147.2)))))) else none) else none
theorem t_348_2409 {L nx : Nat} (hN : okn nx) {b z : Nat} {b0 z0 : Nat} (hb0 : b0 + 0 ≤ b + 4) (hz0 : z0 + 0 ≤ z + 24) {m : Mm} (h0 : ok nx 2 99) (h1 : ok nx 20 10) (h2 : ok nx 249 11) (h3 : ok nx 266 102) {x4 : Int32} {o5 : Option Value} {o6 : Option Value} {o7 : Option Value} {o8 : Option Value} : Im (d_348_2409 L x4 m) (kM (wZ L nx) (fun b z => E_348_23 L nx b z) b0 z0) (ev_dn b z 348 2409 [some (.ref 2), some (.ref 20), some (.ref 249), some (.ref 266), some (.int x4), o5, o6, o7, o8] [] (nx, mem L nx m)) := by
  unfold d_348_2409
  refine i_bl (pc' := 2410) [(.aload_n 1, 1)] [some (.ref 2), some (.ref 20), some (.ref 249), some (.ref 266), some (.int x4), o5, o6, o7, o8] [.ref 20] (by decide +kernel) rfl ?_
  refine i_cv (ci := 10) (t := 153) (na := 1) (ml := 4) (idx := 252) (pc' := 2413) (st' := []) (en := [some (.ref 20), none, none, none]) (av := []) (vo := fun v => some (.float v)) (mo := fun _ => m) (s2 := fun v => .float v :: []) (by decide +kernel) (by decide +kernel) h1 ⟨rfl, rfl, rfl, rfl, rfl, rfl⟩ (fun _ => rfl) (t_153 hN (h0 := h1)) (fun v145 => ?_)
  refine i_f2d (pc' := 2414) (by decide +kernel) ?_
  refine i_bl (pc' := 2416) [(.dstore 5, 2)] [some (.ref 2), some (.ref 20), some (.ref 249), some (.ref 266), some (.int x4), some (.double (FP.f2d v145)), none, o7, o8] [] (by decide +kernel) rfl ?_
  refine i_wb (fun y146 => ev_dn b z 348 2416 [some (.ref 2), some (.ref 20), some (.ref 249), some (.ref 266), some (.int x4), some (.double y146), none, o7, o8] [] (nx, mem L nx m)) (fun y146 => ?_)
  refine i_bl (pc' := 2417) [(.aload_n 2, 1)] [some (.ref 2), some (.ref 20), some (.ref 249), some (.ref 266), some (.int x4), some (.double y146), none, o7, o8] [.ref 249] (by decide +kernel) rfl ?_
  refine i_cv (ci := 11) (t := 273) (na := 1) (ml := 5) (idx := 256) (pc' := 2420) (st' := []) (en := [some (.ref 249), none, none, none, none]) (av := []) (vo := fun v => some (.float v.1)) (mo := fun v => v.2) (s2 := fun v => .float v.1 :: []) (by decide +kernel) (by decide +kernel) h2 ⟨rfl, rfl, rfl, rfl, rfl, rfl⟩ (fun _ => rfl) (t_273 hN (h0 := h2)) (fun r147 => ?_)
  refine i_f2d (pc' := 2421) (by decide +kernel) ?_
  refine i_bl (pc' := 2423) [(.dstore 7, 2)] [some (.ref 2), some (.ref 20), some (.ref 249), some (.ref 266), some (.int x4), some (.double y146), none, some (.double (FP.f2d r147.1)), none] [] (by decide +kernel) rfl ?_
  refine i_wb (fun y148 => ev_dn b z 348 2423 [some (.ref 2), some (.ref 20), some (.ref 249), some (.ref 266), some (.int x4), some (.double y146), none, some (.double y148), none] [] (nx, mem L nx r147.2)) (fun y148 => ?_)
  refine i_bl (pc' := 2428) [(.dload 5, 2), (.dload 7, 2), (.dcmp .l, 1)] [some (.ref 2), some (.ref 20), some (.ref 249), some (.ref 266), some (.int x4), some (.double y146), none, some (.double y148), none] [.int (Op.cmpValue (FP.dcmp y146 y148) .l)] (by decide +kernel) rfl ?_
  refine i_if (c := .eq) (off := 21) (t := 2449) (pc' := 2431) (p := (Op.cmpValue (FP.dcmp y146 y148) .l) = 0) (by decide +kernel) rfl ?_ ?_
  · refine i_go (t := 3271) (off := 822) (by decide +kernel) ?_
    refine i_bl (pc' := 3274) [(.iinc 4 (7), 3)] [some (.ref 2), some (.ref 20), some (.ref 249), some (.ref 266), some (.int (x4 + 7)), some (.double y146), none, some (.double y148), none] [] (by decide +kernel) rfl ?_
    refine i_wb (fun y149 => ev_dn b z 348 3274 [some (.ref 2), some (.ref 20), some (.ref 249), some (.ref 266), some (.int y149), some (.double y146), none, some (.double y148), none] [] (nx, mem L nx r147.2)) (fun y149 => ?_)
    refine i_go (t := 23) (off := -3251) (by decide +kernel) ?_
    exact i_cL (some (.double y146), none, some (.double y148), none) b z (by omega) (by omega) rfl
  · refine i_bl (pc' := 2436) [(.dload 5, 2), (.dload 5, 2), (.dcmp .l, 1)] [some (.ref 2), some (.ref 20), some (.ref 249), some (.ref 266), some (.int x4), some (.double y146), none, some (.double y148), none] [.int (Op.cmpValue (FP.dcmp y146 y146) .l)] (by decide +kernel) rfl ?_
    refine i_if (c := .eq) (off := 11) (t := 2447) (pc' := 2439) (p := (Op.cmpValue (FP.dcmp y146 y146) .l) = 0) (by decide +kernel) rfl ?_ ?_
    · refine i_bl (pc' := 2448) [(.iconst 0, 1)] [some (.ref 2), some (.ref 20), some (.ref 249), some (.ref 266), some (.int x4), some (.double y146), none, some (.double y148), none] [.int 0] (by decide +kernel) rfl ?_
      exact i_iM (i_rz (B := false) (by decide +kernel) rfl)
    · refine i_bl (pc' := 2444) [(.dload 7, 2), (.dload 7, 2), (.dcmp .l, 1)] [some (.ref 2), some (.ref 20), some (.ref 249), some (.ref 266), some (.int x4), some (.double y146), none, some (.double y148), none] [.int (Op.cmpValue (FP.dcmp y148 y148) .l)] (by decide +kernel) rfl ?_
      refine i_if (c := .ne) (off := 5) (t := 2449) (pc' := 2447) (p := ¬ (Op.cmpValue (FP.dcmp y148 y148) .l) = 0) (by decide +kernel) rfl ?_ ?_
      · refine i_go (t := 3271) (off := 822) (by decide +kernel) ?_
        refine i_bl (pc' := 3274) [(.iinc 4 (7), 3)] [some (.ref 2), some (.ref 20), some (.ref 249), some (.ref 266), some (.int (x4 + 7)), some (.double y146), none, some (.double y148), none] [] (by decide +kernel) rfl ?_
        refine i_wb (fun y150 => ev_dn b z 348 3274 [some (.ref 2), some (.ref 20), some (.ref 249), some (.ref 266), some (.int y150), some (.double y146), none, some (.double y148), none] [] (nx, mem L nx r147.2)) (fun y150 => ?_)
        refine i_go (t := 23) (off := -3251) (by decide +kernel) ?_
        exact i_cL (some (.double y146), none, some (.double y148), none) b z (by omega) (by omega) rfl
      · refine i_bl (pc' := 2448) [(.iconst 0, 1)] [some (.ref 2), some (.ref 20), some (.ref 249), some (.ref 266), some (.int x4), some (.double y146), none, some (.double y148), none] [.int 0] (by decide +kernel) rfl ?_
        exact i_iM (i_rz (B := false) (by decide +kernel) rfl)

noncomputable def d_348_2452 (L : Nat) (x4 : Int32) (m : Mm) : Option ((Int32 × Mm) ⊕ (Bool × Mm)) := if ev_in (x4 + 1) L = true then (if ev_in (x4 + 2) L = true then (if ev_in (x4 + 3) L = true then (if ev_in (x4 + 4) L = true then ((d_336 20 (m 2 (ix (x4 + 1))) (m 2 (ix (x4 + 2))) (m 2 (ix (x4 + 3))) (m 2 (ix (x4 + 4))) 266 m).bind fun r151 => if ev_in (x4 + 1) L = true then (if ev_in (x4 + 2) L = true then (if ev_in (x4 + 3) L = true then (if ev_in (x4 + 4) L = true then ((d_266 249 (r151.2 2 (ix (x4 + 1))) (r151.2 2 (ix (x4 + 2))) (r151.2 2 (ix (x4 + 3))) (r151.2 2 (ix (x4 + 4))) r151.2).bind fun r152 => (d_182 249 r152.2).bind fun v153 => if v153 = r151.1 then (if ¬ r151.1 = 0 then (wb (x4 + 7) fun y154 => some (.inl (y154, r152.2))) else (if ev_in 0 (sh_n 266) = true then (if (ilg (r152.2 266 (ix 0)) r152.1) = 0 then (wb (x4 + 7) fun y155 => some (.inl (y155, r152.2))) else (some (.inr (false, r152.2)))) else none)) else (some (.inr (false, r152.2)))) else none) else none) else none) else none) else none) else none) else none) else none
theorem t_348_2452 {L nx : Nat} (hN : okn nx) {b z : Nat} (hb : 3 ≤ b) (hz : 18 ≤ z) {b0 z0 : Nat} (hb0 : b0 + 3 ≤ b + 4) (hz0 : z0 + 18 ≤ z + 24) {m : Mm} (h0 : ok nx 2 99) (h1 : ok nx 20 10) (h2 : ok nx 249 11) (h3 : ok nx 266 102) {x4 : Int32} {o5 : Option Value} {o6 : Option Value} {o7 : Option Value} {o8 : Option Value} : Im (d_348_2452 L x4 m) (kM (wZ L nx) (fun b z => E_348_23 L nx b z) b0 z0) (ev_dn b z 348 2452 [some (.ref 2), some (.ref 20), some (.ref 249), some (.ref 266), some (.int x4), o5, o6, o7, o8] [] (nx, mem L nx m)) := by
  unfold d_348_2452
  refine i_bl (pc' := 2458) [(.aload_n 1, 1), (.aload_n 0, 1), (.iload 4, 2), (.iconst 1, 1), (.iadd, 1)] [some (.ref 2), some (.ref 20), some (.ref 249), some (.ref 266), some (.int x4), o5, o6, o7, o8] [.int (x4 + 1), .ref 2, .ref 20] (by decide +kernel) rfl ?_
  refine i_aS (pc' := 2459) L (by decide +kernel) rfl h0 ?_
  refine i_bl (pc' := 2464) [(.aload_n 0, 1), (.iload 4, 2), (.iconst 2, 1), (.iadd, 1)] [some (.ref 2), some (.ref 20), some (.ref 249), some (.ref 266), some (.int x4), o5, o6, o7, o8] [.int (x4 + 2), .ref 2, .int (m 2 (ix (x4 + 1))), .ref 20] (by decide +kernel) rfl ?_
  refine i_aS (pc' := 2465) L (by decide +kernel) rfl h0 ?_
  refine i_bl (pc' := 2470) [(.aload_n 0, 1), (.iload 4, 2), (.iconst 3, 1), (.iadd, 1)] [some (.ref 2), some (.ref 20), some (.ref 249), some (.ref 266), some (.int x4), o5, o6, o7, o8] [.int (x4 + 3), .ref 2, .int (m 2 (ix (x4 + 2))), .int (m 2 (ix (x4 + 1))), .ref 20] (by decide +kernel) rfl ?_
  refine i_aS (pc' := 2471) L (by decide +kernel) rfl h0 ?_
  refine i_bl (pc' := 2476) [(.aload_n 0, 1), (.iload 4, 2), (.iconst 4, 1), (.iadd, 1)] [some (.ref 2), some (.ref 20), some (.ref 249), some (.ref 266), some (.int x4), o5, o6, o7, o8] [.int (x4 + 4), .ref 2, .int (m 2 (ix (x4 + 3))), .int (m 2 (ix (x4 + 2))), .int (m 2 (ix (x4 + 1))), .ref 20] (by decide +kernel) rfl ?_
  refine i_aS (pc' := 2477) L (by decide +kernel) rfl h0 ?_
  refine i_bl (pc' := 2478) [(.aload_n 3, 1)] [some (.ref 2), some (.ref 20), some (.ref 249), some (.ref 266), some (.int x4), o5, o6, o7, o8] [.ref 266, .int (m 2 (ix (x4 + 4))), .int (m 2 (ix (x4 + 3))), .int (m 2 (ix (x4 + 2))), .int (m 2 (ix (x4 + 1))), .ref 20] (by decide +kernel) rfl ?_
  refine i_ck (k1 := 3) (k2 := 18) (t := 336) (na := 6) (ml := 7) (idx := 257) (pc' := 2481) (st' := []) (en := [some (.ref 20), some (.int (m 2 (ix (x4 + 1)))), some (.int (m 2 (ix (x4 + 2)))), some (.int (m 2 (ix (x4 + 3)))), some (.int (m 2 (ix (x4 + 4)))), some (.ref 266), none]) (av := [.ref 20, .int (m 2 (ix (x4 + 1))), .int (m 2 (ix (x4 + 2))), .int (m 2 (ix (x4 + 3))), .int (m 2 (ix (x4 + 4))), .ref 266]) (vo := fun v => some (.int v.1)) (mo := fun v => v.2) (s2 := fun v => .int v.1 :: []) (by decide +kernel) ⟨rfl, rfl, rfl, rfl, rfl, rfl⟩ ⟨by omega, by omega⟩ (fun _ => rfl) (t_336 hN (b := 3) (z := 18) (by decide) (by decide) (h0 := h1) (h5 := h3)) (fun r151 => ?_)
  refine i_bl (pc' := 2489) [(.istore 5, 2), (.aload_n 2, 1), (.aload_n 0, 1), (.iload 4, 2), (.iconst 1, 1), (.iadd, 1)] [some (.ref 2), some (.ref 20), some (.ref 249), some (.ref 266), some (.int x4), some (.int r151.1), o6, o7, o8] [.int (x4 + 1), .ref 2, .ref 249] (by decide +kernel) rfl ?_
  refine i_aS (pc' := 2490) L (by decide +kernel) rfl h0 ?_
  refine i_bl (pc' := 2495) [(.aload_n 0, 1), (.iload 4, 2), (.iconst 2, 1), (.iadd, 1)] [some (.ref 2), some (.ref 20), some (.ref 249), some (.ref 266), some (.int x4), some (.int r151.1), o6, o7, o8] [.int (x4 + 2), .ref 2, .int (r151.2 2 (ix (x4 + 1))), .ref 249] (by decide +kernel) rfl ?_
  refine i_aS (pc' := 2496) L (by decide +kernel) rfl h0 ?_
  refine i_bl (pc' := 2501) [(.aload_n 0, 1), (.iload 4, 2), (.iconst 3, 1), (.iadd, 1)] [some (.ref 2), some (.ref 20), some (.ref 249), some (.ref 266), some (.int x4), some (.int r151.1), o6, o7, o8] [.int (x4 + 3), .ref 2, .int (r151.2 2 (ix (x4 + 2))), .int (r151.2 2 (ix (x4 + 1))), .ref 249] (by decide +kernel) rfl ?_
  refine i_aS (pc' := 2502) L (by decide +kernel) rfl h0 ?_
  refine i_bl (pc' := 2507) [(.aload_n 0, 1), (.iload 4, 2), (.iconst 4, 1), (.iadd, 1)] [some (.ref 2), some (.ref 20), some (.ref 249), some (.ref 266), some (.int x4), some (.int r151.1), o6, o7, o8] [.int (x4 + 4), .ref 2, .int (r151.2 2 (ix (x4 + 3))), .int (r151.2 2 (ix (x4 + 2))), .int (r151.2 2 (ix (x4 + 1))), .ref 249] (by decide +kernel) rfl ?_
  refine i_aS (pc' := 2508) L (by decide +kernel) rfl h0 ?_
  refine i_cv (ci := 11) (t := 266) (na := 5) (ml := 7) (idx := 259) (pc' := 2511) (st' := []) (en := [some (.ref 249), some (.int (r151.2 2 (ix (x4 + 1)))), some (.int (r151.2 2 (ix (x4 + 2)))), some (.int (r151.2 2 (ix (x4 + 3)))), some (.int (r151.2 2 (ix (x4 + 4)))), none, none]) (av := [.int (r151.2 2 (ix (x4 + 1))), .int (r151.2 2 (ix (x4 + 2))), .int (r151.2 2 (ix (x4 + 3))), .int (r151.2 2 (ix (x4 + 4)))]) (vo := fun v => some (.int v.1)) (mo := fun v => v.2) (s2 := fun v => .int v.1 :: []) (by decide +kernel) (by decide +kernel) h2 ⟨rfl, rfl, rfl, rfl, rfl, rfl⟩ (fun _ => rfl) (t_266 hN (h0 := h2)) (fun r152 => ?_)
  refine i_bl (pc' := 2514) [(.istore 6, 2), (.aload_n 2, 1)] [some (.ref 2), some (.ref 20), some (.ref 249), some (.ref 266), some (.int x4), some (.int r151.1), some (.int r152.1), o7, o8] [.ref 249] (by decide +kernel) rfl ?_
  refine i_cv (ci := 11) (t := 182) (na := 1) (ml := 1) (idx := 167) (pc' := 2517) (st' := []) (en := [some (.ref 249)]) (av := []) (vo := fun v => some (.int v)) (mo := fun _ => r152.2) (s2 := fun v => .int v :: []) (by decide +kernel) (by decide +kernel) h2 ⟨rfl, rfl, rfl, rfl, rfl, rfl⟩ (fun _ => rfl) (t_182 hN (h0 := h2)) (fun v153 => ?_)
  refine i_bl (pc' := 2519) [(.iload 5, 2)] [some (.ref 2), some (.ref 20), some (.ref 249), some (.ref 266), some (.int x4), some (.int r151.1), some (.int r152.1), o7, o8] [.int r151.1, .int v153] (by decide +kernel) rfl ?_
  refine i_ic (c := .eq) (off := 5) (t := 2524) (pc' := 2522) (p := v153 = r151.1) (by decide +kernel) rfl ?_ ?_
  · refine i_bl (pc' := 2526) [(.iload 5, 2)] [some (.ref 2), some (.ref 20), some (.ref 249), some (.ref 266), some (.int x4), some (.int r151.1), some (.int r152.1), o7, o8] [.int r151.1] (by decide +kernel) rfl ?_
    refine i_if (c := .ne) (off := 15) (t := 2541) (pc' := 2529) (p := ¬ r151.1 = 0) (by decide +kernel) rfl ?_ ?_
    · refine i_go (t := 3271) (off := 730) (by decide +kernel) ?_
      refine i_bl (pc' := 3274) [(.iinc 4 (7), 3)] [some (.ref 2), some (.ref 20), some (.ref 249), some (.ref 266), some (.int (x4 + 7)), some (.int r151.1), some (.int r152.1), o7, o8] [] (by decide +kernel) rfl ?_
      refine i_wb (fun y154 => ev_dn (b - 3) (z - 18) 348 3274 [some (.ref 2), some (.ref 20), some (.ref 249), some (.ref 266), some (.int y154), some (.int r151.1), some (.int r152.1), o7, o8] [] (nx, mem L nx r152.2)) (fun y154 => ?_)
      refine i_go (t := 23) (off := -3251) (by decide +kernel) ?_
      exact i_cL (some (.int r151.1), some (.int r152.1), o7, o8) (b - 3) (z - 18) (by omega) (by omega) rfl
    · refine i_bl (pc' := 2531) [(.aload_n 3, 1), (.iconst 0, 1)] [some (.ref 2), some (.ref 20), some (.ref 249), some (.ref 266), some (.int x4), some (.int r151.1), some (.int r152.1), o7, o8] [.int 0, .ref 266] (by decide +kernel) rfl ?_
      refine i_ll (pc' := 2532) (by decide +kernel) h3 ?_
      refine i_bl (pc' := 2535) [(.iload 6, 2), (.i2l, 1)] [some (.ref 2), some (.ref 20), some (.ref 249), some (.ref 266), some (.int x4), some (.int r151.1), some (.int r152.1), o7, o8] [.long r152.1.toInt64, .long (r152.2 266 (ix 0)).toInt64] (by decide +kernel) rfl ?_
      refine i_lcm (x := (r152.2 266 (ix 0))) (y := r152.1) (pc' := 2536) (by decide +kernel) ?_
      refine i_if (c := .eq) (off := 5) (t := 2541) (pc' := 2539) (p := (ilg (r152.2 266 (ix 0)) r152.1) = 0) (by decide +kernel) rfl ?_ ?_
      · refine i_go (t := 3271) (off := 730) (by decide +kernel) ?_
        refine i_bl (pc' := 3274) [(.iinc 4 (7), 3)] [some (.ref 2), some (.ref 20), some (.ref 249), some (.ref 266), some (.int (x4 + 7)), some (.int r151.1), some (.int r152.1), o7, o8] [] (by decide +kernel) rfl ?_
        refine i_wb (fun y155 => ev_dn (b - 3) (z - 18) 348 3274 [some (.ref 2), some (.ref 20), some (.ref 249), some (.ref 266), some (.int y155), some (.int r151.1), some (.int r152.1), o7, o8] [] (nx, mem L nx r152.2)) (fun y155 => ?_)
        refine i_go (t := 23) (off := -3251) (by decide +kernel) ?_
        exact i_cL (some (.int r151.1), some (.int r152.1), o7, o8) (b - 3) (z - 18) (by omega) (by omega) rfl
      · refine i_bl (pc' := 2540) [(.iconst 0, 1)] [some (.ref 2), some (.ref 20), some (.ref 249), some (.ref 266), some (.int x4), some (.int r151.1), some (.int r152.1), o7, o8] [.int 0] (by decide +kernel) rfl ?_
        exact i_iM (i_rz (B := false) (by decide +kernel) rfl)
  · refine i_bl (pc' := 2523) [(.iconst 0, 1)] [some (.ref 2), some (.ref 20), some (.ref 249), some (.ref 266), some (.int x4), some (.int r151.1), some (.int r152.1), o7, o8] [.int 0] (by decide +kernel) rfl ?_
    exact i_iM (i_rz (B := false) (by decide +kernel) rfl)

noncomputable def d_348_2544 (L : Nat) (x4 : Int32) (m : Mm) : Option ((Int32 × Mm) ⊕ (Bool × Mm)) := if ev_in (x4 + 1) L = true then ((d_337 20 (m 2 (ix (x4 + 1))) 266 m).bind fun r156 => if ev_in (x4 + 1) L = true then ((d_274 249 (r156.2 2 (ix (x4 + 1))) r156.2).bind fun r157 => (d_182 249 r157.2).bind fun v158 => if v158 = r156.1 then (if ¬ r156.1 = 0 then (wb (x4 + 7) fun y159 => some (.inl (y159, r157.2))) else (if ev_in 0 (sh_n 266) = true then (if (ilg (r157.2 266 (ix 0)) r157.1) = 0 then (wb (x4 + 7) fun y160 => some (.inl (y160, r157.2))) else (some (.inr (false, r157.2)))) else none)) else (some (.inr (false, r157.2)))) else none) else none
theorem t_348_2544 {L nx : Nat} (hN : okn nx) {b z : Nat} (hb : 2 ≤ b) (hz : 12 ≤ z) {b0 z0 : Nat} (hb0 : b0 + 2 ≤ b + 4) (hz0 : z0 + 12 ≤ z + 24) {m : Mm} (h0 : ok nx 2 99) (h1 : ok nx 20 10) (h2 : ok nx 249 11) (h3 : ok nx 266 102) {x4 : Int32} {o5 : Option Value} {o6 : Option Value} {o7 : Option Value} {o8 : Option Value} : Im (d_348_2544 L x4 m) (kM (wZ L nx) (fun b z => E_348_23 L nx b z) b0 z0) (ev_dn b z 348 2544 [some (.ref 2), some (.ref 20), some (.ref 249), some (.ref 266), some (.int x4), o5, o6, o7, o8] [] (nx, mem L nx m)) := by
  unfold d_348_2544
  refine i_bl (pc' := 2550) [(.aload_n 1, 1), (.aload_n 0, 1), (.iload 4, 2), (.iconst 1, 1), (.iadd, 1)] [some (.ref 2), some (.ref 20), some (.ref 249), some (.ref 266), some (.int x4), o5, o6, o7, o8] [.int (x4 + 1), .ref 2, .ref 20] (by decide +kernel) rfl ?_
  refine i_aS (pc' := 2551) L (by decide +kernel) rfl h0 ?_
  refine i_bl (pc' := 2552) [(.aload_n 3, 1)] [some (.ref 2), some (.ref 20), some (.ref 249), some (.ref 266), some (.int x4), o5, o6, o7, o8] [.ref 266, .int (m 2 (ix (x4 + 1))), .ref 20] (by decide +kernel) rfl ?_
  refine i_ck (k1 := 2) (k2 := 12) (t := 337) (na := 3) (ml := 4) (idx := 260) (pc' := 2555) (st' := []) (en := [some (.ref 20), some (.int (m 2 (ix (x4 + 1)))), some (.ref 266), none]) (av := [.ref 20, .int (m 2 (ix (x4 + 1))), .ref 266]) (vo := fun v => some (.int v.1)) (mo := fun v => v.2) (s2 := fun v => .int v.1 :: []) (by decide +kernel) ⟨rfl, rfl, rfl, rfl, rfl, rfl⟩ ⟨by omega, by omega⟩ (fun _ => rfl) (t_337 hN (b := 2) (z := 12) (by decide) (by decide) (h0 := h1) (h2 := h3)) (fun r156 => ?_)
  refine i_bl (pc' := 2563) [(.istore 5, 2), (.aload_n 2, 1), (.aload_n 0, 1), (.iload 4, 2), (.iconst 1, 1), (.iadd, 1)] [some (.ref 2), some (.ref 20), some (.ref 249), some (.ref 266), some (.int x4), some (.int r156.1), o6, o7, o8] [.int (x4 + 1), .ref 2, .ref 249] (by decide +kernel) rfl ?_
  refine i_aS (pc' := 2564) L (by decide +kernel) rfl h0 ?_
  refine i_cv (ci := 11) (t := 274) (na := 2) (ml := 3) (idx := 262) (pc' := 2567) (st' := []) (en := [some (.ref 249), some (.int (r156.2 2 (ix (x4 + 1)))), none]) (av := [.int (r156.2 2 (ix (x4 + 1)))]) (vo := fun v => some (.int v.1)) (mo := fun v => v.2) (s2 := fun v => .int v.1 :: []) (by decide +kernel) (by decide +kernel) h2 ⟨rfl, rfl, rfl, rfl, rfl, rfl⟩ (fun _ => rfl) (t_274 hN (h0 := h2)) (fun r157 => ?_)
  refine i_bl (pc' := 2570) [(.istore 6, 2), (.aload_n 2, 1)] [some (.ref 2), some (.ref 20), some (.ref 249), some (.ref 266), some (.int x4), some (.int r156.1), some (.int r157.1), o7, o8] [.ref 249] (by decide +kernel) rfl ?_
  refine i_cv (ci := 11) (t := 182) (na := 1) (ml := 1) (idx := 167) (pc' := 2573) (st' := []) (en := [some (.ref 249)]) (av := []) (vo := fun v => some (.int v)) (mo := fun _ => r157.2) (s2 := fun v => .int v :: []) (by decide +kernel) (by decide +kernel) h2 ⟨rfl, rfl, rfl, rfl, rfl, rfl⟩ (fun _ => rfl) (t_182 hN (h0 := h2)) (fun v158 => ?_)
  refine i_bl (pc' := 2575) [(.iload 5, 2)] [some (.ref 2), some (.ref 20), some (.ref 249), some (.ref 266), some (.int x4), some (.int r156.1), some (.int r157.1), o7, o8] [.int r156.1, .int v158] (by decide +kernel) rfl ?_
  refine i_ic (c := .eq) (off := 5) (t := 2580) (pc' := 2578) (p := v158 = r156.1) (by decide +kernel) rfl ?_ ?_
  · refine i_bl (pc' := 2582) [(.iload 5, 2)] [some (.ref 2), some (.ref 20), some (.ref 249), some (.ref 266), some (.int x4), some (.int r156.1), some (.int r157.1), o7, o8] [.int r156.1] (by decide +kernel) rfl ?_
    refine i_if (c := .ne) (off := 15) (t := 2597) (pc' := 2585) (p := ¬ r156.1 = 0) (by decide +kernel) rfl ?_ ?_
    · refine i_go (t := 3271) (off := 674) (by decide +kernel) ?_
      refine i_bl (pc' := 3274) [(.iinc 4 (7), 3)] [some (.ref 2), some (.ref 20), some (.ref 249), some (.ref 266), some (.int (x4 + 7)), some (.int r156.1), some (.int r157.1), o7, o8] [] (by decide +kernel) rfl ?_
      refine i_wb (fun y159 => ev_dn (b - 2) (z - 12) 348 3274 [some (.ref 2), some (.ref 20), some (.ref 249), some (.ref 266), some (.int y159), some (.int r156.1), some (.int r157.1), o7, o8] [] (nx, mem L nx r157.2)) (fun y159 => ?_)
      refine i_go (t := 23) (off := -3251) (by decide +kernel) ?_
      exact i_cL (some (.int r156.1), some (.int r157.1), o7, o8) (b - 2) (z - 12) (by omega) (by omega) rfl
    · refine i_bl (pc' := 2587) [(.aload_n 3, 1), (.iconst 0, 1)] [some (.ref 2), some (.ref 20), some (.ref 249), some (.ref 266), some (.int x4), some (.int r156.1), some (.int r157.1), o7, o8] [.int 0, .ref 266] (by decide +kernel) rfl ?_
      refine i_ll (pc' := 2588) (by decide +kernel) h3 ?_
      refine i_bl (pc' := 2591) [(.iload 6, 2), (.i2l, 1)] [some (.ref 2), some (.ref 20), some (.ref 249), some (.ref 266), some (.int x4), some (.int r156.1), some (.int r157.1), o7, o8] [.long r157.1.toInt64, .long (r157.2 266 (ix 0)).toInt64] (by decide +kernel) rfl ?_
      refine i_lcm (x := (r157.2 266 (ix 0))) (y := r157.1) (pc' := 2592) (by decide +kernel) ?_
      refine i_if (c := .eq) (off := 5) (t := 2597) (pc' := 2595) (p := (ilg (r157.2 266 (ix 0)) r157.1) = 0) (by decide +kernel) rfl ?_ ?_
      · refine i_go (t := 3271) (off := 674) (by decide +kernel) ?_
        refine i_bl (pc' := 3274) [(.iinc 4 (7), 3)] [some (.ref 2), some (.ref 20), some (.ref 249), some (.ref 266), some (.int (x4 + 7)), some (.int r156.1), some (.int r157.1), o7, o8] [] (by decide +kernel) rfl ?_
        refine i_wb (fun y160 => ev_dn (b - 2) (z - 12) 348 3274 [some (.ref 2), some (.ref 20), some (.ref 249), some (.ref 266), some (.int y160), some (.int r156.1), some (.int r157.1), o7, o8] [] (nx, mem L nx r157.2)) (fun y160 => ?_)
        refine i_go (t := 23) (off := -3251) (by decide +kernel) ?_
        exact i_cL (some (.int r156.1), some (.int r157.1), o7, o8) (b - 2) (z - 12) (by omega) (by omega) rfl
      · refine i_bl (pc' := 2596) [(.iconst 0, 1)] [some (.ref 2), some (.ref 20), some (.ref 249), some (.ref 266), some (.int x4), some (.int r156.1), some (.int r157.1), o7, o8] [.int 0] (by decide +kernel) rfl ?_
        exact i_iM (i_rz (B := false) (by decide +kernel) rfl)
  · refine i_bl (pc' := 2579) [(.iconst 0, 1)] [some (.ref 2), some (.ref 20), some (.ref 249), some (.ref 266), some (.int x4), some (.int r156.1), some (.int r157.1), o7, o8] [.int 0] (by decide +kernel) rfl ?_
    exact i_iM (i_rz (B := false) (by decide +kernel) rfl)

noncomputable def d_348_2600 (L : Nat) (x4 : Int32) (m : Mm) : Option ((Int32 × Mm) ⊕ (Bool × Mm)) := (d_338 20 266 m).bind fun r161 => (d_275 249 r161.2).bind fun r162 => (d_182 249 r162.2).bind fun v163 => if v163 = r161.1 then (if ¬ r161.1 = 0 then (wb (x4 + 7) fun y164 => some (.inl (y164, r162.2))) else (if ev_in 0 (sh_n 266) = true then (if (ilg (r162.2 266 (ix 0)) r162.1) = 0 then (wb (x4 + 7) fun y165 => some (.inl (y165, r162.2))) else (some (.inr (false, r162.2)))) else none)) else (some (.inr (false, r162.2)))
theorem t_348_2600 {L nx : Nat} (hN : okn nx) {b z : Nat} (hb : 1 ≤ b) (hz : 6 ≤ z) {b0 z0 : Nat} (hb0 : b0 + 1 ≤ b + 4) (hz0 : z0 + 6 ≤ z + 24) {m : Mm} (h0 : ok nx 2 99) (h1 : ok nx 20 10) (h2 : ok nx 249 11) (h3 : ok nx 266 102) {x4 : Int32} {o5 : Option Value} {o6 : Option Value} {o7 : Option Value} {o8 : Option Value} : Im (d_348_2600 L x4 m) (kM (wZ L nx) (fun b z => E_348_23 L nx b z) b0 z0) (ev_dn b z 348 2600 [some (.ref 2), some (.ref 20), some (.ref 249), some (.ref 266), some (.int x4), o5, o6, o7, o8] [] (nx, mem L nx m)) := by
  unfold d_348_2600
  refine i_bl (pc' := 2602) [(.aload_n 1, 1), (.aload_n 3, 1)] [some (.ref 2), some (.ref 20), some (.ref 249), some (.ref 266), some (.int x4), o5, o6, o7, o8] [.ref 266, .ref 20] (by decide +kernel) rfl ?_
  refine i_ck (k1 := 1) (k2 := 6) (t := 338) (na := 2) (ml := 3) (idx := 263) (pc' := 2605) (st' := []) (en := [some (.ref 20), some (.ref 266), none]) (av := [.ref 20, .ref 266]) (vo := fun v => some (.int v.1)) (mo := fun v => v.2) (s2 := fun v => .int v.1 :: []) (by decide +kernel) ⟨rfl, rfl, rfl, rfl, rfl, rfl⟩ ⟨by omega, by omega⟩ (fun _ => rfl) (t_338 hN (b := 1) (z := 6) (by decide) (by decide) (h0 := h1) (h1 := h3)) (fun r161 => ?_)
  refine i_bl (pc' := 2608) [(.istore 5, 2), (.aload_n 2, 1)] [some (.ref 2), some (.ref 20), some (.ref 249), some (.ref 266), some (.int x4), some (.int r161.1), o6, o7, o8] [.ref 249] (by decide +kernel) rfl ?_
  refine i_cv (ci := 11) (t := 275) (na := 1) (ml := 1) (idx := 266) (pc' := 2611) (st' := []) (en := [some (.ref 249)]) (av := []) (vo := fun v => some (.int v.1)) (mo := fun v => v.2) (s2 := fun v => .int v.1 :: []) (by decide +kernel) (by decide +kernel) h2 ⟨rfl, rfl, rfl, rfl, rfl, rfl⟩ (fun _ => rfl) (t_275 hN (h0 := h2)) (fun r162 => ?_)
  refine i_bl (pc' := 2614) [(.istore 6, 2), (.aload_n 2, 1)] [some (.ref 2), some (.ref 20), some (.ref 249), some (.ref 266), some (.int x4), some (.int r161.1), some (.int r162.1), o7, o8] [.ref 249] (by decide +kernel) rfl ?_
  refine i_cv (ci := 11) (t := 182) (na := 1) (ml := 1) (idx := 167) (pc' := 2617) (st' := []) (en := [some (.ref 249)]) (av := []) (vo := fun v => some (.int v)) (mo := fun _ => r162.2) (s2 := fun v => .int v :: []) (by decide +kernel) (by decide +kernel) h2 ⟨rfl, rfl, rfl, rfl, rfl, rfl⟩ (fun _ => rfl) (t_182 hN (h0 := h2)) (fun v163 => ?_)
  refine i_bl (pc' := 2619) [(.iload 5, 2)] [some (.ref 2), some (.ref 20), some (.ref 249), some (.ref 266), some (.int x4), some (.int r161.1), some (.int r162.1), o7, o8] [.int r161.1, .int v163] (by decide +kernel) rfl ?_
  refine i_ic (c := .eq) (off := 5) (t := 2624) (pc' := 2622) (p := v163 = r161.1) (by decide +kernel) rfl ?_ ?_
  · refine i_bl (pc' := 2626) [(.iload 5, 2)] [some (.ref 2), some (.ref 20), some (.ref 249), some (.ref 266), some (.int x4), some (.int r161.1), some (.int r162.1), o7, o8] [.int r161.1] (by decide +kernel) rfl ?_
    refine i_if (c := .ne) (off := 15) (t := 2641) (pc' := 2629) (p := ¬ r161.1 = 0) (by decide +kernel) rfl ?_ ?_
    · refine i_go (t := 3271) (off := 630) (by decide +kernel) ?_
      refine i_bl (pc' := 3274) [(.iinc 4 (7), 3)] [some (.ref 2), some (.ref 20), some (.ref 249), some (.ref 266), some (.int (x4 + 7)), some (.int r161.1), some (.int r162.1), o7, o8] [] (by decide +kernel) rfl ?_
      refine i_wb (fun y164 => ev_dn (b - 1) (z - 6) 348 3274 [some (.ref 2), some (.ref 20), some (.ref 249), some (.ref 266), some (.int y164), some (.int r161.1), some (.int r162.1), o7, o8] [] (nx, mem L nx r162.2)) (fun y164 => ?_)
      refine i_go (t := 23) (off := -3251) (by decide +kernel) ?_
      exact i_cL (some (.int r161.1), some (.int r162.1), o7, o8) (b - 1) (z - 6) (by omega) (by omega) rfl
    · refine i_bl (pc' := 2631) [(.aload_n 3, 1), (.iconst 0, 1)] [some (.ref 2), some (.ref 20), some (.ref 249), some (.ref 266), some (.int x4), some (.int r161.1), some (.int r162.1), o7, o8] [.int 0, .ref 266] (by decide +kernel) rfl ?_
      refine i_ll (pc' := 2632) (by decide +kernel) h3 ?_
      refine i_bl (pc' := 2635) [(.iload 6, 2), (.i2l, 1)] [some (.ref 2), some (.ref 20), some (.ref 249), some (.ref 266), some (.int x4), some (.int r161.1), some (.int r162.1), o7, o8] [.long r162.1.toInt64, .long (r162.2 266 (ix 0)).toInt64] (by decide +kernel) rfl ?_
      refine i_lcm (x := (r162.2 266 (ix 0))) (y := r162.1) (pc' := 2636) (by decide +kernel) ?_
      refine i_if (c := .eq) (off := 5) (t := 2641) (pc' := 2639) (p := (ilg (r162.2 266 (ix 0)) r162.1) = 0) (by decide +kernel) rfl ?_ ?_
      · refine i_go (t := 3271) (off := 630) (by decide +kernel) ?_
        refine i_bl (pc' := 3274) [(.iinc 4 (7), 3)] [some (.ref 2), some (.ref 20), some (.ref 249), some (.ref 266), some (.int (x4 + 7)), some (.int r161.1), some (.int r162.1), o7, o8] [] (by decide +kernel) rfl ?_
        refine i_wb (fun y165 => ev_dn (b - 1) (z - 6) 348 3274 [some (.ref 2), some (.ref 20), some (.ref 249), some (.ref 266), some (.int y165), some (.int r161.1), some (.int r162.1), o7, o8] [] (nx, mem L nx r162.2)) (fun y165 => ?_)
        refine i_go (t := 23) (off := -3251) (by decide +kernel) ?_
        exact i_cL (some (.int r161.1), some (.int r162.1), o7, o8) (b - 1) (z - 6) (by omega) (by omega) rfl
      · refine i_bl (pc' := 2640) [(.iconst 0, 1)] [some (.ref 2), some (.ref 20), some (.ref 249), some (.ref 266), some (.int x4), some (.int r161.1), some (.int r162.1), o7, o8] [.int 0] (by decide +kernel) rfl ?_
        exact i_iM (i_rz (B := false) (by decide +kernel) rfl)
  · refine i_bl (pc' := 2623) [(.iconst 0, 1)] [some (.ref 2), some (.ref 20), some (.ref 249), some (.ref 266), some (.int x4), some (.int r161.1), some (.int r162.1), o7, o8] [.int 0] (by decide +kernel) rfl ?_
    exact i_iM (i_rz (B := false) (by decide +kernel) rfl)

noncomputable def d_348_2644 (L : Nat) (x4 : Int32) (m : Mm) : Option ((Int32 × Mm) ⊕ (Bool × Mm)) := if ev_in (x4 + 1) L = true then ((d_339 20 (m 2 (ix (x4 + 1))) 266 m).bind fun r166 => if ev_in (x4 + 1) L = true then ((d_276 249 (r166.2 2 (ix (x4 + 1))) r166.2).bind fun r167 => (d_182 249 r167.2).bind fun v168 => if v168 = r166.1 then (if ¬ r166.1 = 0 then (wb (x4 + 7) fun y169 => some (.inl (y169, r167.2))) else (if ev_in 0 (sh_n 266) = true then (if (ilg (r167.2 266 (ix 0)) r167.1) = 0 then (wb (x4 + 7) fun y170 => some (.inl (y170, r167.2))) else (some (.inr (false, r167.2)))) else none)) else (some (.inr (false, r167.2)))) else none) else none
theorem t_348_2644 {L nx : Nat} (hN : okn nx) {b z : Nat} (hb : 1 ≤ b) (hz : 6 ≤ z) {b0 z0 : Nat} (hb0 : b0 + 1 ≤ b + 4) (hz0 : z0 + 6 ≤ z + 24) {m : Mm} (h0 : ok nx 2 99) (h1 : ok nx 20 10) (h2 : ok nx 249 11) (h3 : ok nx 266 102) {x4 : Int32} {o5 : Option Value} {o6 : Option Value} {o7 : Option Value} {o8 : Option Value} : Im (d_348_2644 L x4 m) (kM (wZ L nx) (fun b z => E_348_23 L nx b z) b0 z0) (ev_dn b z 348 2644 [some (.ref 2), some (.ref 20), some (.ref 249), some (.ref 266), some (.int x4), o5, o6, o7, o8] [] (nx, mem L nx m)) := by
  unfold d_348_2644
  refine i_bl (pc' := 2650) [(.aload_n 1, 1), (.aload_n 0, 1), (.iload 4, 2), (.iconst 1, 1), (.iadd, 1)] [some (.ref 2), some (.ref 20), some (.ref 249), some (.ref 266), some (.int x4), o5, o6, o7, o8] [.int (x4 + 1), .ref 2, .ref 20] (by decide +kernel) rfl ?_
  refine i_aS (pc' := 2651) L (by decide +kernel) rfl h0 ?_
  refine i_bl (pc' := 2652) [(.aload_n 3, 1)] [some (.ref 2), some (.ref 20), some (.ref 249), some (.ref 266), some (.int x4), o5, o6, o7, o8] [.ref 266, .int (m 2 (ix (x4 + 1))), .ref 20] (by decide +kernel) rfl ?_
  refine i_ck (k1 := 1) (k2 := 6) (t := 339) (na := 3) (ml := 4) (idx := 267) (pc' := 2655) (st' := []) (en := [some (.ref 20), some (.int (m 2 (ix (x4 + 1)))), some (.ref 266), none]) (av := [.ref 20, .int (m 2 (ix (x4 + 1))), .ref 266]) (vo := fun v => some (.int v.1)) (mo := fun v => v.2) (s2 := fun v => .int v.1 :: []) (by decide +kernel) ⟨rfl, rfl, rfl, rfl, rfl, rfl⟩ ⟨by omega, by omega⟩ (fun _ => rfl) (t_339 hN (b := 1) (z := 6) (by decide) (by decide) (h0 := h1) (h2 := h3)) (fun r166 => ?_)
  refine i_bl (pc' := 2663) [(.istore 5, 2), (.aload_n 2, 1), (.aload_n 0, 1), (.iload 4, 2), (.iconst 1, 1), (.iadd, 1)] [some (.ref 2), some (.ref 20), some (.ref 249), some (.ref 266), some (.int x4), some (.int r166.1), o6, o7, o8] [.int (x4 + 1), .ref 2, .ref 249] (by decide +kernel) rfl ?_
  refine i_aS (pc' := 2664) L (by decide +kernel) rfl h0 ?_
  refine i_cv (ci := 11) (t := 276) (na := 2) (ml := 5) (idx := 269) (pc' := 2667) (st' := []) (en := [some (.ref 249), some (.int (r166.2 2 (ix (x4 + 1)))), none, none, none]) (av := [.int (r166.2 2 (ix (x4 + 1)))]) (vo := fun v => some (.int v.1)) (mo := fun v => v.2) (s2 := fun v => .int v.1 :: []) (by decide +kernel) (by decide +kernel) h2 ⟨rfl, rfl, rfl, rfl, rfl, rfl⟩ (fun _ => rfl) (t_276 hN (h0 := h2)) (fun r167 => ?_)
  refine i_bl (pc' := 2670) [(.istore 6, 2), (.aload_n 2, 1)] [some (.ref 2), some (.ref 20), some (.ref 249), some (.ref 266), some (.int x4), some (.int r166.1), some (.int r167.1), o7, o8] [.ref 249] (by decide +kernel) rfl ?_
  refine i_cv (ci := 11) (t := 182) (na := 1) (ml := 1) (idx := 167) (pc' := 2673) (st' := []) (en := [some (.ref 249)]) (av := []) (vo := fun v => some (.int v)) (mo := fun _ => r167.2) (s2 := fun v => .int v :: []) (by decide +kernel) (by decide +kernel) h2 ⟨rfl, rfl, rfl, rfl, rfl, rfl⟩ (fun _ => rfl) (t_182 hN (h0 := h2)) (fun v168 => ?_)
  refine i_bl (pc' := 2675) [(.iload 5, 2)] [some (.ref 2), some (.ref 20), some (.ref 249), some (.ref 266), some (.int x4), some (.int r166.1), some (.int r167.1), o7, o8] [.int r166.1, .int v168] (by decide +kernel) rfl ?_
  refine i_ic (c := .eq) (off := 5) (t := 2680) (pc' := 2678) (p := v168 = r166.1) (by decide +kernel) rfl ?_ ?_
  · refine i_bl (pc' := 2682) [(.iload 5, 2)] [some (.ref 2), some (.ref 20), some (.ref 249), some (.ref 266), some (.int x4), some (.int r166.1), some (.int r167.1), o7, o8] [.int r166.1] (by decide +kernel) rfl ?_
    refine i_if (c := .ne) (off := 15) (t := 2697) (pc' := 2685) (p := ¬ r166.1 = 0) (by decide +kernel) rfl ?_ ?_
    · refine i_go (t := 3271) (off := 574) (by decide +kernel) ?_
      refine i_bl (pc' := 3274) [(.iinc 4 (7), 3)] [some (.ref 2), some (.ref 20), some (.ref 249), some (.ref 266), some (.int (x4 + 7)), some (.int r166.1), some (.int r167.1), o7, o8] [] (by decide +kernel) rfl ?_
      refine i_wb (fun y169 => ev_dn (b - 1) (z - 6) 348 3274 [some (.ref 2), some (.ref 20), some (.ref 249), some (.ref 266), some (.int y169), some (.int r166.1), some (.int r167.1), o7, o8] [] (nx, mem L nx r167.2)) (fun y169 => ?_)
      refine i_go (t := 23) (off := -3251) (by decide +kernel) ?_
      exact i_cL (some (.int r166.1), some (.int r167.1), o7, o8) (b - 1) (z - 6) (by omega) (by omega) rfl
    · refine i_bl (pc' := 2687) [(.aload_n 3, 1), (.iconst 0, 1)] [some (.ref 2), some (.ref 20), some (.ref 249), some (.ref 266), some (.int x4), some (.int r166.1), some (.int r167.1), o7, o8] [.int 0, .ref 266] (by decide +kernel) rfl ?_
      refine i_ll (pc' := 2688) (by decide +kernel) h3 ?_
      refine i_bl (pc' := 2691) [(.iload 6, 2), (.i2l, 1)] [some (.ref 2), some (.ref 20), some (.ref 249), some (.ref 266), some (.int x4), some (.int r166.1), some (.int r167.1), o7, o8] [.long r167.1.toInt64, .long (r167.2 266 (ix 0)).toInt64] (by decide +kernel) rfl ?_
      refine i_lcm (x := (r167.2 266 (ix 0))) (y := r167.1) (pc' := 2692) (by decide +kernel) ?_
      refine i_if (c := .eq) (off := 5) (t := 2697) (pc' := 2695) (p := (ilg (r167.2 266 (ix 0)) r167.1) = 0) (by decide +kernel) rfl ?_ ?_
      · refine i_go (t := 3271) (off := 574) (by decide +kernel) ?_
        refine i_bl (pc' := 3274) [(.iinc 4 (7), 3)] [some (.ref 2), some (.ref 20), some (.ref 249), some (.ref 266), some (.int (x4 + 7)), some (.int r166.1), some (.int r167.1), o7, o8] [] (by decide +kernel) rfl ?_
        refine i_wb (fun y170 => ev_dn (b - 1) (z - 6) 348 3274 [some (.ref 2), some (.ref 20), some (.ref 249), some (.ref 266), some (.int y170), some (.int r166.1), some (.int r167.1), o7, o8] [] (nx, mem L nx r167.2)) (fun y170 => ?_)
        refine i_go (t := 23) (off := -3251) (by decide +kernel) ?_
        exact i_cL (some (.int r166.1), some (.int r167.1), o7, o8) (b - 1) (z - 6) (by omega) (by omega) rfl
      · refine i_bl (pc' := 2696) [(.iconst 0, 1)] [some (.ref 2), some (.ref 20), some (.ref 249), some (.ref 266), some (.int x4), some (.int r166.1), some (.int r167.1), o7, o8] [.int 0] (by decide +kernel) rfl ?_
        exact i_iM (i_rz (B := false) (by decide +kernel) rfl)
  · refine i_bl (pc' := 2679) [(.iconst 0, 1)] [some (.ref 2), some (.ref 20), some (.ref 249), some (.ref 266), some (.int x4), some (.int r166.1), some (.int r167.1), o7, o8] [.int 0] (by decide +kernel) rfl ?_
    exact i_iM (i_rz (B := false) (by decide +kernel) rfl)

noncomputable def d_348_2700 (L : Nat) (x4 : Int32) (m : Mm) : Option ((Int32 × Mm) ⊕ (Bool × Mm)) := if ev_in (x4 + 1) L = true then (if ev_in (x4 + 2) L = true then ((d_340 20 (m 2 (ix (x4 + 1))) (m 2 (ix (x4 + 2))) 266 m).bind fun r171 => if ev_in (x4 + 1) L = true then (if ev_in (x4 + 2) L = true then ((d_277 249 (r171.2 2 (ix (x4 + 1))) (r171.2 2 (ix (x4 + 2))) r171.2).bind fun r172 => (d_182 249 r172.2).bind fun v173 => if v173 = r171.1 then (if ¬ r171.1 = 0 then (wb (x4 + 7) fun y174 => some (.inl (y174, r172.2))) else (if ev_in 0 (sh_n 266) = true then (if (ilg (r172.2 266 (ix 0)) r172.1) = 0 then (wb (x4 + 7) fun y175 => some (.inl (y175, r172.2))) else (some (.inr (false, r172.2)))) else none)) else (some (.inr (false, r172.2)))) else none) else none) else none) else none
theorem t_348_2700 {L nx : Nat} (hN : okn nx) {b z : Nat} (hb : 3 ≤ b) (hz : 18 ≤ z) {b0 z0 : Nat} (hb0 : b0 + 3 ≤ b + 4) (hz0 : z0 + 18 ≤ z + 24) {m : Mm} (h0 : ok nx 2 99) (h1 : ok nx 20 10) (h2 : ok nx 249 11) (h3 : ok nx 266 102) {x4 : Int32} {o5 : Option Value} {o6 : Option Value} {o7 : Option Value} {o8 : Option Value} : Im (d_348_2700 L x4 m) (kM (wZ L nx) (fun b z => E_348_23 L nx b z) b0 z0) (ev_dn b z 348 2700 [some (.ref 2), some (.ref 20), some (.ref 249), some (.ref 266), some (.int x4), o5, o6, o7, o8] [] (nx, mem L nx m)) := by
  unfold d_348_2700
  refine i_bl (pc' := 2706) [(.aload_n 1, 1), (.aload_n 0, 1), (.iload 4, 2), (.iconst 1, 1), (.iadd, 1)] [some (.ref 2), some (.ref 20), some (.ref 249), some (.ref 266), some (.int x4), o5, o6, o7, o8] [.int (x4 + 1), .ref 2, .ref 20] (by decide +kernel) rfl ?_
  refine i_aS (pc' := 2707) L (by decide +kernel) rfl h0 ?_
  refine i_bl (pc' := 2712) [(.aload_n 0, 1), (.iload 4, 2), (.iconst 2, 1), (.iadd, 1)] [some (.ref 2), some (.ref 20), some (.ref 249), some (.ref 266), some (.int x4), o5, o6, o7, o8] [.int (x4 + 2), .ref 2, .int (m 2 (ix (x4 + 1))), .ref 20] (by decide +kernel) rfl ?_
  refine i_aS (pc' := 2713) L (by decide +kernel) rfl h0 ?_
  refine i_bl (pc' := 2714) [(.aload_n 3, 1)] [some (.ref 2), some (.ref 20), some (.ref 249), some (.ref 266), some (.int x4), o5, o6, o7, o8] [.ref 266, .int (m 2 (ix (x4 + 2))), .int (m 2 (ix (x4 + 1))), .ref 20] (by decide +kernel) rfl ?_
  refine i_ck (k1 := 3) (k2 := 18) (t := 340) (na := 4) (ml := 5) (idx := 270) (pc' := 2717) (st' := []) (en := [some (.ref 20), some (.int (m 2 (ix (x4 + 1)))), some (.int (m 2 (ix (x4 + 2)))), some (.ref 266), none]) (av := [.ref 20, .int (m 2 (ix (x4 + 1))), .int (m 2 (ix (x4 + 2))), .ref 266]) (vo := fun v => some (.int v.1)) (mo := fun v => v.2) (s2 := fun v => .int v.1 :: []) (by decide +kernel) ⟨rfl, rfl, rfl, rfl, rfl, rfl⟩ ⟨by omega, by omega⟩ (fun _ => rfl) (t_340 hN (b := 3) (z := 18) (by decide) (by decide) (h0 := h1) (h3 := h3)) (fun r171 => ?_)
  refine i_bl (pc' := 2725) [(.istore 5, 2), (.aload_n 2, 1), (.aload_n 0, 1), (.iload 4, 2), (.iconst 1, 1), (.iadd, 1)] [some (.ref 2), some (.ref 20), some (.ref 249), some (.ref 266), some (.int x4), some (.int r171.1), o6, o7, o8] [.int (x4 + 1), .ref 2, .ref 249] (by decide +kernel) rfl ?_
  refine i_aS (pc' := 2726) L (by decide +kernel) rfl h0 ?_
  refine i_bl (pc' := 2731) [(.aload_n 0, 1), (.iload 4, 2), (.iconst 2, 1), (.iadd, 1)] [some (.ref 2), some (.ref 20), some (.ref 249), some (.ref 266), some (.int x4), some (.int r171.1), o6, o7, o8] [.int (x4 + 2), .ref 2, .int (r171.2 2 (ix (x4 + 1))), .ref 249] (by decide +kernel) rfl ?_
  refine i_aS (pc' := 2732) L (by decide +kernel) rfl h0 ?_
  refine i_cv (ci := 11) (t := 277) (na := 3) (ml := 3) (idx := 272) (pc' := 2735) (st' := []) (en := [some (.ref 249), some (.int (r171.2 2 (ix (x4 + 1)))), some (.int (r171.2 2 (ix (x4 + 2))))]) (av := [.int (r171.2 2 (ix (x4 + 1))), .int (r171.2 2 (ix (x4 + 2)))]) (vo := fun v => some (.int v.1)) (mo := fun v => v.2) (s2 := fun v => .int v.1 :: []) (by decide +kernel) (by decide +kernel) h2 ⟨rfl, rfl, rfl, rfl, rfl, rfl⟩ (fun _ => rfl) (t_277 hN (h0 := h2)) (fun r172 => ?_)
  refine i_bl (pc' := 2738) [(.istore 6, 2), (.aload_n 2, 1)] [some (.ref 2), some (.ref 20), some (.ref 249), some (.ref 266), some (.int x4), some (.int r171.1), some (.int r172.1), o7, o8] [.ref 249] (by decide +kernel) rfl ?_
  refine i_cv (ci := 11) (t := 182) (na := 1) (ml := 1) (idx := 167) (pc' := 2741) (st' := []) (en := [some (.ref 249)]) (av := []) (vo := fun v => some (.int v)) (mo := fun _ => r172.2) (s2 := fun v => .int v :: []) (by decide +kernel) (by decide +kernel) h2 ⟨rfl, rfl, rfl, rfl, rfl, rfl⟩ (fun _ => rfl) (t_182 hN (h0 := h2)) (fun v173 => ?_)
  refine i_bl (pc' := 2743) [(.iload 5, 2)] [some (.ref 2), some (.ref 20), some (.ref 249), some (.ref 266), some (.int x4), some (.int r171.1), some (.int r172.1), o7, o8] [.int r171.1, .int v173] (by decide +kernel) rfl ?_
  refine i_ic (c := .eq) (off := 5) (t := 2748) (pc' := 2746) (p := v173 = r171.1) (by decide +kernel) rfl ?_ ?_
  · refine i_bl (pc' := 2750) [(.iload 5, 2)] [some (.ref 2), some (.ref 20), some (.ref 249), some (.ref 266), some (.int x4), some (.int r171.1), some (.int r172.1), o7, o8] [.int r171.1] (by decide +kernel) rfl ?_
    refine i_if (c := .ne) (off := 15) (t := 2765) (pc' := 2753) (p := ¬ r171.1 = 0) (by decide +kernel) rfl ?_ ?_
    · refine i_go (t := 3271) (off := 506) (by decide +kernel) ?_
      refine i_bl (pc' := 3274) [(.iinc 4 (7), 3)] [some (.ref 2), some (.ref 20), some (.ref 249), some (.ref 266), some (.int (x4 + 7)), some (.int r171.1), some (.int r172.1), o7, o8] [] (by decide +kernel) rfl ?_
      refine i_wb (fun y174 => ev_dn (b - 3) (z - 18) 348 3274 [some (.ref 2), some (.ref 20), some (.ref 249), some (.ref 266), some (.int y174), some (.int r171.1), some (.int r172.1), o7, o8] [] (nx, mem L nx r172.2)) (fun y174 => ?_)
      refine i_go (t := 23) (off := -3251) (by decide +kernel) ?_
      exact i_cL (some (.int r171.1), some (.int r172.1), o7, o8) (b - 3) (z - 18) (by omega) (by omega) rfl
    · refine i_bl (pc' := 2755) [(.aload_n 3, 1), (.iconst 0, 1)] [some (.ref 2), some (.ref 20), some (.ref 249), some (.ref 266), some (.int x4), some (.int r171.1), some (.int r172.1), o7, o8] [.int 0, .ref 266] (by decide +kernel) rfl ?_
      refine i_ll (pc' := 2756) (by decide +kernel) h3 ?_
      refine i_bl (pc' := 2759) [(.iload 6, 2), (.i2l, 1)] [some (.ref 2), some (.ref 20), some (.ref 249), some (.ref 266), some (.int x4), some (.int r171.1), some (.int r172.1), o7, o8] [.long r172.1.toInt64, .long (r172.2 266 (ix 0)).toInt64] (by decide +kernel) rfl ?_
      refine i_lcm (x := (r172.2 266 (ix 0))) (y := r172.1) (pc' := 2760) (by decide +kernel) ?_
      refine i_if (c := .eq) (off := 5) (t := 2765) (pc' := 2763) (p := (ilg (r172.2 266 (ix 0)) r172.1) = 0) (by decide +kernel) rfl ?_ ?_
      · refine i_go (t := 3271) (off := 506) (by decide +kernel) ?_
        refine i_bl (pc' := 3274) [(.iinc 4 (7), 3)] [some (.ref 2), some (.ref 20), some (.ref 249), some (.ref 266), some (.int (x4 + 7)), some (.int r171.1), some (.int r172.1), o7, o8] [] (by decide +kernel) rfl ?_
        refine i_wb (fun y175 => ev_dn (b - 3) (z - 18) 348 3274 [some (.ref 2), some (.ref 20), some (.ref 249), some (.ref 266), some (.int y175), some (.int r171.1), some (.int r172.1), o7, o8] [] (nx, mem L nx r172.2)) (fun y175 => ?_)
        refine i_go (t := 23) (off := -3251) (by decide +kernel) ?_
        exact i_cL (some (.int r171.1), some (.int r172.1), o7, o8) (b - 3) (z - 18) (by omega) (by omega) rfl
      · refine i_bl (pc' := 2764) [(.iconst 0, 1)] [some (.ref 2), some (.ref 20), some (.ref 249), some (.ref 266), some (.int x4), some (.int r171.1), some (.int r172.1), o7, o8] [.int 0] (by decide +kernel) rfl ?_
        exact i_iM (i_rz (B := false) (by decide +kernel) rfl)
  · refine i_bl (pc' := 2747) [(.iconst 0, 1)] [some (.ref 2), some (.ref 20), some (.ref 249), some (.ref 266), some (.int x4), some (.int r171.1), some (.int r172.1), o7, o8] [.int 0] (by decide +kernel) rfl ?_
    exact i_iM (i_rz (B := false) (by decide +kernel) rfl)

noncomputable def d_348_2768 (L : Nat) (x4 : Int32) (m : Mm) : Option ((Int32 × Mm) ⊕ (Bool × Mm)) := if ev_in (x4 + 1) L = true then (if ev_in (x4 + 2) L = true then (if ev_in (x4 + 3) L = true then ((d_341 20 (m 2 (ix (x4 + 1))) (m 2 (ix (x4 + 2))) (m 2 (ix (x4 + 3))) 266 m).bind fun r176 => if ev_in (x4 + 1) L = true then (if ev_in (x4 + 2) L = true then (if ev_in (x4 + 3) L = true then ((d_278 249 (r176.2 2 (ix (x4 + 1))) (r176.2 2 (ix (x4 + 2))) (r176.2 2 (ix (x4 + 3))) r176.2).bind fun r177 => (d_182 249 r177.2).bind fun v178 => if v178 = r176.1 then (if ¬ r176.1 = 0 then (wb (x4 + 7) fun y179 => some (.inl (y179, r177.2))) else (if ev_in 0 (sh_n 266) = true then (if (ilg (r177.2 266 (ix 0)) r177.1) = 0 then (wb (x4 + 7) fun y180 => some (.inl (y180, r177.2))) else (some (.inr (false, r177.2)))) else none)) else (some (.inr (false, r177.2)))) else none) else none) else none) else none) else none) else none
theorem t_348_2768 {L nx : Nat} (hN : okn nx) {b z : Nat} (hb : 4 ≤ b) (hz : 24 ≤ z) {b0 z0 : Nat} (hb0 : b0 + 4 ≤ b + 4) (hz0 : z0 + 24 ≤ z + 24) {m : Mm} (h0 : ok nx 2 99) (h1 : ok nx 20 10) (h2 : ok nx 249 11) (h3 : ok nx 266 102) {x4 : Int32} {o5 : Option Value} {o6 : Option Value} {o7 : Option Value} {o8 : Option Value} : Im (d_348_2768 L x4 m) (kM (wZ L nx) (fun b z => E_348_23 L nx b z) b0 z0) (ev_dn b z 348 2768 [some (.ref 2), some (.ref 20), some (.ref 249), some (.ref 266), some (.int x4), o5, o6, o7, o8] [] (nx, mem L nx m)) := by
  unfold d_348_2768
  refine i_bl (pc' := 2774) [(.aload_n 1, 1), (.aload_n 0, 1), (.iload 4, 2), (.iconst 1, 1), (.iadd, 1)] [some (.ref 2), some (.ref 20), some (.ref 249), some (.ref 266), some (.int x4), o5, o6, o7, o8] [.int (x4 + 1), .ref 2, .ref 20] (by decide +kernel) rfl ?_
  refine i_aS (pc' := 2775) L (by decide +kernel) rfl h0 ?_
  refine i_bl (pc' := 2780) [(.aload_n 0, 1), (.iload 4, 2), (.iconst 2, 1), (.iadd, 1)] [some (.ref 2), some (.ref 20), some (.ref 249), some (.ref 266), some (.int x4), o5, o6, o7, o8] [.int (x4 + 2), .ref 2, .int (m 2 (ix (x4 + 1))), .ref 20] (by decide +kernel) rfl ?_
  refine i_aS (pc' := 2781) L (by decide +kernel) rfl h0 ?_
  refine i_bl (pc' := 2786) [(.aload_n 0, 1), (.iload 4, 2), (.iconst 3, 1), (.iadd, 1)] [some (.ref 2), some (.ref 20), some (.ref 249), some (.ref 266), some (.int x4), o5, o6, o7, o8] [.int (x4 + 3), .ref 2, .int (m 2 (ix (x4 + 2))), .int (m 2 (ix (x4 + 1))), .ref 20] (by decide +kernel) rfl ?_
  refine i_aS (pc' := 2787) L (by decide +kernel) rfl h0 ?_
  refine i_bl (pc' := 2788) [(.aload_n 3, 1)] [some (.ref 2), some (.ref 20), some (.ref 249), some (.ref 266), some (.int x4), o5, o6, o7, o8] [.ref 266, .int (m 2 (ix (x4 + 3))), .int (m 2 (ix (x4 + 2))), .int (m 2 (ix (x4 + 1))), .ref 20] (by decide +kernel) rfl ?_
  refine i_ck (k1 := 4) (k2 := 24) (t := 341) (na := 5) (ml := 6) (idx := 273) (pc' := 2791) (st' := []) (en := [some (.ref 20), some (.int (m 2 (ix (x4 + 1)))), some (.int (m 2 (ix (x4 + 2)))), some (.int (m 2 (ix (x4 + 3)))), some (.ref 266), none]) (av := [.ref 20, .int (m 2 (ix (x4 + 1))), .int (m 2 (ix (x4 + 2))), .int (m 2 (ix (x4 + 3))), .ref 266]) (vo := fun v => some (.int v.1)) (mo := fun v => v.2) (s2 := fun v => .int v.1 :: []) (by decide +kernel) ⟨rfl, rfl, rfl, rfl, rfl, rfl⟩ ⟨by omega, by omega⟩ (fun _ => rfl) (t_341 hN (b := 4) (z := 24) (by decide) (by decide) (h0 := h1) (h4 := h3)) (fun r176 => ?_)
  refine i_bl (pc' := 2799) [(.istore 5, 2), (.aload_n 2, 1), (.aload_n 0, 1), (.iload 4, 2), (.iconst 1, 1), (.iadd, 1)] [some (.ref 2), some (.ref 20), some (.ref 249), some (.ref 266), some (.int x4), some (.int r176.1), o6, o7, o8] [.int (x4 + 1), .ref 2, .ref 249] (by decide +kernel) rfl ?_
  refine i_aS (pc' := 2800) L (by decide +kernel) rfl h0 ?_
  refine i_bl (pc' := 2805) [(.aload_n 0, 1), (.iload 4, 2), (.iconst 2, 1), (.iadd, 1)] [some (.ref 2), some (.ref 20), some (.ref 249), some (.ref 266), some (.int x4), some (.int r176.1), o6, o7, o8] [.int (x4 + 2), .ref 2, .int (r176.2 2 (ix (x4 + 1))), .ref 249] (by decide +kernel) rfl ?_
  refine i_aS (pc' := 2806) L (by decide +kernel) rfl h0 ?_
  refine i_bl (pc' := 2811) [(.aload_n 0, 1), (.iload 4, 2), (.iconst 3, 1), (.iadd, 1)] [some (.ref 2), some (.ref 20), some (.ref 249), some (.ref 266), some (.int x4), some (.int r176.1), o6, o7, o8] [.int (x4 + 3), .ref 2, .int (r176.2 2 (ix (x4 + 2))), .int (r176.2 2 (ix (x4 + 1))), .ref 249] (by decide +kernel) rfl ?_
  refine i_aS (pc' := 2812) L (by decide +kernel) rfl h0 ?_
  refine i_cv (ci := 11) (t := 278) (na := 4) (ml := 5) (idx := 275) (pc' := 2815) (st' := []) (en := [some (.ref 249), some (.int (r176.2 2 (ix (x4 + 1)))), some (.int (r176.2 2 (ix (x4 + 2)))), some (.int (r176.2 2 (ix (x4 + 3)))), none]) (av := [.int (r176.2 2 (ix (x4 + 1))), .int (r176.2 2 (ix (x4 + 2))), .int (r176.2 2 (ix (x4 + 3)))]) (vo := fun v => some (.int v.1)) (mo := fun v => v.2) (s2 := fun v => .int v.1 :: []) (by decide +kernel) (by decide +kernel) h2 ⟨rfl, rfl, rfl, rfl, rfl, rfl⟩ (fun _ => rfl) (t_278 hN (h0 := h2)) (fun r177 => ?_)
  refine i_bl (pc' := 2818) [(.istore 6, 2), (.aload_n 2, 1)] [some (.ref 2), some (.ref 20), some (.ref 249), some (.ref 266), some (.int x4), some (.int r176.1), some (.int r177.1), o7, o8] [.ref 249] (by decide +kernel) rfl ?_
  refine i_cv (ci := 11) (t := 182) (na := 1) (ml := 1) (idx := 167) (pc' := 2821) (st' := []) (en := [some (.ref 249)]) (av := []) (vo := fun v => some (.int v)) (mo := fun _ => r177.2) (s2 := fun v => .int v :: []) (by decide +kernel) (by decide +kernel) h2 ⟨rfl, rfl, rfl, rfl, rfl, rfl⟩ (fun _ => rfl) (t_182 hN (h0 := h2)) (fun v178 => ?_)
  refine i_bl (pc' := 2823) [(.iload 5, 2)] [some (.ref 2), some (.ref 20), some (.ref 249), some (.ref 266), some (.int x4), some (.int r176.1), some (.int r177.1), o7, o8] [.int r176.1, .int v178] (by decide +kernel) rfl ?_
  refine i_ic (c := .eq) (off := 5) (t := 2828) (pc' := 2826) (p := v178 = r176.1) (by decide +kernel) rfl ?_ ?_
  · refine i_bl (pc' := 2830) [(.iload 5, 2)] [some (.ref 2), some (.ref 20), some (.ref 249), some (.ref 266), some (.int x4), some (.int r176.1), some (.int r177.1), o7, o8] [.int r176.1] (by decide +kernel) rfl ?_
    refine i_if (c := .ne) (off := 15) (t := 2845) (pc' := 2833) (p := ¬ r176.1 = 0) (by decide +kernel) rfl ?_ ?_
    · refine i_go (t := 3271) (off := 426) (by decide +kernel) ?_
      refine i_bl (pc' := 3274) [(.iinc 4 (7), 3)] [some (.ref 2), some (.ref 20), some (.ref 249), some (.ref 266), some (.int (x4 + 7)), some (.int r176.1), some (.int r177.1), o7, o8] [] (by decide +kernel) rfl ?_
      refine i_wb (fun y179 => ev_dn (b - 4) (z - 24) 348 3274 [some (.ref 2), some (.ref 20), some (.ref 249), some (.ref 266), some (.int y179), some (.int r176.1), some (.int r177.1), o7, o8] [] (nx, mem L nx r177.2)) (fun y179 => ?_)
      refine i_go (t := 23) (off := -3251) (by decide +kernel) ?_
      exact i_cL (some (.int r176.1), some (.int r177.1), o7, o8) (b - 4) (z - 24) (by omega) (by omega) rfl
    · refine i_bl (pc' := 2835) [(.aload_n 3, 1), (.iconst 0, 1)] [some (.ref 2), some (.ref 20), some (.ref 249), some (.ref 266), some (.int x4), some (.int r176.1), some (.int r177.1), o7, o8] [.int 0, .ref 266] (by decide +kernel) rfl ?_
      refine i_ll (pc' := 2836) (by decide +kernel) h3 ?_
      refine i_bl (pc' := 2839) [(.iload 6, 2), (.i2l, 1)] [some (.ref 2), some (.ref 20), some (.ref 249), some (.ref 266), some (.int x4), some (.int r176.1), some (.int r177.1), o7, o8] [.long r177.1.toInt64, .long (r177.2 266 (ix 0)).toInt64] (by decide +kernel) rfl ?_
      refine i_lcm (x := (r177.2 266 (ix 0))) (y := r177.1) (pc' := 2840) (by decide +kernel) ?_
      refine i_if (c := .eq) (off := 5) (t := 2845) (pc' := 2843) (p := (ilg (r177.2 266 (ix 0)) r177.1) = 0) (by decide +kernel) rfl ?_ ?_
      · refine i_go (t := 3271) (off := 426) (by decide +kernel) ?_
        refine i_bl (pc' := 3274) [(.iinc 4 (7), 3)] [some (.ref 2), some (.ref 20), some (.ref 249), some (.ref 266), some (.int (x4 + 7)), some (.int r176.1), some (.int r177.1), o7, o8] [] (by decide +kernel) rfl ?_
        refine i_wb (fun y180 => ev_dn (b - 4) (z - 24) 348 3274 [some (.ref 2), some (.ref 20), some (.ref 249), some (.ref 266), some (.int y180), some (.int r176.1), some (.int r177.1), o7, o8] [] (nx, mem L nx r177.2)) (fun y180 => ?_)
        refine i_go (t := 23) (off := -3251) (by decide +kernel) ?_
        exact i_cL (some (.int r176.1), some (.int r177.1), o7, o8) (b - 4) (z - 24) (by omega) (by omega) rfl
      · refine i_bl (pc' := 2844) [(.iconst 0, 1)] [some (.ref 2), some (.ref 20), some (.ref 249), some (.ref 266), some (.int x4), some (.int r176.1), some (.int r177.1), o7, o8] [.int 0] (by decide +kernel) rfl ?_
        exact i_iM (i_rz (B := false) (by decide +kernel) rfl)
  · refine i_bl (pc' := 2827) [(.iconst 0, 1)] [some (.ref 2), some (.ref 20), some (.ref 249), some (.ref 266), some (.int x4), some (.int r176.1), some (.int r177.1), o7, o8] [.int 0] (by decide +kernel) rfl ?_
    exact i_iM (i_rz (B := false) (by decide +kernel) rfl)

noncomputable def d_348_2848 (L : Nat) (x4 : Int32) (m : Mm) : Option ((Int32 × Mm) ⊕ (Bool × Mm)) := if ev_in (x4 + 1) L = true then ((d_342 20 (m 2 (ix (x4 + 1))) 266 m).bind fun r181 => if ev_in (x4 + 1) L = true then ((d_279 249 (r181.2 2 (ix (x4 + 1))) r181.2).bind fun r182 => (d_182 249 r182.2).bind fun v183 => if v183 = r181.1 then (if ¬ r181.1 = 0 then (wb (x4 + 7) fun y184 => some (.inl (y184, r182.2))) else (if ev_in 0 (sh_n 266) = true then (if (ilg (r182.2 266 (ix 0)) r182.1) = 0 then (wb (x4 + 7) fun y185 => some (.inl (y185, r182.2))) else (some (.inr (false, r182.2)))) else none)) else (some (.inr (false, r182.2)))) else none) else none
theorem t_348_2848 {L nx : Nat} (hN : okn nx) {b z : Nat} (hb : 1 ≤ b) (hz : 6 ≤ z) {b0 z0 : Nat} (hb0 : b0 + 1 ≤ b + 4) (hz0 : z0 + 6 ≤ z + 24) {m : Mm} (h0 : ok nx 2 99) (h1 : ok nx 20 10) (h2 : ok nx 249 11) (h3 : ok nx 266 102) {x4 : Int32} {o5 : Option Value} {o6 : Option Value} {o7 : Option Value} {o8 : Option Value} : Im (d_348_2848 L x4 m) (kM (wZ L nx) (fun b z => E_348_23 L nx b z) b0 z0) (ev_dn b z 348 2848 [some (.ref 2), some (.ref 20), some (.ref 249), some (.ref 266), some (.int x4), o5, o6, o7, o8] [] (nx, mem L nx m)) := by
  unfold d_348_2848
  refine i_bl (pc' := 2854) [(.aload_n 1, 1), (.aload_n 0, 1), (.iload 4, 2), (.iconst 1, 1), (.iadd, 1)] [some (.ref 2), some (.ref 20), some (.ref 249), some (.ref 266), some (.int x4), o5, o6, o7, o8] [.int (x4 + 1), .ref 2, .ref 20] (by decide +kernel) rfl ?_
  refine i_aS (pc' := 2855) L (by decide +kernel) rfl h0 ?_
  refine i_bl (pc' := 2856) [(.aload_n 3, 1)] [some (.ref 2), some (.ref 20), some (.ref 249), some (.ref 266), some (.int x4), o5, o6, o7, o8] [.ref 266, .int (m 2 (ix (x4 + 1))), .ref 20] (by decide +kernel) rfl ?_
  refine i_ck (k1 := 1) (k2 := 6) (t := 342) (na := 3) (ml := 4) (idx := 276) (pc' := 2859) (st' := []) (en := [some (.ref 20), some (.int (m 2 (ix (x4 + 1)))), some (.ref 266), none]) (av := [.ref 20, .int (m 2 (ix (x4 + 1))), .ref 266]) (vo := fun v => some (.int v.1)) (mo := fun v => v.2) (s2 := fun v => .int v.1 :: []) (by decide +kernel) ⟨rfl, rfl, rfl, rfl, rfl, rfl⟩ ⟨by omega, by omega⟩ (fun _ => rfl) (t_342 hN (b := 1) (z := 6) (by decide) (by decide) (h0 := h1) (h2 := h3)) (fun r181 => ?_)
  refine i_bl (pc' := 2867) [(.istore 5, 2), (.aload_n 2, 1), (.aload_n 0, 1), (.iload 4, 2), (.iconst 1, 1), (.iadd, 1)] [some (.ref 2), some (.ref 20), some (.ref 249), some (.ref 266), some (.int x4), some (.int r181.1), o6, o7, o8] [.int (x4 + 1), .ref 2, .ref 249] (by decide +kernel) rfl ?_
  refine i_aS (pc' := 2868) L (by decide +kernel) rfl h0 ?_
  refine i_cv (ci := 11) (t := 279) (na := 2) (ml := 3) (idx := 278) (pc' := 2871) (st' := []) (en := [some (.ref 249), some (.int (r181.2 2 (ix (x4 + 1)))), none]) (av := [.int (r181.2 2 (ix (x4 + 1)))]) (vo := fun v => some (.int v.1)) (mo := fun v => v.2) (s2 := fun v => .int v.1 :: []) (by decide +kernel) (by decide +kernel) h2 ⟨rfl, rfl, rfl, rfl, rfl, rfl⟩ (fun _ => rfl) (t_279 hN (h0 := h2)) (fun r182 => ?_)
  refine i_bl (pc' := 2874) [(.istore 6, 2), (.aload_n 2, 1)] [some (.ref 2), some (.ref 20), some (.ref 249), some (.ref 266), some (.int x4), some (.int r181.1), some (.int r182.1), o7, o8] [.ref 249] (by decide +kernel) rfl ?_
  refine i_cv (ci := 11) (t := 182) (na := 1) (ml := 1) (idx := 167) (pc' := 2877) (st' := []) (en := [some (.ref 249)]) (av := []) (vo := fun v => some (.int v)) (mo := fun _ => r182.2) (s2 := fun v => .int v :: []) (by decide +kernel) (by decide +kernel) h2 ⟨rfl, rfl, rfl, rfl, rfl, rfl⟩ (fun _ => rfl) (t_182 hN (h0 := h2)) (fun v183 => ?_)
  refine i_bl (pc' := 2879) [(.iload 5, 2)] [some (.ref 2), some (.ref 20), some (.ref 249), some (.ref 266), some (.int x4), some (.int r181.1), some (.int r182.1), o7, o8] [.int r181.1, .int v183] (by decide +kernel) rfl ?_
  refine i_ic (c := .eq) (off := 5) (t := 2884) (pc' := 2882) (p := v183 = r181.1) (by decide +kernel) rfl ?_ ?_
  · refine i_bl (pc' := 2886) [(.iload 5, 2)] [some (.ref 2), some (.ref 20), some (.ref 249), some (.ref 266), some (.int x4), some (.int r181.1), some (.int r182.1), o7, o8] [.int r181.1] (by decide +kernel) rfl ?_
    refine i_if (c := .ne) (off := 15) (t := 2901) (pc' := 2889) (p := ¬ r181.1 = 0) (by decide +kernel) rfl ?_ ?_
    · refine i_go (t := 3271) (off := 370) (by decide +kernel) ?_
      refine i_bl (pc' := 3274) [(.iinc 4 (7), 3)] [some (.ref 2), some (.ref 20), some (.ref 249), some (.ref 266), some (.int (x4 + 7)), some (.int r181.1), some (.int r182.1), o7, o8] [] (by decide +kernel) rfl ?_
      refine i_wb (fun y184 => ev_dn (b - 1) (z - 6) 348 3274 [some (.ref 2), some (.ref 20), some (.ref 249), some (.ref 266), some (.int y184), some (.int r181.1), some (.int r182.1), o7, o8] [] (nx, mem L nx r182.2)) (fun y184 => ?_)
      refine i_go (t := 23) (off := -3251) (by decide +kernel) ?_
      exact i_cL (some (.int r181.1), some (.int r182.1), o7, o8) (b - 1) (z - 6) (by omega) (by omega) rfl
    · refine i_bl (pc' := 2891) [(.aload_n 3, 1), (.iconst 0, 1)] [some (.ref 2), some (.ref 20), some (.ref 249), some (.ref 266), some (.int x4), some (.int r181.1), some (.int r182.1), o7, o8] [.int 0, .ref 266] (by decide +kernel) rfl ?_
      refine i_ll (pc' := 2892) (by decide +kernel) h3 ?_
      refine i_bl (pc' := 2895) [(.iload 6, 2), (.i2l, 1)] [some (.ref 2), some (.ref 20), some (.ref 249), some (.ref 266), some (.int x4), some (.int r181.1), some (.int r182.1), o7, o8] [.long r182.1.toInt64, .long (r182.2 266 (ix 0)).toInt64] (by decide +kernel) rfl ?_
      refine i_lcm (x := (r182.2 266 (ix 0))) (y := r182.1) (pc' := 2896) (by decide +kernel) ?_
      refine i_if (c := .eq) (off := 5) (t := 2901) (pc' := 2899) (p := (ilg (r182.2 266 (ix 0)) r182.1) = 0) (by decide +kernel) rfl ?_ ?_
      · refine i_go (t := 3271) (off := 370) (by decide +kernel) ?_
        refine i_bl (pc' := 3274) [(.iinc 4 (7), 3)] [some (.ref 2), some (.ref 20), some (.ref 249), some (.ref 266), some (.int (x4 + 7)), some (.int r181.1), some (.int r182.1), o7, o8] [] (by decide +kernel) rfl ?_
        refine i_wb (fun y185 => ev_dn (b - 1) (z - 6) 348 3274 [some (.ref 2), some (.ref 20), some (.ref 249), some (.ref 266), some (.int y185), some (.int r181.1), some (.int r182.1), o7, o8] [] (nx, mem L nx r182.2)) (fun y185 => ?_)
        refine i_go (t := 23) (off := -3251) (by decide +kernel) ?_
        exact i_cL (some (.int r181.1), some (.int r182.1), o7, o8) (b - 1) (z - 6) (by omega) (by omega) rfl
      · refine i_bl (pc' := 2900) [(.iconst 0, 1)] [some (.ref 2), some (.ref 20), some (.ref 249), some (.ref 266), some (.int x4), some (.int r181.1), some (.int r182.1), o7, o8] [.int 0] (by decide +kernel) rfl ?_
        exact i_iM (i_rz (B := false) (by decide +kernel) rfl)
  · refine i_bl (pc' := 2883) [(.iconst 0, 1)] [some (.ref 2), some (.ref 20), some (.ref 249), some (.ref 266), some (.int x4), some (.int r181.1), some (.int r182.1), o7, o8] [.int 0] (by decide +kernel) rfl ?_
    exact i_iM (i_rz (B := false) (by decide +kernel) rfl)

noncomputable def d_348_2904 (L : Nat) (x4 : Int32) (m : Mm) : Option ((Int32 × Mm) ⊕ (Bool × Mm)) := if ev_in (x4 + 1) L = true then (if ev_in (x4 + 2) L = true then ((d_343 20 (m 2 (ix (x4 + 1))) (m 2 (ix (x4 + 2))) 266 m).bind fun r186 => if ev_in (x4 + 1) L = true then (if ev_in (x4 + 2) L = true then ((d_281 249 (r186.2 2 (ix (x4 + 1))) (r186.2 2 (ix (x4 + 2))) r186.2).bind fun r187 => (d_182 249 r187.2).bind fun v188 => if v188 = r186.1 then (if ¬ r186.1 = 0 then (wb (x4 + 7) fun y189 => some (.inl (y189, r187.2))) else (if ev_in 0 (sh_n 266) = true then (if (ilg (r187.2 266 (ix 0)) r187.1) = 0 then (wb (x4 + 7) fun y190 => some (.inl (y190, r187.2))) else (some (.inr (false, r187.2)))) else none)) else (some (.inr (false, r187.2)))) else none) else none) else none) else none
theorem t_348_2904 {L nx : Nat} (hN : okn nx) {b z : Nat} (hb : 4 ≤ b) (hz : 24 ≤ z) {b0 z0 : Nat} (hb0 : b0 + 4 ≤ b + 4) (hz0 : z0 + 24 ≤ z + 24) {m : Mm} (h0 : ok nx 2 99) (h1 : ok nx 20 10) (h2 : ok nx 249 11) (h3 : ok nx 266 102) {x4 : Int32} {o5 : Option Value} {o6 : Option Value} {o7 : Option Value} {o8 : Option Value} : Im (d_348_2904 L x4 m) (kM (wZ L nx) (fun b z => E_348_23 L nx b z) b0 z0) (ev_dn b z 348 2904 [some (.ref 2), some (.ref 20), some (.ref 249), some (.ref 266), some (.int x4), o5, o6, o7, o8] [] (nx, mem L nx m)) := by
  unfold d_348_2904
  refine i_bl (pc' := 2910) [(.aload_n 1, 1), (.aload_n 0, 1), (.iload 4, 2), (.iconst 1, 1), (.iadd, 1)] [some (.ref 2), some (.ref 20), some (.ref 249), some (.ref 266), some (.int x4), o5, o6, o7, o8] [.int (x4 + 1), .ref 2, .ref 20] (by decide +kernel) rfl ?_
  refine i_aS (pc' := 2911) L (by decide +kernel) rfl h0 ?_
  refine i_bl (pc' := 2916) [(.aload_n 0, 1), (.iload 4, 2), (.iconst 2, 1), (.iadd, 1)] [some (.ref 2), some (.ref 20), some (.ref 249), some (.ref 266), some (.int x4), o5, o6, o7, o8] [.int (x4 + 2), .ref 2, .int (m 2 (ix (x4 + 1))), .ref 20] (by decide +kernel) rfl ?_
  refine i_aS (pc' := 2917) L (by decide +kernel) rfl h0 ?_
  refine i_bl (pc' := 2918) [(.aload_n 3, 1)] [some (.ref 2), some (.ref 20), some (.ref 249), some (.ref 266), some (.int x4), o5, o6, o7, o8] [.ref 266, .int (m 2 (ix (x4 + 2))), .int (m 2 (ix (x4 + 1))), .ref 20] (by decide +kernel) rfl ?_
  refine i_ck (k1 := 4) (k2 := 24) (t := 343) (na := 4) (ml := 5) (idx := 279) (pc' := 2921) (st' := []) (en := [some (.ref 20), some (.int (m 2 (ix (x4 + 1)))), some (.int (m 2 (ix (x4 + 2)))), some (.ref 266), none]) (av := [.ref 20, .int (m 2 (ix (x4 + 1))), .int (m 2 (ix (x4 + 2))), .ref 266]) (vo := fun v => some (.int v.1)) (mo := fun v => v.2) (s2 := fun v => .int v.1 :: []) (by decide +kernel) ⟨rfl, rfl, rfl, rfl, rfl, rfl⟩ ⟨by omega, by omega⟩ (fun _ => rfl) (t_343 hN (b := 4) (z := 24) (by decide) (by decide) (h0 := h1) (h3 := h3)) (fun r186 => ?_)
  refine i_bl (pc' := 2929) [(.istore 5, 2), (.aload_n 2, 1), (.aload_n 0, 1), (.iload 4, 2), (.iconst 1, 1), (.iadd, 1)] [some (.ref 2), some (.ref 20), some (.ref 249), some (.ref 266), some (.int x4), some (.int r186.1), o6, o7, o8] [.int (x4 + 1), .ref 2, .ref 249] (by decide +kernel) rfl ?_
  refine i_aS (pc' := 2930) L (by decide +kernel) rfl h0 ?_
  refine i_bl (pc' := 2935) [(.aload_n 0, 1), (.iload 4, 2), (.iconst 2, 1), (.iadd, 1)] [some (.ref 2), some (.ref 20), some (.ref 249), some (.ref 266), some (.int x4), some (.int r186.1), o6, o7, o8] [.int (x4 + 2), .ref 2, .int (r186.2 2 (ix (x4 + 1))), .ref 249] (by decide +kernel) rfl ?_
  refine i_aS (pc' := 2936) L (by decide +kernel) rfl h0 ?_
  refine i_cv (ci := 11) (t := 281) (na := 3) (ml := 4) (idx := 281) (pc' := 2939) (st' := []) (en := [some (.ref 249), some (.int (r186.2 2 (ix (x4 + 1)))), some (.int (r186.2 2 (ix (x4 + 2)))), none]) (av := [.int (r186.2 2 (ix (x4 + 1))), .int (r186.2 2 (ix (x4 + 2)))]) (vo := fun v => some (.int v.1)) (mo := fun v => v.2) (s2 := fun v => .int v.1 :: []) (by decide +kernel) (by decide +kernel) h2 ⟨rfl, rfl, rfl, rfl, rfl, rfl⟩ (fun _ => rfl) (t_281 hN (h0 := h2)) (fun r187 => ?_)
  refine i_bl (pc' := 2942) [(.istore 6, 2), (.aload_n 2, 1)] [some (.ref 2), some (.ref 20), some (.ref 249), some (.ref 266), some (.int x4), some (.int r186.1), some (.int r187.1), o7, o8] [.ref 249] (by decide +kernel) rfl ?_
  refine i_cv (ci := 11) (t := 182) (na := 1) (ml := 1) (idx := 167) (pc' := 2945) (st' := []) (en := [some (.ref 249)]) (av := []) (vo := fun v => some (.int v)) (mo := fun _ => r187.2) (s2 := fun v => .int v :: []) (by decide +kernel) (by decide +kernel) h2 ⟨rfl, rfl, rfl, rfl, rfl, rfl⟩ (fun _ => rfl) (t_182 hN (h0 := h2)) (fun v188 => ?_)
  refine i_bl (pc' := 2947) [(.iload 5, 2)] [some (.ref 2), some (.ref 20), some (.ref 249), some (.ref 266), some (.int x4), some (.int r186.1), some (.int r187.1), o7, o8] [.int r186.1, .int v188] (by decide +kernel) rfl ?_
  refine i_ic (c := .eq) (off := 5) (t := 2952) (pc' := 2950) (p := v188 = r186.1) (by decide +kernel) rfl ?_ ?_
  · refine i_bl (pc' := 2954) [(.iload 5, 2)] [some (.ref 2), some (.ref 20), some (.ref 249), some (.ref 266), some (.int x4), some (.int r186.1), some (.int r187.1), o7, o8] [.int r186.1] (by decide +kernel) rfl ?_
    refine i_if (c := .ne) (off := 15) (t := 2969) (pc' := 2957) (p := ¬ r186.1 = 0) (by decide +kernel) rfl ?_ ?_
    · refine i_go (t := 3271) (off := 302) (by decide +kernel) ?_
      refine i_bl (pc' := 3274) [(.iinc 4 (7), 3)] [some (.ref 2), some (.ref 20), some (.ref 249), some (.ref 266), some (.int (x4 + 7)), some (.int r186.1), some (.int r187.1), o7, o8] [] (by decide +kernel) rfl ?_
      refine i_wb (fun y189 => ev_dn (b - 4) (z - 24) 348 3274 [some (.ref 2), some (.ref 20), some (.ref 249), some (.ref 266), some (.int y189), some (.int r186.1), some (.int r187.1), o7, o8] [] (nx, mem L nx r187.2)) (fun y189 => ?_)
      refine i_go (t := 23) (off := -3251) (by decide +kernel) ?_
      exact i_cL (some (.int r186.1), some (.int r187.1), o7, o8) (b - 4) (z - 24) (by omega) (by omega) rfl
    · refine i_bl (pc' := 2959) [(.aload_n 3, 1), (.iconst 0, 1)] [some (.ref 2), some (.ref 20), some (.ref 249), some (.ref 266), some (.int x4), some (.int r186.1), some (.int r187.1), o7, o8] [.int 0, .ref 266] (by decide +kernel) rfl ?_
      refine i_ll (pc' := 2960) (by decide +kernel) h3 ?_
      refine i_bl (pc' := 2963) [(.iload 6, 2), (.i2l, 1)] [some (.ref 2), some (.ref 20), some (.ref 249), some (.ref 266), some (.int x4), some (.int r186.1), some (.int r187.1), o7, o8] [.long r187.1.toInt64, .long (r187.2 266 (ix 0)).toInt64] (by decide +kernel) rfl ?_
      refine i_lcm (x := (r187.2 266 (ix 0))) (y := r187.1) (pc' := 2964) (by decide +kernel) ?_
      refine i_if (c := .eq) (off := 5) (t := 2969) (pc' := 2967) (p := (ilg (r187.2 266 (ix 0)) r187.1) = 0) (by decide +kernel) rfl ?_ ?_
      · refine i_go (t := 3271) (off := 302) (by decide +kernel) ?_
        refine i_bl (pc' := 3274) [(.iinc 4 (7), 3)] [some (.ref 2), some (.ref 20), some (.ref 249), some (.ref 266), some (.int (x4 + 7)), some (.int r186.1), some (.int r187.1), o7, o8] [] (by decide +kernel) rfl ?_
        refine i_wb (fun y190 => ev_dn (b - 4) (z - 24) 348 3274 [some (.ref 2), some (.ref 20), some (.ref 249), some (.ref 266), some (.int y190), some (.int r186.1), some (.int r187.1), o7, o8] [] (nx, mem L nx r187.2)) (fun y190 => ?_)
        refine i_go (t := 23) (off := -3251) (by decide +kernel) ?_
        exact i_cL (some (.int r186.1), some (.int r187.1), o7, o8) (b - 4) (z - 24) (by omega) (by omega) rfl
      · refine i_bl (pc' := 2968) [(.iconst 0, 1)] [some (.ref 2), some (.ref 20), some (.ref 249), some (.ref 266), some (.int x4), some (.int r186.1), some (.int r187.1), o7, o8] [.int 0] (by decide +kernel) rfl ?_
        exact i_iM (i_rz (B := false) (by decide +kernel) rfl)
  · refine i_bl (pc' := 2951) [(.iconst 0, 1)] [some (.ref 2), some (.ref 20), some (.ref 249), some (.ref 266), some (.int x4), some (.int r186.1), some (.int r187.1), o7, o8] [.int 0] (by decide +kernel) rfl ?_
    exact i_iM (i_rz (B := false) (by decide +kernel) rfl)

noncomputable def d_348_2972 (L : Nat) (x4 : Int32) (m : Mm) : Option ((Int32 × Mm) ⊕ (Bool × Mm)) := (d_344 20 266 m).bind fun r191 => (d_190 249 r191.2).bind fun r192 => (d_182 249 r192.2).bind fun v193 => if v193 = r191.1 then (if ¬ r191.1 = 0 then (wb (x4 + 7) fun y194 => some (.inl (y194, r192.2))) else (if ev_in 0 (sh_n 266) = true then (if (ilg (r192.2 266 (ix 0)) r192.1) = 0 then (wb (x4 + 7) fun y195 => some (.inl (y195, r192.2))) else (some (.inr (false, r192.2)))) else none)) else (some (.inr (false, r192.2)))
theorem t_348_2972 {L nx : Nat} (hN : okn nx) {b z : Nat} (hb : 1 ≤ b) (hz : 6 ≤ z) {b0 z0 : Nat} (hb0 : b0 + 1 ≤ b + 4) (hz0 : z0 + 6 ≤ z + 24) {m : Mm} (h0 : ok nx 2 99) (h1 : ok nx 20 10) (h2 : ok nx 249 11) (h3 : ok nx 266 102) {x4 : Int32} {o5 : Option Value} {o6 : Option Value} {o7 : Option Value} {o8 : Option Value} : Im (d_348_2972 L x4 m) (kM (wZ L nx) (fun b z => E_348_23 L nx b z) b0 z0) (ev_dn b z 348 2972 [some (.ref 2), some (.ref 20), some (.ref 249), some (.ref 266), some (.int x4), o5, o6, o7, o8] [] (nx, mem L nx m)) := by
  unfold d_348_2972
  refine i_bl (pc' := 2974) [(.aload_n 1, 1), (.aload_n 3, 1)] [some (.ref 2), some (.ref 20), some (.ref 249), some (.ref 266), some (.int x4), o5, o6, o7, o8] [.ref 266, .ref 20] (by decide +kernel) rfl ?_
  refine i_ck (k1 := 1) (k2 := 6) (t := 344) (na := 2) (ml := 3) (idx := 282) (pc' := 2977) (st' := []) (en := [some (.ref 20), some (.ref 266), none]) (av := [.ref 20, .ref 266]) (vo := fun v => some (.int v.1)) (mo := fun v => v.2) (s2 := fun v => .int v.1 :: []) (by decide +kernel) ⟨rfl, rfl, rfl, rfl, rfl, rfl⟩ ⟨by omega, by omega⟩ (fun _ => rfl) (t_344 hN (b := 1) (z := 6) (by decide) (by decide) (h0 := h1) (h1 := h3)) (fun r191 => ?_)
  refine i_bl (pc' := 2980) [(.istore 5, 2), (.aload_n 2, 1)] [some (.ref 2), some (.ref 20), some (.ref 249), some (.ref 266), some (.int x4), some (.int r191.1), o6, o7, o8] [.ref 249] (by decide +kernel) rfl ?_
  refine i_cv (ci := 11) (t := 190) (na := 1) (ml := 2) (idx := 284) (pc' := 2983) (st' := []) (en := [some (.ref 249), none]) (av := []) (vo := fun v => some (.int v.1)) (mo := fun v => v.2) (s2 := fun v => .int v.1 :: []) (by decide +kernel) (by decide +kernel) h2 ⟨rfl, rfl, rfl, rfl, rfl, rfl⟩ (fun _ => rfl) (t_190 hN (h0 := h2)) (fun r192 => ?_)
  refine i_bl (pc' := 2986) [(.istore 6, 2), (.aload_n 2, 1)] [some (.ref 2), some (.ref 20), some (.ref 249), some (.ref 266), some (.int x4), some (.int r191.1), some (.int r192.1), o7, o8] [.ref 249] (by decide +kernel) rfl ?_
  refine i_cv (ci := 11) (t := 182) (na := 1) (ml := 1) (idx := 167) (pc' := 2989) (st' := []) (en := [some (.ref 249)]) (av := []) (vo := fun v => some (.int v)) (mo := fun _ => r192.2) (s2 := fun v => .int v :: []) (by decide +kernel) (by decide +kernel) h2 ⟨rfl, rfl, rfl, rfl, rfl, rfl⟩ (fun _ => rfl) (t_182 hN (h0 := h2)) (fun v193 => ?_)
  refine i_bl (pc' := 2991) [(.iload 5, 2)] [some (.ref 2), some (.ref 20), some (.ref 249), some (.ref 266), some (.int x4), some (.int r191.1), some (.int r192.1), o7, o8] [.int r191.1, .int v193] (by decide +kernel) rfl ?_
  refine i_ic (c := .eq) (off := 5) (t := 2996) (pc' := 2994) (p := v193 = r191.1) (by decide +kernel) rfl ?_ ?_
  · refine i_bl (pc' := 2998) [(.iload 5, 2)] [some (.ref 2), some (.ref 20), some (.ref 249), some (.ref 266), some (.int x4), some (.int r191.1), some (.int r192.1), o7, o8] [.int r191.1] (by decide +kernel) rfl ?_
    refine i_if (c := .ne) (off := 15) (t := 3013) (pc' := 3001) (p := ¬ r191.1 = 0) (by decide +kernel) rfl ?_ ?_
    · refine i_go (t := 3271) (off := 258) (by decide +kernel) ?_
      refine i_bl (pc' := 3274) [(.iinc 4 (7), 3)] [some (.ref 2), some (.ref 20), some (.ref 249), some (.ref 266), some (.int (x4 + 7)), some (.int r191.1), some (.int r192.1), o7, o8] [] (by decide +kernel) rfl ?_
      refine i_wb (fun y194 => ev_dn (b - 1) (z - 6) 348 3274 [some (.ref 2), some (.ref 20), some (.ref 249), some (.ref 266), some (.int y194), some (.int r191.1), some (.int r192.1), o7, o8] [] (nx, mem L nx r192.2)) (fun y194 => ?_)
      refine i_go (t := 23) (off := -3251) (by decide +kernel) ?_
      exact i_cL (some (.int r191.1), some (.int r192.1), o7, o8) (b - 1) (z - 6) (by omega) (by omega) rfl
    · refine i_bl (pc' := 3003) [(.aload_n 3, 1), (.iconst 0, 1)] [some (.ref 2), some (.ref 20), some (.ref 249), some (.ref 266), some (.int x4), some (.int r191.1), some (.int r192.1), o7, o8] [.int 0, .ref 266] (by decide +kernel) rfl ?_
      refine i_ll (pc' := 3004) (by decide +kernel) h3 ?_
      refine i_bl (pc' := 3007) [(.iload 6, 2), (.i2l, 1)] [some (.ref 2), some (.ref 20), some (.ref 249), some (.ref 266), some (.int x4), some (.int r191.1), some (.int r192.1), o7, o8] [.long r192.1.toInt64, .long (r192.2 266 (ix 0)).toInt64] (by decide +kernel) rfl ?_
      refine i_lcm (x := (r192.2 266 (ix 0))) (y := r192.1) (pc' := 3008) (by decide +kernel) ?_
      refine i_if (c := .eq) (off := 5) (t := 3013) (pc' := 3011) (p := (ilg (r192.2 266 (ix 0)) r192.1) = 0) (by decide +kernel) rfl ?_ ?_
      · refine i_go (t := 3271) (off := 258) (by decide +kernel) ?_
        refine i_bl (pc' := 3274) [(.iinc 4 (7), 3)] [some (.ref 2), some (.ref 20), some (.ref 249), some (.ref 266), some (.int (x4 + 7)), some (.int r191.1), some (.int r192.1), o7, o8] [] (by decide +kernel) rfl ?_
        refine i_wb (fun y195 => ev_dn (b - 1) (z - 6) 348 3274 [some (.ref 2), some (.ref 20), some (.ref 249), some (.ref 266), some (.int y195), some (.int r191.1), some (.int r192.1), o7, o8] [] (nx, mem L nx r192.2)) (fun y195 => ?_)
        refine i_go (t := 23) (off := -3251) (by decide +kernel) ?_
        exact i_cL (some (.int r191.1), some (.int r192.1), o7, o8) (b - 1) (z - 6) (by omega) (by omega) rfl
      · refine i_bl (pc' := 3012) [(.iconst 0, 1)] [some (.ref 2), some (.ref 20), some (.ref 249), some (.ref 266), some (.int x4), some (.int r191.1), some (.int r192.1), o7, o8] [.int 0] (by decide +kernel) rfl ?_
        exact i_iM (i_rz (B := false) (by decide +kernel) rfl)
  · refine i_bl (pc' := 2995) [(.iconst 0, 1)] [some (.ref 2), some (.ref 20), some (.ref 249), some (.ref 266), some (.int x4), some (.int r191.1), some (.int r192.1), o7, o8] [.int 0] (by decide +kernel) rfl ?_
    exact i_iM (i_rz (B := false) (by decide +kernel) rfl)

noncomputable def d_348_3016 (L : Nat) (x4 : Int32) (m : Mm) : Option ((Int32 × Mm) ⊕ (Bool × Mm)) := if ev_in (x4 + 1) L = true then (if ev_in (x4 + 2) L = true then ((d_345 20 (m 2 (ix (x4 + 1))) (m 2 (ix (x4 + 2))) 266 m).bind fun r196 => if ev_in (x4 + 1) L = true then (if ev_in (x4 + 2) L = true then ((d_306 249 (r196.2 2 (ix (x4 + 1))) (r196.2 2 (ix (x4 + 2))) r196.2).bind fun r197 => (d_182 249 r197.2).bind fun v198 => if v198 = r196.1 then (if ¬ r196.1 = 0 then (wb (x4 + 7) fun y199 => some (.inl (y199, r197.2))) else (if ev_in 0 (sh_n 266) = true then (if (ilg (r197.2 266 (ix 0)) r197.1) = 0 then (wb (x4 + 7) fun y200 => some (.inl (y200, r197.2))) else (some (.inr (false, r197.2)))) else none)) else (some (.inr (false, r197.2)))) else none) else none) else none) else none
theorem t_348_3016 {L nx : Nat} (hN : okn nx) {b z : Nat} (hb : 2 ≤ b) (hz : 12 ≤ z) {b0 z0 : Nat} (hb0 : b0 + 2 ≤ b + 4) (hz0 : z0 + 12 ≤ z + 24) {m : Mm} (h0 : ok nx 2 99) (h1 : ok nx 20 10) (h2 : ok nx 249 11) (h3 : ok nx 266 102) {x4 : Int32} {o5 : Option Value} {o6 : Option Value} {o7 : Option Value} {o8 : Option Value} : Im (d_348_3016 L x4 m) (kM (wZ L nx) (fun b z => E_348_23 L nx b z) b0 z0) (ev_dn b z 348 3016 [some (.ref 2), some (.ref 20), some (.ref 249), some (.ref 266), some (.int x4), o5, o6, o7, o8] [] (nx, mem L nx m)) := by
  unfold d_348_3016
  refine i_bl (pc' := 3022) [(.aload_n 1, 1), (.aload_n 0, 1), (.iload 4, 2), (.iconst 1, 1), (.iadd, 1)] [some (.ref 2), some (.ref 20), some (.ref 249), some (.ref 266), some (.int x4), o5, o6, o7, o8] [.int (x4 + 1), .ref 2, .ref 20] (by decide +kernel) rfl ?_
  refine i_aS (pc' := 3023) L (by decide +kernel) rfl h0 ?_
  refine i_bl (pc' := 3028) [(.aload_n 0, 1), (.iload 4, 2), (.iconst 2, 1), (.iadd, 1)] [some (.ref 2), some (.ref 20), some (.ref 249), some (.ref 266), some (.int x4), o5, o6, o7, o8] [.int (x4 + 2), .ref 2, .int (m 2 (ix (x4 + 1))), .ref 20] (by decide +kernel) rfl ?_
  refine i_aS (pc' := 3029) L (by decide +kernel) rfl h0 ?_
  refine i_bl (pc' := 3030) [(.aload_n 3, 1)] [some (.ref 2), some (.ref 20), some (.ref 249), some (.ref 266), some (.int x4), o5, o6, o7, o8] [.ref 266, .int (m 2 (ix (x4 + 2))), .int (m 2 (ix (x4 + 1))), .ref 20] (by decide +kernel) rfl ?_
  refine i_ck (k1 := 2) (k2 := 12) (t := 345) (na := 4) (ml := 5) (idx := 285) (pc' := 3033) (st' := []) (en := [some (.ref 20), some (.int (m 2 (ix (x4 + 1)))), some (.int (m 2 (ix (x4 + 2)))), some (.ref 266), none]) (av := [.ref 20, .int (m 2 (ix (x4 + 1))), .int (m 2 (ix (x4 + 2))), .ref 266]) (vo := fun v => some (.int v.1)) (mo := fun v => v.2) (s2 := fun v => .int v.1 :: []) (by decide +kernel) ⟨rfl, rfl, rfl, rfl, rfl, rfl⟩ ⟨by omega, by omega⟩ (fun _ => rfl) (t_345 hN (b := 2) (z := 12) (by decide) (by decide) (h0 := h1) (h3 := h3)) (fun r196 => ?_)
  refine i_bl (pc' := 3041) [(.istore 5, 2), (.aload_n 2, 1), (.aload_n 0, 1), (.iload 4, 2), (.iconst 1, 1), (.iadd, 1)] [some (.ref 2), some (.ref 20), some (.ref 249), some (.ref 266), some (.int x4), some (.int r196.1), o6, o7, o8] [.int (x4 + 1), .ref 2, .ref 249] (by decide +kernel) rfl ?_
  refine i_aS (pc' := 3042) L (by decide +kernel) rfl h0 ?_
  refine i_bl (pc' := 3047) [(.aload_n 0, 1), (.iload 4, 2), (.iconst 2, 1), (.iadd, 1)] [some (.ref 2), some (.ref 20), some (.ref 249), some (.ref 266), some (.int x4), some (.int r196.1), o6, o7, o8] [.int (x4 + 2), .ref 2, .int (r196.2 2 (ix (x4 + 1))), .ref 249] (by decide +kernel) rfl ?_
  refine i_aS (pc' := 3048) L (by decide +kernel) rfl h0 ?_
  refine i_cv (ci := 11) (t := 306) (na := 3) (ml := 4) (idx := 287) (pc' := 3051) (st' := []) (en := [some (.ref 249), some (.int (r196.2 2 (ix (x4 + 1)))), some (.int (r196.2 2 (ix (x4 + 2)))), none]) (av := [.int (r196.2 2 (ix (x4 + 1))), .int (r196.2 2 (ix (x4 + 2)))]) (vo := fun v => some (.int v.1)) (mo := fun v => v.2) (s2 := fun v => .int v.1 :: []) (by decide +kernel) (by decide +kernel) h2 ⟨rfl, rfl, rfl, rfl, rfl, rfl⟩ (fun _ => rfl) (t_306 hN (h0 := h2)) (fun r197 => ?_)
  refine i_bl (pc' := 3054) [(.istore 6, 2), (.aload_n 2, 1)] [some (.ref 2), some (.ref 20), some (.ref 249), some (.ref 266), some (.int x4), some (.int r196.1), some (.int r197.1), o7, o8] [.ref 249] (by decide +kernel) rfl ?_
  refine i_cv (ci := 11) (t := 182) (na := 1) (ml := 1) (idx := 167) (pc' := 3057) (st' := []) (en := [some (.ref 249)]) (av := []) (vo := fun v => some (.int v)) (mo := fun _ => r197.2) (s2 := fun v => .int v :: []) (by decide +kernel) (by decide +kernel) h2 ⟨rfl, rfl, rfl, rfl, rfl, rfl⟩ (fun _ => rfl) (t_182 hN (h0 := h2)) (fun v198 => ?_)
  refine i_bl (pc' := 3059) [(.iload 5, 2)] [some (.ref 2), some (.ref 20), some (.ref 249), some (.ref 266), some (.int x4), some (.int r196.1), some (.int r197.1), o7, o8] [.int r196.1, .int v198] (by decide +kernel) rfl ?_
  refine i_ic (c := .eq) (off := 5) (t := 3064) (pc' := 3062) (p := v198 = r196.1) (by decide +kernel) rfl ?_ ?_
  · refine i_bl (pc' := 3066) [(.iload 5, 2)] [some (.ref 2), some (.ref 20), some (.ref 249), some (.ref 266), some (.int x4), some (.int r196.1), some (.int r197.1), o7, o8] [.int r196.1] (by decide +kernel) rfl ?_
    refine i_if (c := .ne) (off := 15) (t := 3081) (pc' := 3069) (p := ¬ r196.1 = 0) (by decide +kernel) rfl ?_ ?_
    · refine i_go (t := 3271) (off := 190) (by decide +kernel) ?_
      refine i_bl (pc' := 3274) [(.iinc 4 (7), 3)] [some (.ref 2), some (.ref 20), some (.ref 249), some (.ref 266), some (.int (x4 + 7)), some (.int r196.1), some (.int r197.1), o7, o8] [] (by decide +kernel) rfl ?_
      refine i_wb (fun y199 => ev_dn (b - 2) (z - 12) 348 3274 [some (.ref 2), some (.ref 20), some (.ref 249), some (.ref 266), some (.int y199), some (.int r196.1), some (.int r197.1), o7, o8] [] (nx, mem L nx r197.2)) (fun y199 => ?_)
      refine i_go (t := 23) (off := -3251) (by decide +kernel) ?_
      exact i_cL (some (.int r196.1), some (.int r197.1), o7, o8) (b - 2) (z - 12) (by omega) (by omega) rfl
    · refine i_bl (pc' := 3071) [(.aload_n 3, 1), (.iconst 0, 1)] [some (.ref 2), some (.ref 20), some (.ref 249), some (.ref 266), some (.int x4), some (.int r196.1), some (.int r197.1), o7, o8] [.int 0, .ref 266] (by decide +kernel) rfl ?_
      refine i_ll (pc' := 3072) (by decide +kernel) h3 ?_
      refine i_bl (pc' := 3075) [(.iload 6, 2), (.i2l, 1)] [some (.ref 2), some (.ref 20), some (.ref 249), some (.ref 266), some (.int x4), some (.int r196.1), some (.int r197.1), o7, o8] [.long r197.1.toInt64, .long (r197.2 266 (ix 0)).toInt64] (by decide +kernel) rfl ?_
      refine i_lcm (x := (r197.2 266 (ix 0))) (y := r197.1) (pc' := 3076) (by decide +kernel) ?_
      refine i_if (c := .eq) (off := 5) (t := 3081) (pc' := 3079) (p := (ilg (r197.2 266 (ix 0)) r197.1) = 0) (by decide +kernel) rfl ?_ ?_
      · refine i_go (t := 3271) (off := 190) (by decide +kernel) ?_
        refine i_bl (pc' := 3274) [(.iinc 4 (7), 3)] [some (.ref 2), some (.ref 20), some (.ref 249), some (.ref 266), some (.int (x4 + 7)), some (.int r196.1), some (.int r197.1), o7, o8] [] (by decide +kernel) rfl ?_
        refine i_wb (fun y200 => ev_dn (b - 2) (z - 12) 348 3274 [some (.ref 2), some (.ref 20), some (.ref 249), some (.ref 266), some (.int y200), some (.int r196.1), some (.int r197.1), o7, o8] [] (nx, mem L nx r197.2)) (fun y200 => ?_)
        refine i_go (t := 23) (off := -3251) (by decide +kernel) ?_
        exact i_cL (some (.int r196.1), some (.int r197.1), o7, o8) (b - 2) (z - 12) (by omega) (by omega) rfl
      · refine i_bl (pc' := 3080) [(.iconst 0, 1)] [some (.ref 2), some (.ref 20), some (.ref 249), some (.ref 266), some (.int x4), some (.int r196.1), some (.int r197.1), o7, o8] [.int 0] (by decide +kernel) rfl ?_
        exact i_iM (i_rz (B := false) (by decide +kernel) rfl)
  · refine i_bl (pc' := 3063) [(.iconst 0, 1)] [some (.ref 2), some (.ref 20), some (.ref 249), some (.ref 266), some (.int x4), some (.int r196.1), some (.int r197.1), o7, o8] [.int 0] (by decide +kernel) rfl ?_
    exact i_iM (i_rz (B := false) (by decide +kernel) rfl)

noncomputable def d_348_3084 (L : Nat) (x4 : Int32) (m : Mm) : Option ((Int32 × Mm) ⊕ (Bool × Mm)) := if ev_in (x4 + 1) L = true then (if ev_in (x4 + 2) L = true then (if ev_in (x4 + 3) L = true then (if ev_in (x4 + 4) L = true then ((d_346 20 (m 2 (ix (x4 + 1))) (m 2 (ix (x4 + 2))) (m 2 (ix (x4 + 3))) (m 2 (ix (x4 + 4))) 266 m).bind fun r201 => if ev_in (x4 + 1) L = true then (if ev_in (x4 + 2) L = true then (if ev_in (x4 + 3) L = true then (if ev_in (x4 + 4) L = true then ((d_307 249 (r201.2 2 (ix (x4 + 1))) (r201.2 2 (ix (x4 + 2))) (r201.2 2 (ix (x4 + 3))) (r201.2 2 (ix (x4 + 4))) r201.2).bind fun r202 => (d_182 249 r202.2).bind fun v203 => if v203 = r201.1 then (if ¬ r201.1 = 0 then (wb (x4 + 7) fun y204 => some (.inl (y204, r202.2))) else (if ev_in 0 (sh_n 266) = true then (if (ilg (r202.2 266 (ix 0)) r202.1) = 0 then (wb (x4 + 7) fun y205 => some (.inl (y205, r202.2))) else (some (.inr (false, r202.2)))) else none)) else (some (.inr (false, r202.2)))) else none) else none) else none) else none) else none) else none) else none) else none
theorem t_348_3084 {L nx : Nat} (hN : okn nx) {b z : Nat} (hb : 2 ≤ b) (hz : 12 ≤ z) {b0 z0 : Nat} (hb0 : b0 + 2 ≤ b + 4) (hz0 : z0 + 12 ≤ z + 24) {m : Mm} (h0 : ok nx 2 99) (h1 : ok nx 20 10) (h2 : ok nx 249 11) (h3 : ok nx 266 102) {x4 : Int32} {o5 : Option Value} {o6 : Option Value} {o7 : Option Value} {o8 : Option Value} : Im (d_348_3084 L x4 m) (kM (wZ L nx) (fun b z => E_348_23 L nx b z) b0 z0) (ev_dn b z 348 3084 [some (.ref 2), some (.ref 20), some (.ref 249), some (.ref 266), some (.int x4), o5, o6, o7, o8] [] (nx, mem L nx m)) := by
  unfold d_348_3084
  refine i_bl (pc' := 3090) [(.aload_n 1, 1), (.aload_n 0, 1), (.iload 4, 2), (.iconst 1, 1), (.iadd, 1)] [some (.ref 2), some (.ref 20), some (.ref 249), some (.ref 266), some (.int x4), o5, o6, o7, o8] [.int (x4 + 1), .ref 2, .ref 20] (by decide +kernel) rfl ?_
  refine i_aS (pc' := 3091) L (by decide +kernel) rfl h0 ?_
  refine i_bl (pc' := 3096) [(.aload_n 0, 1), (.iload 4, 2), (.iconst 2, 1), (.iadd, 1)] [some (.ref 2), some (.ref 20), some (.ref 249), some (.ref 266), some (.int x4), o5, o6, o7, o8] [.int (x4 + 2), .ref 2, .int (m 2 (ix (x4 + 1))), .ref 20] (by decide +kernel) rfl ?_
  refine i_aS (pc' := 3097) L (by decide +kernel) rfl h0 ?_
  refine i_bl (pc' := 3102) [(.aload_n 0, 1), (.iload 4, 2), (.iconst 3, 1), (.iadd, 1)] [some (.ref 2), some (.ref 20), some (.ref 249), some (.ref 266), some (.int x4), o5, o6, o7, o8] [.int (x4 + 3), .ref 2, .int (m 2 (ix (x4 + 2))), .int (m 2 (ix (x4 + 1))), .ref 20] (by decide +kernel) rfl ?_
  refine i_aS (pc' := 3103) L (by decide +kernel) rfl h0 ?_
  refine i_bl (pc' := 3108) [(.aload_n 0, 1), (.iload 4, 2), (.iconst 4, 1), (.iadd, 1)] [some (.ref 2), some (.ref 20), some (.ref 249), some (.ref 266), some (.int x4), o5, o6, o7, o8] [.int (x4 + 4), .ref 2, .int (m 2 (ix (x4 + 3))), .int (m 2 (ix (x4 + 2))), .int (m 2 (ix (x4 + 1))), .ref 20] (by decide +kernel) rfl ?_
  refine i_aS (pc' := 3109) L (by decide +kernel) rfl h0 ?_
  refine i_bl (pc' := 3110) [(.aload_n 3, 1)] [some (.ref 2), some (.ref 20), some (.ref 249), some (.ref 266), some (.int x4), o5, o6, o7, o8] [.ref 266, .int (m 2 (ix (x4 + 4))), .int (m 2 (ix (x4 + 3))), .int (m 2 (ix (x4 + 2))), .int (m 2 (ix (x4 + 1))), .ref 20] (by decide +kernel) rfl ?_
  refine i_ck (k1 := 2) (k2 := 12) (t := 346) (na := 6) (ml := 7) (idx := 288) (pc' := 3113) (st' := []) (en := [some (.ref 20), some (.int (m 2 (ix (x4 + 1)))), some (.int (m 2 (ix (x4 + 2)))), some (.int (m 2 (ix (x4 + 3)))), some (.int (m 2 (ix (x4 + 4)))), some (.ref 266), none]) (av := [.ref 20, .int (m 2 (ix (x4 + 1))), .int (m 2 (ix (x4 + 2))), .int (m 2 (ix (x4 + 3))), .int (m 2 (ix (x4 + 4))), .ref 266]) (vo := fun v => some (.int v.1)) (mo := fun v => v.2) (s2 := fun v => .int v.1 :: []) (by decide +kernel) ⟨rfl, rfl, rfl, rfl, rfl, rfl⟩ ⟨by omega, by omega⟩ (fun _ => rfl) (t_346 hN (b := 2) (z := 12) (by decide) (by decide) (h0 := h1) (h5 := h3)) (fun r201 => ?_)
  refine i_bl (pc' := 3121) [(.istore 5, 2), (.aload_n 2, 1), (.aload_n 0, 1), (.iload 4, 2), (.iconst 1, 1), (.iadd, 1)] [some (.ref 2), some (.ref 20), some (.ref 249), some (.ref 266), some (.int x4), some (.int r201.1), o6, o7, o8] [.int (x4 + 1), .ref 2, .ref 249] (by decide +kernel) rfl ?_
  refine i_aS (pc' := 3122) L (by decide +kernel) rfl h0 ?_
  refine i_bl (pc' := 3127) [(.aload_n 0, 1), (.iload 4, 2), (.iconst 2, 1), (.iadd, 1)] [some (.ref 2), some (.ref 20), some (.ref 249), some (.ref 266), some (.int x4), some (.int r201.1), o6, o7, o8] [.int (x4 + 2), .ref 2, .int (r201.2 2 (ix (x4 + 1))), .ref 249] (by decide +kernel) rfl ?_
  refine i_aS (pc' := 3128) L (by decide +kernel) rfl h0 ?_
  refine i_bl (pc' := 3133) [(.aload_n 0, 1), (.iload 4, 2), (.iconst 3, 1), (.iadd, 1)] [some (.ref 2), some (.ref 20), some (.ref 249), some (.ref 266), some (.int x4), some (.int r201.1), o6, o7, o8] [.int (x4 + 3), .ref 2, .int (r201.2 2 (ix (x4 + 2))), .int (r201.2 2 (ix (x4 + 1))), .ref 249] (by decide +kernel) rfl ?_
  refine i_aS (pc' := 3134) L (by decide +kernel) rfl h0 ?_
  refine i_bl (pc' := 3139) [(.aload_n 0, 1), (.iload 4, 2), (.iconst 4, 1), (.iadd, 1)] [some (.ref 2), some (.ref 20), some (.ref 249), some (.ref 266), some (.int x4), some (.int r201.1), o6, o7, o8] [.int (x4 + 4), .ref 2, .int (r201.2 2 (ix (x4 + 3))), .int (r201.2 2 (ix (x4 + 2))), .int (r201.2 2 (ix (x4 + 1))), .ref 249] (by decide +kernel) rfl ?_
  refine i_aS (pc' := 3140) L (by decide +kernel) rfl h0 ?_
  refine i_cv (ci := 11) (t := 307) (na := 5) (ml := 8) (idx := 290) (pc' := 3143) (st' := []) (en := [some (.ref 249), some (.int (r201.2 2 (ix (x4 + 1)))), some (.int (r201.2 2 (ix (x4 + 2)))), some (.int (r201.2 2 (ix (x4 + 3)))), some (.int (r201.2 2 (ix (x4 + 4)))), none, none, none]) (av := [.int (r201.2 2 (ix (x4 + 1))), .int (r201.2 2 (ix (x4 + 2))), .int (r201.2 2 (ix (x4 + 3))), .int (r201.2 2 (ix (x4 + 4)))]) (vo := fun v => some (.int v.1)) (mo := fun v => v.2) (s2 := fun v => .int v.1 :: []) (by decide +kernel) (by decide +kernel) h2 ⟨rfl, rfl, rfl, rfl, rfl, rfl⟩ (fun _ => rfl) (t_307 hN (h0 := h2)) (fun r202 => ?_)
  refine i_bl (pc' := 3146) [(.istore 6, 2), (.aload_n 2, 1)] [some (.ref 2), some (.ref 20), some (.ref 249), some (.ref 266), some (.int x4), some (.int r201.1), some (.int r202.1), o7, o8] [.ref 249] (by decide +kernel) rfl ?_
  refine i_cv (ci := 11) (t := 182) (na := 1) (ml := 1) (idx := 167) (pc' := 3149) (st' := []) (en := [some (.ref 249)]) (av := []) (vo := fun v => some (.int v)) (mo := fun _ => r202.2) (s2 := fun v => .int v :: []) (by decide +kernel) (by decide +kernel) h2 ⟨rfl, rfl, rfl, rfl, rfl, rfl⟩ (fun _ => rfl) (t_182 hN (h0 := h2)) (fun v203 => ?_)
  refine i_bl (pc' := 3151) [(.iload 5, 2)] [some (.ref 2), some (.ref 20), some (.ref 249), some (.ref 266), some (.int x4), some (.int r201.1), some (.int r202.1), o7, o8] [.int r201.1, .int v203] (by decide +kernel) rfl ?_
  refine i_ic (c := .eq) (off := 5) (t := 3156) (pc' := 3154) (p := v203 = r201.1) (by decide +kernel) rfl ?_ ?_
  · refine i_bl (pc' := 3158) [(.iload 5, 2)] [some (.ref 2), some (.ref 20), some (.ref 249), some (.ref 266), some (.int x4), some (.int r201.1), some (.int r202.1), o7, o8] [.int r201.1] (by decide +kernel) rfl ?_
    refine i_if (c := .ne) (off := 15) (t := 3173) (pc' := 3161) (p := ¬ r201.1 = 0) (by decide +kernel) rfl ?_ ?_
    · refine i_go (t := 3271) (off := 98) (by decide +kernel) ?_
      refine i_bl (pc' := 3274) [(.iinc 4 (7), 3)] [some (.ref 2), some (.ref 20), some (.ref 249), some (.ref 266), some (.int (x4 + 7)), some (.int r201.1), some (.int r202.1), o7, o8] [] (by decide +kernel) rfl ?_
      refine i_wb (fun y204 => ev_dn (b - 2) (z - 12) 348 3274 [some (.ref 2), some (.ref 20), some (.ref 249), some (.ref 266), some (.int y204), some (.int r201.1), some (.int r202.1), o7, o8] [] (nx, mem L nx r202.2)) (fun y204 => ?_)
      refine i_go (t := 23) (off := -3251) (by decide +kernel) ?_
      exact i_cL (some (.int r201.1), some (.int r202.1), o7, o8) (b - 2) (z - 12) (by omega) (by omega) rfl
    · refine i_bl (pc' := 3163) [(.aload_n 3, 1), (.iconst 0, 1)] [some (.ref 2), some (.ref 20), some (.ref 249), some (.ref 266), some (.int x4), some (.int r201.1), some (.int r202.1), o7, o8] [.int 0, .ref 266] (by decide +kernel) rfl ?_
      refine i_ll (pc' := 3164) (by decide +kernel) h3 ?_
      refine i_bl (pc' := 3167) [(.iload 6, 2), (.i2l, 1)] [some (.ref 2), some (.ref 20), some (.ref 249), some (.ref 266), some (.int x4), some (.int r201.1), some (.int r202.1), o7, o8] [.long r202.1.toInt64, .long (r202.2 266 (ix 0)).toInt64] (by decide +kernel) rfl ?_
      refine i_lcm (x := (r202.2 266 (ix 0))) (y := r202.1) (pc' := 3168) (by decide +kernel) ?_
      refine i_if (c := .eq) (off := 5) (t := 3173) (pc' := 3171) (p := (ilg (r202.2 266 (ix 0)) r202.1) = 0) (by decide +kernel) rfl ?_ ?_
      · refine i_go (t := 3271) (off := 98) (by decide +kernel) ?_
        refine i_bl (pc' := 3274) [(.iinc 4 (7), 3)] [some (.ref 2), some (.ref 20), some (.ref 249), some (.ref 266), some (.int (x4 + 7)), some (.int r201.1), some (.int r202.1), o7, o8] [] (by decide +kernel) rfl ?_
        refine i_wb (fun y205 => ev_dn (b - 2) (z - 12) 348 3274 [some (.ref 2), some (.ref 20), some (.ref 249), some (.ref 266), some (.int y205), some (.int r201.1), some (.int r202.1), o7, o8] [] (nx, mem L nx r202.2)) (fun y205 => ?_)
        refine i_go (t := 23) (off := -3251) (by decide +kernel) ?_
        exact i_cL (some (.int r201.1), some (.int r202.1), o7, o8) (b - 2) (z - 12) (by omega) (by omega) rfl
      · refine i_bl (pc' := 3172) [(.iconst 0, 1)] [some (.ref 2), some (.ref 20), some (.ref 249), some (.ref 266), some (.int x4), some (.int r201.1), some (.int r202.1), o7, o8] [.int 0] (by decide +kernel) rfl ?_
        exact i_iM (i_rz (B := false) (by decide +kernel) rfl)
  · refine i_bl (pc' := 3155) [(.iconst 0, 1)] [some (.ref 2), some (.ref 20), some (.ref 249), some (.ref 266), some (.int x4), some (.int r201.1), some (.int r202.1), o7, o8] [.int 0] (by decide +kernel) rfl ?_
    exact i_iM (i_rz (B := false) (by decide +kernel) rfl)

noncomputable def d_348_3176 (L : Nat) (x4 : Int32) (m : Mm) : Option ((Int32 × Mm) ⊕ (Bool × Mm)) := (d_168 20 m).bind fun r206 => (d_309 249 r206.2).bind fun r207 => if r206.1 = r207.1 then (wb (x4 + 7) fun y208 => some (.inl (y208, r207.2))) else (some (.inr (false, r207.2)))
theorem t_348_3176 {L nx : Nat} (hN : okn nx) {b z : Nat} {b0 z0 : Nat} (hb0 : b0 + 0 ≤ b + 4) (hz0 : z0 + 0 ≤ z + 24) {m : Mm} (h0 : ok nx 2 99) (h1 : ok nx 20 10) (h2 : ok nx 249 11) (h3 : ok nx 266 102) {x4 : Int32} {o5 : Option Value} {o6 : Option Value} {o7 : Option Value} {o8 : Option Value} : Im (d_348_3176 L x4 m) (kM (wZ L nx) (fun b z => E_348_23 L nx b z) b0 z0) (ev_dn b z 348 3176 [some (.ref 2), some (.ref 20), some (.ref 249), some (.ref 266), some (.int x4), o5, o6, o7, o8] [] (nx, mem L nx m)) := by
  unfold d_348_3176
  refine i_bl (pc' := 3177) [(.aload_n 1, 1)] [some (.ref 2), some (.ref 20), some (.ref 249), some (.ref 266), some (.int x4), o5, o6, o7, o8] [.ref 20] (by decide +kernel) rfl ?_
  refine i_cv (ci := 10) (t := 168) (na := 1) (ml := 2) (idx := 291) (pc' := 3180) (st' := []) (en := [some (.ref 20), none]) (av := []) (vo := fun v => some (.int v.1)) (mo := fun v => v.2) (s2 := fun v => .int v.1 :: []) (by decide +kernel) (by decide +kernel) h1 ⟨rfl, rfl, rfl, rfl, rfl, rfl⟩ (fun _ => rfl) (t_168 hN (h0 := h1)) (fun r206 => ?_)
  refine i_bl (pc' := 3181) [(.aload_n 2, 1)] [some (.ref 2), some (.ref 20), some (.ref 249), some (.ref 266), some (.int x4), o5, o6, o7, o8] [.ref 249, .int r206.1] (by decide +kernel) rfl ?_
  refine i_cv (ci := 11) (t := 309) (na := 1) (ml := 4) (idx := 294) (pc' := 3184) (st' := [.int r206.1]) (en := [some (.ref 249), none, none, none]) (av := []) (vo := fun v => some (.int v.1)) (mo := fun v => v.2) (s2 := fun v => .int v.1 :: [.int r206.1]) (by decide +kernel) (by decide +kernel) h2 ⟨rfl, rfl, rfl, rfl, rfl, rfl⟩ (fun _ => rfl) (t_309 hN (h0 := h2)) (fun r207 => ?_)
  refine i_ic (c := .eq) (off := 87) (t := 3271) (pc' := 3187) (p := r206.1 = r207.1) (by decide +kernel) rfl ?_ ?_
  · refine i_bl (pc' := 3274) [(.iinc 4 (7), 3)] [some (.ref 2), some (.ref 20), some (.ref 249), some (.ref 266), some (.int (x4 + 7)), o5, o6, o7, o8] [] (by decide +kernel) rfl ?_
    refine i_wb (fun y208 => ev_dn b z 348 3274 [some (.ref 2), some (.ref 20), some (.ref 249), some (.ref 266), some (.int y208), o5, o6, o7, o8] [] (nx, mem L nx r207.2)) (fun y208 => ?_)
    refine i_go (t := 23) (off := -3251) (by decide +kernel) ?_
    exact i_cL (o5, o6, o7, o8) b z (by omega) (by omega) rfl
  · refine i_bl (pc' := 3188) [(.iconst 0, 1)] [some (.ref 2), some (.ref 20), some (.ref 249), some (.ref 266), some (.int x4), o5, o6, o7, o8] [.int 0] (by decide +kernel) rfl ?_
    exact i_iM (i_rz (B := false) (by decide +kernel) rfl)

noncomputable def d_348_3189 (L : Nat) (x4 : Int32) (m : Mm) : Option ((Int32 × Mm) ⊕ (Bool × Mm)) := if ev_in (x4 + 1) L = true then ((d_172 20 (m 2 (ix (x4 + 1))) m).bind fun v209 => if ev_in (x4 + 1) L = true then ((d_310 249 (m 2 (ix (x4 + 1))) m).bind fun r210 => if v209 = r210.1 then (wb (x4 + 7) fun y211 => some (.inl (y211, r210.2))) else (some (.inr (false, r210.2)))) else none) else none
theorem t_348_3189 {L nx : Nat} (hN : okn nx) {b z : Nat} {b0 z0 : Nat} (hb0 : b0 + 0 ≤ b + 4) (hz0 : z0 + 0 ≤ z + 24) {m : Mm} (h0 : ok nx 2 99) (h1 : ok nx 20 10) (h2 : ok nx 249 11) (h3 : ok nx 266 102) {x4 : Int32} {o5 : Option Value} {o6 : Option Value} {o7 : Option Value} {o8 : Option Value} : Im (d_348_3189 L x4 m) (kM (wZ L nx) (fun b z => E_348_23 L nx b z) b0 z0) (ev_dn b z 348 3189 [some (.ref 2), some (.ref 20), some (.ref 249), some (.ref 266), some (.int x4), o5, o6, o7, o8] [] (nx, mem L nx m)) := by
  unfold d_348_3189
  refine i_bl (pc' := 3195) [(.aload_n 1, 1), (.aload_n 0, 1), (.iload 4, 2), (.iconst 1, 1), (.iadd, 1)] [some (.ref 2), some (.ref 20), some (.ref 249), some (.ref 266), some (.int x4), o5, o6, o7, o8] [.int (x4 + 1), .ref 2, .ref 20] (by decide +kernel) rfl ?_
  refine i_aS (pc' := 3196) L (by decide +kernel) rfl h0 ?_
  refine i_cv (ci := 10) (t := 172) (na := 2) (ml := 2) (idx := 295) (pc' := 3199) (st' := []) (en := [some (.ref 20), some (.int (m 2 (ix (x4 + 1))))]) (av := [.int (m 2 (ix (x4 + 1)))]) (vo := fun v => some (.int v)) (mo := fun _ => m) (s2 := fun v => .int v :: []) (by decide +kernel) (by decide +kernel) h1 ⟨rfl, rfl, rfl, rfl, rfl, rfl⟩ (fun _ => rfl) (t_172 hN (h0 := h1)) (fun v209 => ?_)
  refine i_bl (pc' := 3205) [(.aload_n 2, 1), (.aload_n 0, 1), (.iload 4, 2), (.iconst 1, 1), (.iadd, 1)] [some (.ref 2), some (.ref 20), some (.ref 249), some (.ref 266), some (.int x4), o5, o6, o7, o8] [.int (x4 + 1), .ref 2, .ref 249, .int v209] (by decide +kernel) rfl ?_
  refine i_aS (pc' := 3206) L (by decide +kernel) rfl h0 ?_
  refine i_cv (ci := 11) (t := 310) (na := 2) (ml := 2) (idx := 298) (pc' := 3209) (st' := [.int v209]) (en := [some (.ref 249), some (.int (m 2 (ix (x4 + 1))))]) (av := [.int (m 2 (ix (x4 + 1)))]) (vo := fun v => some (.int v.1)) (mo := fun v => v.2) (s2 := fun v => .int v.1 :: [.int v209]) (by decide +kernel) (by decide +kernel) h2 ⟨rfl, rfl, rfl, rfl, rfl, rfl⟩ (fun _ => rfl) (t_310 hN (h0 := h2)) (fun r210 => ?_)
  refine i_ic (c := .eq) (off := 62) (t := 3271) (pc' := 3212) (p := v209 = r210.1) (by decide +kernel) rfl ?_ ?_
  · refine i_bl (pc' := 3274) [(.iinc 4 (7), 3)] [some (.ref 2), some (.ref 20), some (.ref 249), some (.ref 266), some (.int (x4 + 7)), o5, o6, o7, o8] [] (by decide +kernel) rfl ?_
    refine i_wb (fun y211 => ev_dn b z 348 3274 [some (.ref 2), some (.ref 20), some (.ref 249), some (.ref 266), some (.int y211), o5, o6, o7, o8] [] (nx, mem L nx r210.2)) (fun y211 => ?_)
    refine i_go (t := 23) (off := -3251) (by decide +kernel) ?_
    exact i_cL (o5, o6, o7, o8) b z (by omega) (by omega) rfl
  · refine i_bl (pc' := 3213) [(.iconst 0, 1)] [some (.ref 2), some (.ref 20), some (.ref 249), some (.ref 266), some (.int x4), o5, o6, o7, o8] [.int 0] (by decide +kernel) rfl ?_
    exact i_iM (i_rz (B := false) (by decide +kernel) rfl)

noncomputable def d_348_3214 (L : Nat) (x4 : Int32) (m : Mm) : Option ((Int32 × Mm) ⊕ (Bool × Mm)) := (d_173 20 m).bind fun r212 => (d_191 249 r212.2).bind fun r213 => if r212.1 = r213.1 then (wb (x4 + 7) fun y214 => some (.inl (y214, r213.2))) else (some (.inr (false, r213.2)))
theorem t_348_3214 {L nx : Nat} (hN : okn nx) {b z : Nat} {b0 z0 : Nat} (hb0 : b0 + 0 ≤ b + 4) (hz0 : z0 + 0 ≤ z + 24) {m : Mm} (h0 : ok nx 2 99) (h1 : ok nx 20 10) (h2 : ok nx 249 11) (h3 : ok nx 266 102) {x4 : Int32} {o5 : Option Value} {o6 : Option Value} {o7 : Option Value} {o8 : Option Value} : Im (d_348_3214 L x4 m) (kM (wZ L nx) (fun b z => E_348_23 L nx b z) b0 z0) (ev_dn b z 348 3214 [some (.ref 2), some (.ref 20), some (.ref 249), some (.ref 266), some (.int x4), o5, o6, o7, o8] [] (nx, mem L nx m)) := by
  unfold d_348_3214
  refine i_bl (pc' := 3215) [(.aload_n 1, 1)] [some (.ref 2), some (.ref 20), some (.ref 249), some (.ref 266), some (.int x4), o5, o6, o7, o8] [.ref 20] (by decide +kernel) rfl ?_
  refine i_cv (ci := 10) (t := 173) (na := 1) (ml := 1) (idx := 299) (pc' := 3218) (st' := []) (en := [some (.ref 20)]) (av := []) (vo := fun v => some (.int v.1)) (mo := fun v => v.2) (s2 := fun v => .int v.1 :: []) (by decide +kernel) (by decide +kernel) h1 ⟨rfl, rfl, rfl, rfl, rfl, rfl⟩ (fun _ => rfl) (t_173 hN (h0 := h1)) (fun r212 => ?_)
  refine i_bl (pc' := 3219) [(.aload_n 2, 1)] [some (.ref 2), some (.ref 20), some (.ref 249), some (.ref 266), some (.int x4), o5, o6, o7, o8] [.ref 249, .int r212.1] (by decide +kernel) rfl ?_
  refine i_cv (ci := 11) (t := 191) (na := 1) (ml := 1) (idx := 302) (pc' := 3222) (st' := [.int r212.1]) (en := [some (.ref 249)]) (av := []) (vo := fun v => some (.int v.1)) (mo := fun v => v.2) (s2 := fun v => .int v.1 :: [.int r212.1]) (by decide +kernel) (by decide +kernel) h2 ⟨rfl, rfl, rfl, rfl, rfl, rfl⟩ (fun _ => rfl) (t_191 hN (h0 := h2)) (fun r213 => ?_)
  refine i_ic (c := .eq) (off := 49) (t := 3271) (pc' := 3225) (p := r212.1 = r213.1) (by decide +kernel) rfl ?_ ?_
  · refine i_bl (pc' := 3274) [(.iinc 4 (7), 3)] [some (.ref 2), some (.ref 20), some (.ref 249), some (.ref 266), some (.int (x4 + 7)), o5, o6, o7, o8] [] (by decide +kernel) rfl ?_
    refine i_wb (fun y214 => ev_dn b z 348 3274 [some (.ref 2), some (.ref 20), some (.ref 249), some (.ref 266), some (.int y214), o5, o6, o7, o8] [] (nx, mem L nx r213.2)) (fun y214 => ?_)
    refine i_go (t := 23) (off := -3251) (by decide +kernel) ?_
    exact i_cL (o5, o6, o7, o8) b z (by omega) (by omega) rfl
  · refine i_bl (pc' := 3226) [(.iconst 0, 1)] [some (.ref 2), some (.ref 20), some (.ref 249), some (.ref 266), some (.int x4), o5, o6, o7, o8] [.int 0] (by decide +kernel) rfl ?_
    exact i_iM (i_rz (B := false) (by decide +kernel) rfl)

noncomputable def d_348_3227 (L : Nat) (x4 : Int32) (m : Mm) : Option ((Int32 × Mm) ⊕ (Bool × Mm)) := (d_347 20 266 m).bind fun r215 => (d_192 249 r215.2).bind fun r216 => (d_182 249 r216.2).bind fun v217 => if v217 = r215.1 then (if ¬ r215.1 = 0 then (wb (x4 + 7) fun y218 => some (.inl (y218, r216.2))) else (if ev_in 0 (sh_n 266) = true then (if (ilg (r216.2 266 (ix 0)) r216.1) = 0 then (wb (x4 + 7) fun y219 => some (.inl (y219, r216.2))) else (some (.inr (false, r216.2)))) else none)) else (some (.inr (false, r216.2)))
theorem t_348_3227 {L nx : Nat} (hN : okn nx) {b z : Nat} (hb : 1 ≤ b) (hz : 6 ≤ z) {b0 z0 : Nat} (hb0 : b0 + 1 ≤ b + 4) (hz0 : z0 + 6 ≤ z + 24) {m : Mm} (h0 : ok nx 2 99) (h1 : ok nx 20 10) (h2 : ok nx 249 11) (h3 : ok nx 266 102) {x4 : Int32} {o5 : Option Value} {o6 : Option Value} {o7 : Option Value} {o8 : Option Value} : Im (d_348_3227 L x4 m) (kM (wZ L nx) (fun b z => E_348_23 L nx b z) b0 z0) (ev_dn b z 348 3227 [some (.ref 2), some (.ref 20), some (.ref 249), some (.ref 266), some (.int x4), o5, o6, o7, o8] [] (nx, mem L nx m)) := by
  unfold d_348_3227
  refine i_bl (pc' := 3229) [(.aload_n 1, 1), (.aload_n 3, 1)] [some (.ref 2), some (.ref 20), some (.ref 249), some (.ref 266), some (.int x4), o5, o6, o7, o8] [.ref 266, .ref 20] (by decide +kernel) rfl ?_
  refine i_ck (k1 := 1) (k2 := 6) (t := 347) (na := 2) (ml := 3) (idx := 303) (pc' := 3232) (st' := []) (en := [some (.ref 20), some (.ref 266), none]) (av := [.ref 20, .ref 266]) (vo := fun v => some (.int v.1)) (mo := fun v => v.2) (s2 := fun v => .int v.1 :: []) (by decide +kernel) ⟨rfl, rfl, rfl, rfl, rfl, rfl⟩ ⟨by omega, by omega⟩ (fun _ => rfl) (t_347 hN (b := 1) (z := 6) (by decide) (by decide) (h0 := h1) (h1 := h3)) (fun r215 => ?_)
  refine i_bl (pc' := 3235) [(.istore 5, 2), (.aload_n 2, 1)] [some (.ref 2), some (.ref 20), some (.ref 249), some (.ref 266), some (.int x4), some (.int r215.1), o6, o7, o8] [.ref 249] (by decide +kernel) rfl ?_
  refine i_cv (ci := 11) (t := 192) (na := 1) (ml := 1) (idx := 305) (pc' := 3238) (st' := []) (en := [some (.ref 249)]) (av := []) (vo := fun v => some (.int v.1)) (mo := fun v => v.2) (s2 := fun v => .int v.1 :: []) (by decide +kernel) (by decide +kernel) h2 ⟨rfl, rfl, rfl, rfl, rfl, rfl⟩ (fun _ => rfl) (t_192 hN (h0 := h2)) (fun r216 => ?_)
  refine i_bl (pc' := 3241) [(.istore 6, 2), (.aload_n 2, 1)] [some (.ref 2), some (.ref 20), some (.ref 249), some (.ref 266), some (.int x4), some (.int r215.1), some (.int r216.1), o7, o8] [.ref 249] (by decide +kernel) rfl ?_
  refine i_cv (ci := 11) (t := 182) (na := 1) (ml := 1) (idx := 167) (pc' := 3244) (st' := []) (en := [some (.ref 249)]) (av := []) (vo := fun v => some (.int v)) (mo := fun _ => r216.2) (s2 := fun v => .int v :: []) (by decide +kernel) (by decide +kernel) h2 ⟨rfl, rfl, rfl, rfl, rfl, rfl⟩ (fun _ => rfl) (t_182 hN (h0 := h2)) (fun v217 => ?_)
  refine i_bl (pc' := 3246) [(.iload 5, 2)] [some (.ref 2), some (.ref 20), some (.ref 249), some (.ref 266), some (.int x4), some (.int r215.1), some (.int r216.1), o7, o8] [.int r215.1, .int v217] (by decide +kernel) rfl ?_
  refine i_ic (c := .eq) (off := 5) (t := 3251) (pc' := 3249) (p := v217 = r215.1) (by decide +kernel) rfl ?_ ?_
  · refine i_bl (pc' := 3253) [(.iload 5, 2)] [some (.ref 2), some (.ref 20), some (.ref 249), some (.ref 266), some (.int x4), some (.int r215.1), some (.int r216.1), o7, o8] [.int r215.1] (by decide +kernel) rfl ?_
    refine i_if (c := .ne) (off := 15) (t := 3268) (pc' := 3256) (p := ¬ r215.1 = 0) (by decide +kernel) rfl ?_ ?_
    · refine i_go (t := 3271) (off := 3) (by decide +kernel) ?_
      refine i_bl (pc' := 3274) [(.iinc 4 (7), 3)] [some (.ref 2), some (.ref 20), some (.ref 249), some (.ref 266), some (.int (x4 + 7)), some (.int r215.1), some (.int r216.1), o7, o8] [] (by decide +kernel) rfl ?_
      refine i_wb (fun y218 => ev_dn (b - 1) (z - 6) 348 3274 [some (.ref 2), some (.ref 20), some (.ref 249), some (.ref 266), some (.int y218), some (.int r215.1), some (.int r216.1), o7, o8] [] (nx, mem L nx r216.2)) (fun y218 => ?_)
      refine i_go (t := 23) (off := -3251) (by decide +kernel) ?_
      exact i_cL (some (.int r215.1), some (.int r216.1), o7, o8) (b - 1) (z - 6) (by omega) (by omega) rfl
    · refine i_bl (pc' := 3258) [(.aload_n 3, 1), (.iconst 0, 1)] [some (.ref 2), some (.ref 20), some (.ref 249), some (.ref 266), some (.int x4), some (.int r215.1), some (.int r216.1), o7, o8] [.int 0, .ref 266] (by decide +kernel) rfl ?_
      refine i_ll (pc' := 3259) (by decide +kernel) h3 ?_
      refine i_bl (pc' := 3262) [(.iload 6, 2), (.i2l, 1)] [some (.ref 2), some (.ref 20), some (.ref 249), some (.ref 266), some (.int x4), some (.int r215.1), some (.int r216.1), o7, o8] [.long r216.1.toInt64, .long (r216.2 266 (ix 0)).toInt64] (by decide +kernel) rfl ?_
      refine i_lcm (x := (r216.2 266 (ix 0))) (y := r216.1) (pc' := 3263) (by decide +kernel) ?_
      refine i_if (c := .eq) (off := 5) (t := 3268) (pc' := 3266) (p := (ilg (r216.2 266 (ix 0)) r216.1) = 0) (by decide +kernel) rfl ?_ ?_
      · refine i_go (t := 3271) (off := 3) (by decide +kernel) ?_
        refine i_bl (pc' := 3274) [(.iinc 4 (7), 3)] [some (.ref 2), some (.ref 20), some (.ref 249), some (.ref 266), some (.int (x4 + 7)), some (.int r215.1), some (.int r216.1), o7, o8] [] (by decide +kernel) rfl ?_
        refine i_wb (fun y219 => ev_dn (b - 1) (z - 6) 348 3274 [some (.ref 2), some (.ref 20), some (.ref 249), some (.ref 266), some (.int y219), some (.int r215.1), some (.int r216.1), o7, o8] [] (nx, mem L nx r216.2)) (fun y219 => ?_)
        refine i_go (t := 23) (off := -3251) (by decide +kernel) ?_
        exact i_cL (some (.int r215.1), some (.int r216.1), o7, o8) (b - 1) (z - 6) (by omega) (by omega) rfl
      · refine i_bl (pc' := 3267) [(.iconst 0, 1)] [some (.ref 2), some (.ref 20), some (.ref 249), some (.ref 266), some (.int x4), some (.int r215.1), some (.int r216.1), o7, o8] [.int 0] (by decide +kernel) rfl ?_
        exact i_iM (i_rz (B := false) (by decide +kernel) rfl)
  · refine i_bl (pc' := 3250) [(.iconst 0, 1)] [some (.ref 2), some (.ref 20), some (.ref 249), some (.ref 266), some (.int x4), some (.int r215.1), some (.int r216.1), o7, o8] [.int 0] (by decide +kernel) rfl ?_
    exact i_iM (i_rz (B := false) (by decide +kernel) rfl)

noncomputable def s_348_23 (L : Nat) (x4 : Int32) (m : Mm) : Option ((Int32 × Mm) ⊕ (Bool × Mm)) := if ((Int32.ofNat L) - 7) < x4 then (some (.inr (true, m))) else (if ev_in x4 L = true then ((if ((m 2 (ix x4)) &&& (63 : Int32)) = 0 then (d_348_244 L x4 m) else if ((m 2 (ix x4)) &&& (63 : Int32)) = 1 then (d_348_317 L x4 m) else if ((m 2 (ix x4)) &&& (63 : Int32)) = 2 then (d_348_342 L x4 m) else if ((m 2 (ix x4)) &&& (63 : Int32)) = 3 then (d_348_355 L x4 m) else if ((m 2 (ix x4)) &&& (63 : Int32)) = 4 then (d_348_368 L x4 m) else if ((m 2 (ix x4)) &&& (63 : Int32)) = 5 then (d_348_381 L x4 m) else if ((m 2 (ix x4)) &&& (63 : Int32)) = 6 then (d_348_437 L x4 m) else if ((m 2 (ix x4)) &&& (63 : Int32)) = 7 then (d_348_493 L x4 m) else if ((m 2 (ix x4)) &&& (63 : Int32)) = 8 then (d_348_573 L x4 m) else if ((m 2 (ix x4)) &&& (63 : Int32)) = 9 then (d_348_698 L x4 m) else if ((m 2 (ix x4)) &&& (63 : Int32)) = 10 then (d_348_766 L x4 m) else if ((m 2 (ix x4)) &&& (63 : Int32)) = 11 then (d_348_858 L x4 m) else if ((m 2 (ix x4)) &&& (63 : Int32)) = 12 then (d_348_926 L x4 m) else if ((m 2 (ix x4)) &&& (63 : Int32)) = 13 then (d_348_1018 L x4 m) else if ((m 2 (ix x4)) &&& (63 : Int32)) = 14 then (d_348_1093 L x4 m) else if ((m 2 (ix x4)) &&& (63 : Int32)) = 15 then (d_348_1161 L x4 m) else if ((m 2 (ix x4)) &&& (63 : Int32)) = 16 then (d_348_1217 L x4 m) else if ((m 2 (ix x4)) &&& (63 : Int32)) = 17 then (d_348_1273 L x4 m) else if ((m 2 (ix x4)) &&& (63 : Int32)) = 18 then (d_348_1377 L x4 m) else if ((m 2 (ix x4)) &&& (63 : Int32)) = 19 then (d_348_1440 L x4 m) else if ((m 2 (ix x4)) &&& (63 : Int32)) = 20 then (d_348_1508 L x4 m) else if ((m 2 (ix x4)) &&& (63 : Int32)) = 21 then (d_348_1564 L x4 m) else if ((m 2 (ix x4)) &&& (63 : Int32)) = 22 then (d_348_1632 L x4 m) else if ((m 2 (ix x4)) &&& (63 : Int32)) = 23 then (d_348_1736 L x4 m) else if ((m 2 (ix x4)) &&& (63 : Int32)) = 24 then (d_348_1840 L x4 m) else if ((m 2 (ix x4)) &&& (63 : Int32)) = 25 then (d_348_1932 L x4 m) else if ((m 2 (ix x4)) &&& (63 : Int32)) = 26 then (d_348_2024 L x4 m) else if ((m 2 (ix x4)) &&& (63 : Int32)) = 27 then (d_348_2128 L x4 m) else if ((m 2 (ix x4)) &&& (63 : Int32)) = 28 then (d_348_2232 L x4 m) else if ((m 2 (ix x4)) &&& (63 : Int32)) = 29 then (d_348_2300 L x4 m) else if ((m 2 (ix x4)) &&& (63 : Int32)) = 30 then (d_348_2368 L x4 m) else if ((m 2 (ix x4)) &&& (63 : Int32)) = 31 then (d_348_2409 L x4 m) else if ((m 2 (ix x4)) &&& (63 : Int32)) = 32 then (d_348_2452 L x4 m) else if ((m 2 (ix x4)) &&& (63 : Int32)) = 33 then (d_348_2544 L x4 m) else if ((m 2 (ix x4)) &&& (63 : Int32)) = 34 then (d_348_2600 L x4 m) else if ((m 2 (ix x4)) &&& (63 : Int32)) = 35 then (d_348_2644 L x4 m) else if ((m 2 (ix x4)) &&& (63 : Int32)) = 36 then (d_348_2700 L x4 m) else if ((m 2 (ix x4)) &&& (63 : Int32)) = 37 then (d_348_2768 L x4 m) else if ((m 2 (ix x4)) &&& (63 : Int32)) = 38 then (d_348_2848 L x4 m) else if ((m 2 (ix x4)) &&& (63 : Int32)) = 39 then (d_348_2904 L x4 m) else if ((m 2 (ix x4)) &&& (63 : Int32)) = 40 then (d_348_2972 L x4 m) else if ((m 2 (ix x4)) &&& (63 : Int32)) = 41 then (d_348_3016 L x4 m) else if ((m 2 (ix x4)) &&& (63 : Int32)) = 42 then (d_348_3084 L x4 m) else if ((m 2 (ix x4)) &&& (63 : Int32)) = 43 then (d_348_3176 L x4 m) else if ((m 2 (ix x4)) &&& (63 : Int32)) = 44 then (d_348_3189 L x4 m) else if ((m 2 (ix x4)) &&& (63 : Int32)) = 45 then (d_348_3214 L x4 m) else if ((m 2 (ix x4)) &&& (63 : Int32)) = 46 then (d_348_3227 L x4 m) else (wb (x4 + 7) fun y220 => some (.inl (y220, m))))) else none)
noncomputable def d_348_23 (L : Nat) (x4 : Int32) (m : Mm) : Option (Bool × Mm) := it (fun s => s_348_23 L s.1 s.2) (x4, m)
theorem e_348_23 (L : Nat) (x4 : Int32) (m : Mm) : d_348_23 L x4 m = oi (s_348_23 L x4 m) (fun s => d_348_23 L s.1 s.2) := it_eq _
theorem u_348_23 {L nx : Nat} (hN : okn nx) {b z : Nat} (hb : 4 ≤ b) (hz : 24 ≤ z) {m : Mm} (h0 : ok nx 2 99) (h1 : ok nx 20 10) (h2 : ok nx 249 11) (h3 : ok nx 266 102) {x4 : Int32} {o5 : Option Value} {o6 : Option Value} {o7 : Option Value} {o8 : Option Value} : Im (s_348_23 L x4 m) (kM (wZ L nx) (fun b z => E_348_23 L nx b z) b z) (ev_dn b z 348 23 [some (.ref 2), some (.ref 20), some (.ref 249), some (.ref 266), some (.int x4), o5, o6, o7, o8] [] (nx, mem L nx m)) := by
  unfold s_348_23
  refine i_bl (pc' := 26) [(.iload 4, 2), (.aload_n 0, 1)] [some (.ref 2), some (.ref 20), some (.ref 249), some (.ref 266), some (.int x4), o5, o6, o7, o8] [.ref 2, .int x4] (by decide +kernel) rfl ?_
  refine i_lS (pc' := 27) L (by decide +kernel) rfl h0 ?_
  refine i_bl (pc' := 30) [(.bipush (7), 2), (.isub, 1)] [some (.ref 2), some (.ref 20), some (.ref 249), some (.ref 266), some (.int x4), o5, o6, o7, o8] [.int ((Int32.ofNat L) - 7), .int x4] (by decide +kernel) rfl ?_
  refine i_ic (c := .gt) (off := 3247) (t := 3277) (pc' := 33) (p := ((Int32.ofNat L) - 7) < x4) (by decide +kernel) rfl ?_ ?_
  · refine i_bl (pc' := 3278) [(.iconst 1, 1)] [some (.ref 2), some (.ref 20), some (.ref 249), some (.ref 266), some (.int x4), o5, o6, o7, o8] [.int 1] (by decide +kernel) rfl ?_
    exact i_iM (i_rz (B := true) (by decide +kernel) rfl)
  · refine i_bl (pc' := 36) [(.aload_n 0, 1), (.iload 4, 2)] [some (.ref 2), some (.ref 20), some (.ref 249), some (.ref 266), some (.int x4), o5, o6, o7, o8] [.int x4, .ref 2] (by decide +kernel) rfl ?_
    refine i_aS (pc' := 37) L (by decide +kernel) rfl h0 ?_
    refine i_bl (pc' := 40) [(.bipush (63), 2), (.iand, 1)] [some (.ref 2), some (.ref 20), some (.ref 249), some (.ref 266), some (.int x4), o5, o6, o7, o8] [.int ((m 2 (ix x4)) &&& (63 : Int32))] (by decide +kernel) rfl ?_
    refine i_sw (n := 204) (dd := (3231)) (lo0 := (0)) (hi0 := (46)) (offs := #[(204), (277), (302), (315), (328), (341), (397), (453), (533), (658), (726), (818), (886), (978), (1053), (1121), (1177), (1233), (1337), (1400), (1468), (1524), (1592), (1696), (1800), (1892), (1984), (2088), (2192), (2260), (2328), (2369), (2412), (2504), (2560), (2604), (2660), (2728), (2808), (2864), (2932), (2976), (3044), (3136), (3149), (3174), (3187)]) (d := 3271) (ts := [244, 317, 342, 355, 368, 381, 437, 493, 573, 698, 766, 858, 926, 1018, 1093, 1161, 1217, 1273, 1377, 1440, 1508, 1564, 1632, 1736, 1840, 1932, 2024, 2128, 2232, 2300, 2368, 2409, 2452, 2544, 2600, 2644, 2700, 2768, 2848, 2904, 2972, 3016, 3084, 3176, 3189, 3214, 3227]) (cs := [(0, 244), (1, 317), (2, 342), (3, 355), (4, 368), (5, 381), (6, 437), (7, 493), (8, 573), (9, 698), (10, 766), (11, 858), (12, 926), (13, 1018), (14, 1093), (15, 1161), (16, 1217), (17, 1273), (18, 1377), (19, 1440), (20, 1508), (21, 1564), (22, 1632), (23, 1736), (24, 1840), (25, 1932), (26, 2024), (27, 2128), (28, 2232), (29, 2300), (30, 2368), (31, 2409), (32, 2452), (33, 2544), (34, 2600), (35, 2644), (36, 2700), (37, 2768), (38, 2848), (39, 2904), (40, 2972), (41, 3016), (42, 3084), (43, 3176), (44, 3189), (45, 3214), (46, 3227)]) (by decide +kernel) ?_
    refine i_sc (c := 0) (by decide +kernel) ?_ ?_
    · exact t_348_244 hN (by omega) (by omega) (h0 := h0) (h1 := h1) (h2 := h2) (h3 := h3)
    refine i_sc (c := 1) (by decide +kernel) ?_ ?_
    · exact t_348_317 hN (by omega) (by omega) (h0 := h0) (h1 := h1) (h2 := h2) (h3 := h3)
    refine i_sc (c := 2) (by decide +kernel) ?_ ?_
    · exact t_348_342 hN (by omega) (by omega) (h0 := h0) (h1 := h1) (h2 := h2) (h3 := h3)
    refine i_sc (c := 3) (by decide +kernel) ?_ ?_
    · exact t_348_355 hN (by omega) (by omega) (h0 := h0) (h1 := h1) (h2 := h2) (h3 := h3)
    refine i_sc (c := 4) (by decide +kernel) ?_ ?_
    · exact t_348_368 hN (by omega) (by omega) (h0 := h0) (h1 := h1) (h2 := h2) (h3 := h3)
    refine i_sc (c := 5) (by decide +kernel) ?_ ?_
    · exact t_348_381 hN (by omega) (by omega) (by omega) (by omega) (h0 := h0) (h1 := h1) (h2 := h2) (h3 := h3)
    refine i_sc (c := 6) (by decide +kernel) ?_ ?_
    · exact t_348_437 hN (by omega) (by omega) (by omega) (by omega) (h0 := h0) (h1 := h1) (h2 := h2) (h3 := h3)
    refine i_sc (c := 7) (by decide +kernel) ?_ ?_
    · exact t_348_493 hN (by omega) (by omega) (by omega) (by omega) (h0 := h0) (h1 := h1) (h2 := h2) (h3 := h3)
    refine i_sc (c := 8) (by decide +kernel) ?_ ?_
    · exact t_348_573 hN (by omega) (by omega) (by omega) (by omega) (h0 := h0) (h1 := h1) (h2 := h2) (h3 := h3)
    refine i_sc (c := 9) (by decide +kernel) ?_ ?_
    · exact t_348_698 hN (by omega) (by omega) (by omega) (by omega) (h0 := h0) (h1 := h1) (h2 := h2) (h3 := h3)
    refine i_sc (c := 10) (by decide +kernel) ?_ ?_
    · exact t_348_766 hN (by omega) (by omega) (by omega) (by omega) (h0 := h0) (h1 := h1) (h2 := h2) (h3 := h3)
    refine i_sc (c := 11) (by decide +kernel) ?_ ?_
    · exact t_348_858 hN (by omega) (by omega) (by omega) (by omega) (h0 := h0) (h1 := h1) (h2 := h2) (h3 := h3)
    refine i_sc (c := 12) (by decide +kernel) ?_ ?_
    · exact t_348_926 hN (by omega) (by omega) (by omega) (by omega) (h0 := h0) (h1 := h1) (h2 := h2) (h3 := h3)
    refine i_sc (c := 13) (by decide +kernel) ?_ ?_
    · exact t_348_1018 hN (by omega) (by omega) (by omega) (by omega) (h0 := h0) (h1 := h1) (h2 := h2) (h3 := h3)
    refine i_sc (c := 14) (by decide +kernel) ?_ ?_
    · exact t_348_1093 hN (by omega) (by omega) (by omega) (by omega) (h0 := h0) (h1 := h1) (h2 := h2) (h3 := h3)
    refine i_sc (c := 15) (by decide +kernel) ?_ ?_
    · exact t_348_1161 hN (by omega) (by omega) (by omega) (by omega) (h0 := h0) (h1 := h1) (h2 := h2) (h3 := h3)
    refine i_sc (c := 16) (by decide +kernel) ?_ ?_
    · exact t_348_1217 hN (by omega) (by omega) (by omega) (by omega) (h0 := h0) (h1 := h1) (h2 := h2) (h3 := h3)
    refine i_sc (c := 17) (by decide +kernel) ?_ ?_
    · exact t_348_1273 hN (by omega) (by omega) (by omega) (by omega) (h0 := h0) (h1 := h1) (h2 := h2) (h3 := h3)
    refine i_sc (c := 18) (by decide +kernel) ?_ ?_
    · exact t_348_1377 hN (by omega) (by omega) (by omega) (by omega) (h0 := h0) (h1 := h1) (h2 := h2) (h3 := h3)
    refine i_sc (c := 19) (by decide +kernel) ?_ ?_
    · exact t_348_1440 hN (by omega) (by omega) (by omega) (by omega) (h0 := h0) (h1 := h1) (h2 := h2) (h3 := h3)
    refine i_sc (c := 20) (by decide +kernel) ?_ ?_
    · exact t_348_1508 hN (by omega) (by omega) (by omega) (by omega) (h0 := h0) (h1 := h1) (h2 := h2) (h3 := h3)
    refine i_sc (c := 21) (by decide +kernel) ?_ ?_
    · exact t_348_1564 hN (by omega) (by omega) (by omega) (by omega) (h0 := h0) (h1 := h1) (h2 := h2) (h3 := h3)
    refine i_sc (c := 22) (by decide +kernel) ?_ ?_
    · exact t_348_1632 hN (by omega) (by omega) (by omega) (by omega) (h0 := h0) (h1 := h1) (h2 := h2) (h3 := h3)
    refine i_sc (c := 23) (by decide +kernel) ?_ ?_
    · exact t_348_1736 hN (by omega) (by omega) (by omega) (by omega) (h0 := h0) (h1 := h1) (h2 := h2) (h3 := h3)
    refine i_sc (c := 24) (by decide +kernel) ?_ ?_
    · exact t_348_1840 hN (by omega) (by omega) (by omega) (by omega) (h0 := h0) (h1 := h1) (h2 := h2) (h3 := h3)
    refine i_sc (c := 25) (by decide +kernel) ?_ ?_
    · exact t_348_1932 hN (by omega) (by omega) (by omega) (by omega) (h0 := h0) (h1 := h1) (h2 := h2) (h3 := h3)
    refine i_sc (c := 26) (by decide +kernel) ?_ ?_
    · exact t_348_2024 hN (by omega) (by omega) (by omega) (by omega) (h0 := h0) (h1 := h1) (h2 := h2) (h3 := h3)
    refine i_sc (c := 27) (by decide +kernel) ?_ ?_
    · exact t_348_2128 hN (by omega) (by omega) (by omega) (by omega) (h0 := h0) (h1 := h1) (h2 := h2) (h3 := h3)
    refine i_sc (c := 28) (by decide +kernel) ?_ ?_
    · exact t_348_2232 hN (by omega) (by omega) (by omega) (by omega) (h0 := h0) (h1 := h1) (h2 := h2) (h3 := h3)
    refine i_sc (c := 29) (by decide +kernel) ?_ ?_
    · exact t_348_2300 hN (by omega) (by omega) (by omega) (by omega) (h0 := h0) (h1 := h1) (h2 := h2) (h3 := h3)
    refine i_sc (c := 30) (by decide +kernel) ?_ ?_
    · exact t_348_2368 hN (by omega) (by omega) (h0 := h0) (h1 := h1) (h2 := h2) (h3 := h3)
    refine i_sc (c := 31) (by decide +kernel) ?_ ?_
    · exact t_348_2409 hN (by omega) (by omega) (h0 := h0) (h1 := h1) (h2 := h2) (h3 := h3)
    refine i_sc (c := 32) (by decide +kernel) ?_ ?_
    · exact t_348_2452 hN (by omega) (by omega) (by omega) (by omega) (h0 := h0) (h1 := h1) (h2 := h2) (h3 := h3)
    refine i_sc (c := 33) (by decide +kernel) ?_ ?_
    · exact t_348_2544 hN (by omega) (by omega) (by omega) (by omega) (h0 := h0) (h1 := h1) (h2 := h2) (h3 := h3)
    refine i_sc (c := 34) (by decide +kernel) ?_ ?_
    · exact t_348_2600 hN (by omega) (by omega) (by omega) (by omega) (h0 := h0) (h1 := h1) (h2 := h2) (h3 := h3)
    refine i_sc (c := 35) (by decide +kernel) ?_ ?_
    · exact t_348_2644 hN (by omega) (by omega) (by omega) (by omega) (h0 := h0) (h1 := h1) (h2 := h2) (h3 := h3)
    refine i_sc (c := 36) (by decide +kernel) ?_ ?_
    · exact t_348_2700 hN (by omega) (by omega) (by omega) (by omega) (h0 := h0) (h1 := h1) (h2 := h2) (h3 := h3)
    refine i_sc (c := 37) (by decide +kernel) ?_ ?_
    · exact t_348_2768 hN (by omega) (by omega) (by omega) (by omega) (h0 := h0) (h1 := h1) (h2 := h2) (h3 := h3)
    refine i_sc (c := 38) (by decide +kernel) ?_ ?_
    · exact t_348_2848 hN (by omega) (by omega) (by omega) (by omega) (h0 := h0) (h1 := h1) (h2 := h2) (h3 := h3)
    refine i_sc (c := 39) (by decide +kernel) ?_ ?_
    · exact t_348_2904 hN (by omega) (by omega) (by omega) (by omega) (h0 := h0) (h1 := h1) (h2 := h2) (h3 := h3)
    refine i_sc (c := 40) (by decide +kernel) ?_ ?_
    · exact t_348_2972 hN (by omega) (by omega) (by omega) (by omega) (h0 := h0) (h1 := h1) (h2 := h2) (h3 := h3)
    refine i_sc (c := 41) (by decide +kernel) ?_ ?_
    · exact t_348_3016 hN (by omega) (by omega) (by omega) (by omega) (h0 := h0) (h1 := h1) (h2 := h2) (h3 := h3)
    refine i_sc (c := 42) (by decide +kernel) ?_ ?_
    · exact t_348_3084 hN (by omega) (by omega) (by omega) (by omega) (h0 := h0) (h1 := h1) (h2 := h2) (h3 := h3)
    refine i_sc (c := 43) (by decide +kernel) ?_ ?_
    · exact t_348_3176 hN (by omega) (by omega) (h0 := h0) (h1 := h1) (h2 := h2) (h3 := h3)
    refine i_sc (c := 44) (by decide +kernel) ?_ ?_
    · exact t_348_3189 hN (by omega) (by omega) (h0 := h0) (h1 := h1) (h2 := h2) (h3 := h3)
    refine i_sc (c := 45) (by decide +kernel) ?_ ?_
    · exact t_348_3214 hN (by omega) (by omega) (h0 := h0) (h1 := h1) (h2 := h2) (h3 := h3)
    refine i_sc (c := 46) (by decide +kernel) ?_ ?_
    · exact t_348_3227 hN (by omega) (by omega) (by omega) (by omega) (h0 := h0) (h1 := h1) (h2 := h2) (h3 := h3)
    refine i_s0 ?_
    refine i_bl (pc' := 3274) [(.iinc 4 (7), 3)] [some (.ref 2), some (.ref 20), some (.ref 249), some (.ref 266), some (.int (x4 + 7)), o5, o6, o7, o8] [] (by decide +kernel) rfl ?_
    refine i_wb (fun y220 => ev_dn b z 348 3274 [some (.ref 2), some (.ref 20), some (.ref 249), some (.ref 266), some (.int y220), o5, o6, o7, o8] [] (nx, mem L nx m)) (fun y220 => ?_)
    refine i_go (t := 23) (off := -3251) (by decide +kernel) ?_
    exact i_cL (o5, o6, o7, o8) b z (by omega) (by omega) rfl

