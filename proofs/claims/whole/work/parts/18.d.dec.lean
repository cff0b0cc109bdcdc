/-! Programs in numbers, and that the evaluator answers what they answer. -/
/-! 149 LanternChess.delay(IIIII)I -/
noncomputable def E_149_57 (L nx b z : Nat) (a0 : Nat) (x5 : Int32) (x6 : Int32) (x7 : Int32) (d : Option Value × Option Value × Option Value × Option Value × Option Value) (s : (Int32 × Mm)) : ev_Q := ev_dn b z 149 57 [some (.ref a0), d.1, d.2.1, d.2.2.1, d.2.2.2.1, some (.int x5), some (.int x6), some (.int x7), some (.int s.1), d.2.2.2.2] [] (nx, mem L nx s.2)
noncomputable def s_149_57 (a0 : Nat) (x5 : Int32) (x6 : Int32) (x7 : Int32) (x8 : Int32) (m : Mm) : Option ((Int32 × Mm) ⊕ ((Int32 ⊕ Nat) × Mm)) := if x5 < x8 then (some (.inr (.inl (-1), m))) else ((d_59 (sh_r a0 1) (sh_r a0 6) x6 x7 ((m (sh_r a0 1) 5) + x8) m).bind fun m10 => (d_52 (sh_r a0 1) (m10 (sh_r a0 1) 6) m10).bind fun v11 => wb (v11 - x8) fun y12 => zb (m10 (sh_r a0 6) 6) fun B13 => if B13 = true then (if y12 ≤ (m10 (sh_r a0 6) 7) then (wb (x8 + 1) fun y15 => some (.inl (y15, m10))) else (some (.inr (.inl x8, m10)))) else (wb (x8 + 1) fun y14 => some (.inl (y14, m10))))
noncomputable def d_149_57 (a0 : Nat) (x5 : Int32) (x6 : Int32) (x7 : Int32) (x8 : Int32) (m : Mm) : Option ((Int32 ⊕ Nat) × Mm) := it (fun s => s_149_57 a0 x5 x6 x7 s.1 s.2) (x8, m)
theorem e_149_57 (a0 : Nat) (x5 : Int32) (x6 : Int32) (x7 : Int32) (x8 : Int32) (m : Mm) : d_149_57 a0 x5 x6 x7 x8 m = oi (s_149_57 a0 x5 x6 x7 x8 m) (fun s => d_149_57 a0 x5 x6 x7 s.1 s.2) := it_eq _
theorem u_149_57 {L nx : Nat} (hN : okn nx) {b z : Nat} {m : Mm} {a0 : Nat} (h0 : ok nx a0 10) {x5 : Int32} {x6 : Int32} {x7 : Int32} {x8 : Int32} {o1 : Option Value} {o2 : Option Value} {o3 : Option Value} {o4 : Option Value} {o9 : Option Value} : Im (s_149_57 a0 x5 x6 x7 x8 m) (kL (eI L nx) (E_149_57 L nx b z a0 x5 x6 x7)) (ev_dn b z 149 57 [some (.ref a0), o1, o2, o3, o4, some (.int x5), some (.int x6), some (.int x7), some (.int x8), o9] [] (nx, mem L nx m)) := by
  unfold s_149_57
  refine i_bl (pc' := 61) [(.iload 8, 2), (.iload 5, 2)] [some (.ref a0), o1, o2, o3, o4, some (.int x5), some (.int x6), some (.int x7), some (.int x8), o9] [.int x5, .int x8] (by decide +kernel) rfl ?_
  refine i_ic (c := .gt) (off := 78) (t := 139) (pc' := 64) (p := x5 < x8) (by decide +kernel) rfl ?_ ?_
  · refine i_bl (pc' := 140) [(.iconst (-1), 1)] [some (.ref a0), o1, o2, o3, o4, some (.int x5), some (.int x6), some (.int x7), some (.int x8), o9] [.int (-1)] (by decide +kernel) rfl ?_
    exact i_ir (i_ri (by decide +kernel) rfl)
  · refine i_bl (pc' := 65) [(.aload_n 0, 1)] [some (.ref a0), o1, o2, o3, o4, some (.int x5), some (.int x6), some (.int x7), some (.int x8), o9] [.ref a0] (by decide +kernel) rfl ?_
    refine i_gr (idx := 19) (ci := 10) (k := 1) (t := 2) (p := 12127) (pc' := 68) (by decide +kernel) h0 ?_
    refine i_bl (pc' := 69) [(.aload_n 0, 1)] [some (.ref a0), o1, o2, o3, o4, some (.int x5), some (.int x6), some (.int x7), some (.int x8), o9] [.ref a0, .ref (sh_r a0 1)] (by decide +kernel) rfl ?_
    refine i_gr (idx := 43) (ci := 10) (k := 6) (t := 2) (p := 12132) (pc' := 72) (by decide +kernel) h0 ?_
    refine i_bl (pc' := 77) [(.iload 6, 2), (.iload 7, 2), (.aload_n 0, 1)] [some (.ref a0), o1, o2, o3, o4, some (.int x5), some (.int x6), some (.int x7), some (.int x8), o9] [.ref a0, .int x7, .int x6, .ref (sh_r a0 6), .ref (sh_r a0 1)] (by decide +kernel) rfl ?_
    refine i_gr (idx := 19) (ci := 10) (k := 1) (t := 2) (p := 12127) (pc' := 80) (by decide +kernel) h0 ?_
    refine i_gf (idx := 128) (ci := 3) (k := 5) (t := 0) (p := 11186) (pc' := 83) (by decide +kernel) (o_10_1 hN h0) ?_
    refine i_bl (pc' := 86) [(.iload 8, 2), (.iadd, 1)] [some (.ref a0), o1, o2, o3, o4, some (.int x5), some (.int x6), some (.int x7), some (.int x8), o9] [.int ((m (sh_r a0 1) 5) + x8), .int x7, .int x6, .ref (sh_r a0 6), .ref (sh_r a0 1)] (by decide +kernel) rfl ?_
    refine i_cv (ci := 3) (t := 59) (na := 5) (ml := 8) (idx := 297) (pc' := 89) (st' := []) (en := [some (.ref (sh_r a0 1)), some (.ref (sh_r a0 6)), some (.int x6), some (.int x7), some (.int ((m (sh_r a0 1) 5) + x8)), none, none, none]) (av := [.ref (sh_r a0 6), .int x6, .int x7, .int ((m (sh_r a0 1) 5) + x8)]) (vo := fun _ => none) (mo := fun m => m) (s2 := fun _ => []) (by decide +kernel) (by decide +kernel) (o_10_1 hN h0) ⟨rfl, rfl, rfl, rfl, rfl, rfl⟩ (fun _ => rfl) (t_59 hN (h0 := (o_10_1 hN h0)) (h1 := (o_10_6 hN h0))) (fun m10 => ?_)
    refine i_bl (pc' := 90) [(.aload_n 0, 1)] [some (.ref a0), o1, o2, o3, o4, some (.int x5), some (.int x6), some (.int x7), some (.int x8), o9] [.ref a0] (by decide +kernel) rfl ?_
    refine i_gr (idx := 19) (ci := 10) (k := 1) (t := 2) (p := 12127) (pc' := 93) (by decide +kernel) h0 ?_
    refine i_bl (pc' := 94) [(.aload_n 0, 1)] [some (.ref a0), o1, o2, o3, o4, some (.int x5), some (.int x6), some (.int x7), some (.int x8), o9] [.ref a0, .ref (sh_r a0 1)] (by decide +kernel) rfl ?_
    refine i_gr (idx := 19) (ci := 10) (k := 1) (t := 2) (p := 12127) (pc' := 97) (by decide +kernel) h0 ?_
    refine i_gf (idx := 131) (ci := 3) (k := 6) (t := 0) (p := 11188) (pc' := 100) (by decide +kernel) (o_10_1 hN h0) ?_
    refine i_cv (ci := 3) (t := 52) (na := 2) (ml := 2) (idx := 187) (pc' := 103) (st' := []) (en := [some (.ref (sh_r a0 1)), some (.int (m10 (sh_r a0 1) 6))]) (av := [.int (m10 (sh_r a0 1) 6)]) (vo := fun v => some (.int v)) (mo := fun _ => m10) (s2 := fun v => .int v :: []) (by decide +kernel) (by decide +kernel) (o_10_1 hN h0) ⟨rfl, rfl, rfl, rfl, rfl, rfl⟩ (fun _ => rfl) (t_52 hN (h0 := (o_10_1 hN h0))) (fun v11 => ?_)
    refine i_bl (pc' := 108) [(.iload 8, 2), (.isub, 1), (.istore 9, 2)] [some (.ref a0), o1, o2, o3, o4, some (.int x5), some (.int x6), some (.int x7), some (.int x8), some (.int (v11 - x8))] [] (by decide +kernel) rfl ?_
    refine i_wb (fun y12 => ev_dn b z 149 108 [some (.ref a0), o1, o2, o3, o4, some (.int x5), some (.int x6), some (.int x7), some (.int x8), some (.int y12)] [] (nx, mem L nx m10)) (fun y12 => ?_)
    refine i_bl (pc' := 109) [(.aload_n 0, 1)] [some (.ref a0), o1, o2, o3, o4, some (.int x5), some (.int x6), some (.int x7), some (.int x8), some (.int y12)] [.ref a0] (by decide +kernel) rfl ?_
    refine i_gr (idx := 43) (ci := 10) (k := 6) (t := 2) (p := 12132) (pc' := 112) (by decide +kernel) h0 ?_
    refine i_gz (idx := 312) (ci := 7) (k := 6) (t := 1) (p := 12029) (pc' := 115) (by decide +kernel) (o_10_6 hN h0) (fun B13 => ?_)
    refine i_bz (off := 18) (t := 133) (pc' := 118) (by decide +kernel) ?_ ?_
    · refine i_bl (pc' := 121) [(.iload 9, 2), (.aload_n 0, 1)] [some (.ref a0), o1, o2, o3, o4, some (.int x5), some (.int x6), some (.int x7), some (.int x8), some (.int y12)] [.ref a0, .int y12] (by decide +kernel) rfl ?_
      refine i_gr (idx := 43) (ci := 10) (k := 6) (t := 2) (p := 12132) (pc' := 124) (by decide +kernel) h0 ?_
      refine i_gf (idx := 315) (ci := 7) (k := 7) (t := 0) (p := 12032) (pc' := 127) (by decide +kernel) (o_10_6 hN h0) ?_
      refine i_ic (c := .le) (off := 6) (t := 133) (pc' := 130) (p := y12 ≤ (m10 (sh_r a0 6) 7)) (by decide +kernel) rfl ?_ ?_
      · refine i_bl (pc' := 136) [(.iinc 8 (1), 3)] [some (.ref a0), o1, o2, o3, o4, some (.int x5), some (.int x6), some (.int x7), some (.int (x8 + 1)), some (.int y12)] [] (by decide +kernel) rfl ?_
        refine i_wb (fun y15 => ev_dn b z 149 136 [some (.ref a0), o1, o2, o3, o4, some (.int x5), some (.int x6), some (.int x7), some (.int y15), some (.int y12)] [] (nx, mem L nx m10)) (fun y15 => ?_)
        refine i_go (t := 57) (off := -79) (by decide +kernel) ?_
        exact i_co (o1, o2, o3, o4, some (.int y12)) rfl
      · refine i_bl (pc' := 132) [(.iload 8, 2)] [some (.ref a0), o1, o2, o3, o4, some (.int x5), some (.int x6), some (.int x7), some (.int x8), some (.int y12)] [.int x8] (by decide +kernel) rfl ?_
        exact i_ir (i_ri (by decide +kernel) rfl)
    · refine i_bl (pc' := 136) [(.iinc 8 (1), 3)] [some (.ref a0), o1, o2, o3, o4, some (.int x5), some (.int x6), some (.int x7), some (.int (x8 + 1)), some (.int y12)] [] (by decide +kernel) rfl ?_
      refine i_wb (fun y14 => ev_dn b z 149 136 [some (.ref a0), o1, o2, o3, o4, some (.int x5), some (.int x6), some (.int x7), some (.int y14), some (.int y12)] [] (nx, mem L nx m10)) (fun y14 => ?_)
      refine i_go (t := 57) (off := -79) (by decide +kernel) ?_
      exact i_co (o1, o2, o3, o4, some (.int y12)) rfl

theorem t_149_57 {L nx : Nat} (hN : okn nx) {b z : Nat} {m : Mm} {a0 : Nat} (h0 : ok nx a0 10) {x5 : Int32} {x6 : Int32} {x7 : Int32} {x8 : Int32} {o1 : Option Value} {o2 : Option Value} {o3 : Option Value} {o4 : Option Value} {o9 : Option Value} : Im (d_149_57 a0 x5 x6 x7 x8 m) (eI L nx) (ev_dn b z 149 57 [some (.ref a0), o1, o2, o3, o4, some (.int x5), some (.int x6), some (.int x7), some (.int x8), o9] [] (nx, mem L nx m)) := by
  exact i_it (f := fun s => s_149_57 a0 x5 x6 x7 s.1 s.2) (E := E_149_57 L nx b z a0 x5 x6 x7) (K := (eI L nx)) (fun d s => u_149_57 hN (h0 := h0)) (o1, o2, o3, o4, o9) (x8, m)
noncomputable def d_149 (a0 : Nat) (x1 : Int32) (x2 : Int32) (x3 : Int32) (x4 : Int32) (x5 : Int32) (m : Mm) : Option ((Int32 ⊕ Nat) × Mm) := bE (d_179 a0 x1 x2 x3 x4 m) (fun _ m1 => bE (d_177 x5 0 200 m1) (fun _ m3 => bE (d_180 a0 m3) (fun _ m5 => (d_12 x1 x2).bind fun v7 => (d_12 x3 x4).bind fun v8 => (d_56 (sh_r a0 1) v7 v8 m5).bind fun v9 => if v9 = true then (d_149_57 a0 x5 v7 v8 0 m5) else (some (.inl (-2), m5))) (fun e16 m5 => some (.inr e16, m5))) (fun e17 m3 => some (.inr e17, m3))) (fun e18 m1 => some (.inr e18, m1))
theorem t_149 {L nx : Nat} (hN : okn nx) {b z : Nat} (hb : 4 ≤ b) (hz : 24 ≤ z) {m : Mm} {a0 : Nat} (h0 : ok nx a0 10) {x1 : Int32} {x2 : Int32} {x3 : Int32} {x4 : Int32} {x5 : Int32}  : Im (d_149 a0 x1 x2 x3 x4 x5 m) (eI L nx) (ev_dn b z 149 0 [some (.ref a0), some (.int x1), some (.int x2), some (.int x3), some (.int x4), some (.int x5), none, none, none, none] [] (nx, mem L nx m)) := by
  unfold d_149
  refine i_bl (pc' := 6) [(.aload_n 0, 1), (.iload_n 1, 1), (.iload_n 2, 1), (.iload_n 3, 1), (.iload 4, 2)] [some (.ref a0), some (.int x1), some (.int x2), some (.int x3), some (.int x4), some (.int x5), none, none, none, none] [.int x4, .int x3, .int x2, .int x1, .ref a0] (by decide +kernel) rfl ?_
  refine i_ev (ci := 10) (t := 179) (na := 5) (ml := 5) (idx := 201) (pc' := 9) (st' := []) (en := [some (.ref a0), some (.int x1), some (.int x2), some (.int x3), some (.int x4)]) (av := [.int x1, .int x2, .int x3, .int x4]) (k1 := 2) (k2 := 12) (vo := fun _ => none) (s2 := fun _ => []) (by decide +kernel) (by decide +kernel) h0 ⟨rfl, rfl, rfl, rfl, rfl, rfl⟩ ⟨by omega, by omega⟩ (fun _ => rfl) (t_179 hN (b := 2) (z := 12) (by decide) (by decide) (h0 := h0)) (fun _ m1 => ?_) (fun e18 m1 => ?_)
  · refine i_bl (pc' := 15) [(.iload 5, 2), (.iconst 0, 1), (.sipush (200), 3)] [some (.ref a0), some (.int x1), some (.int x2), some (.int x3), some (.int x4), some (.int x5), none, none, none, none] [.int 200, .int 0, .int x5] (by decide +kernel) rfl ?_
    refine i_es (t := 177) (na := 3) (ml := 3) (idx := 217) (pc' := 18) (st' := []) (en := [some (.int x5), some (.int 0), some (.int 200)]) (av := [.int x5, .int 0, .int 200]) (k1 := 1) (k2 := 6) (vo := fun _ => none) (s2 := fun _ => []) (by decide +kernel) ⟨rfl, rfl, rfl, rfl, rfl, rfl⟩ ⟨by omega, by omega⟩ (fun _ => rfl) (t_177 hN (b := 1) (z := 6) (by decide) (by decide) ) (fun _ m3 => ?_) (fun e17 m3 => ?_)
    · refine i_bl (pc' := 19) [(.aload_n 0, 1)] [some (.ref a0), some (.int x1), some (.int x2), some (.int x3), some (.int x4), some (.int x5), none, none, none, none] [.ref a0] (by decide +kernel) rfl ?_
      refine i_ev (ci := 10) (t := 180) (na := 1) (ml := 1) (idx := 301) (pc' := 22) (st' := []) (en := [some (.ref a0)]) (av := []) (k1 := 1) (k2 := 6) (vo := fun _ => none) (s2 := fun _ => []) (by decide +kernel) (by decide +kernel) h0 ⟨rfl, rfl, rfl, rfl, rfl, rfl⟩ ⟨by omega, by omega⟩ (fun _ => rfl) (t_180 hN (b := 1) (z := 6) (by decide) (by decide) (h0 := h0)) (fun _ m5 => ?_) (fun e16 m5 => ?_)
      · refine i_bl (pc' := 24) [(.iload_n 1, 1), (.iload_n 2, 1)] [some (.ref a0), some (.int x1), some (.int x2), some (.int x3), some (.int x4), some (.int x5), none, none, none, none] [.int x2, .int x1] (by decide +kernel) rfl ?_
        refine i_cs (t := 12) (na := 2) (ml := 2) (idx := 73) (pc' := 27) (st' := []) (en := [some (.int x1), some (.int x2)]) (av := [.int x1, .int x2]) (vo := fun v => some (.int v)) (mo := fun _ => m5) (s2 := fun v => .int v :: []) (by decide +kernel) ⟨rfl, rfl, rfl, rfl, rfl, rfl⟩ (fun _ => rfl) (t_12 hN ) (fun v7 => ?_)
        refine i_bl (pc' := 32) [(.istore 6, 2), (.iload_n 3, 1), (.iload 4, 2)] [some (.ref a0), some (.int x1), some (.int x2), some (.int x3), some (.int x4), some (.int x5), some (.int v7), none, none, none] [.int x4, .int x3] (by decide +kernel) rfl ?_
        refine i_cs (t := 12) (na := 2) (ml := 2) (idx := 73) (pc' := 35) (st' := []) (en := [some (.int x3), some (.int x4)]) (av := [.int x3, .int x4]) (vo := fun v => some (.int v)) (mo := fun _ => m5) (s2 := fun v => .int v :: []) (by decide +kernel) ⟨rfl, rfl, rfl, rfl, rfl, rfl⟩ (fun _ => rfl) (t_12 hN ) (fun v8 => ?_)
        refine i_bl (pc' := 38) [(.istore 7, 2), (.aload_n 0, 1)] [some (.ref a0), some (.int x1), some (.int x2), some (.int x3), some (.int x4), some (.int x5), some (.int v7), some (.int v8), none, none] [.ref a0] (by decide +kernel) rfl ?_
        refine i_gr (idx := 19) (ci := 10) (k := 1) (t := 2) (p := 12127) (pc' := 41) (by decide +kernel) h0 ?_
        refine i_bl (pc' := 45) [(.iload 6, 2), (.iload 7, 2)] [some (.ref a0), some (.int x1), some (.int x2), some (.int x3), some (.int x4), some (.int x5), some (.int v7), some (.int v8), none, none] [.int v8, .int v7, .ref (sh_r a0 1)] (by decide +kernel) rfl ?_
        refine i_cv (ci := 3) (t := 56) (na := 3) (ml := 3) (idx := 308) (pc' := 48) (st' := []) (en := [some (.ref (sh_r a0 1)), some (.int v7), some (.int v8)]) (av := [.int v7, .int v8]) (vo := fun v => some (.int (bi v))) (mo := fun _ => m5) (s2 := fun v => .int (bi v) :: []) (by decide +kernel) (by decide +kernel) (o_10_1 hN h0) ⟨rfl, rfl, rfl, rfl, rfl, rfl⟩ (fun _ => rfl) (t_56 hN (h0 := (o_10_1 hN h0))) (fun v9 => ?_)
        refine i_bn (off := 6) (t := 54) (pc' := 51) (by decide +kernel) ?_ ?_
        · refine i_bl (pc' := 57) [(.iconst 0, 1), (.istore 8, 2)] [some (.ref a0), some (.int x1), some (.int x2), some (.int x3), some (.int x4), some (.int x5), some (.int v7), some (.int v8), some (.int 0), none] [] (by decide +kernel) rfl ?_
          exact t_149_57 hN (h0 := h0)
        · refine i_bl (pc' := 53) [(.bipush (-2), 2)] [some (.ref a0), some (.int x1), some (.int x2), some (.int x3), some (.int x4), some (.int x5), some (.int v7), some (.int v8), none, none] [.int (-2)] (by decide +kernel) rfl ?_
          exact i_ri (by decide +kernel) rfl
      · exact i_h0 (by decide +kernel) rfl
    · exact i_h0 (by decide +kernel) rfl
  · exact i_h0 (by decide +kernel) rfl

/-! 150 LanternChess.sent(II)I -/
noncomputable def d_150 (a0 : Nat) (x1 : Int32) (x2 : Int32) (m : Mm) : Option ((Int32 ⊕ Nat) × Mm) := bE (d_176 x1 (m (sh_r (sh_r a0 1) 3) 1) m) (fun _ m1 => bE (d_177 x2 0 7 m1) (fun _ m3 => (d_72 (sh_r (sh_r a0 1) 3) x1 x2 m3).bind fun v5 => some (.inl v5, m3)) (fun e6 m3 => some (.inr e6, m3))) (fun e7 m1 => some (.inr e7, m1))
theorem t_150 {L nx : Nat} (hN : okn nx) {b z : Nat} (hb : 2 ≤ b) (hz : 12 ≤ z) {m : Mm} {a0 : Nat} (h0 : ok nx a0 10) {x1 : Int32} {x2 : Int32}  : Im (d_150 a0 x1 x2 m) (eI L nx) (ev_dn b z 150 0 [some (.ref a0), some (.int x1), some (.int x2)] [] (nx, mem L nx m)) := by
  unfold d_150
  refine i_bl (pc' := 2) [(.iload_n 1, 1), (.aload_n 0, 1)] [some (.ref a0), some (.int x1), some (.int x2)] [.ref a0, .int x1] (by decide +kernel) rfl ?_
  refine i_gr (idx := 19) (ci := 10) (k := 1) (t := 2) (p := 12127) (pc' := 5) (by decide +kernel) h0 ?_
  refine i_gr (idx := 170) (ci := 3) (k := 3) (t := 2) (p := 11182) (pc' := 8) (by decide +kernel) (o_10_1 hN h0) ?_
  refine i_gf (idx := 173) (ci := 5) (k := 1) (t := 0) (p := 11163) (pc' := 11) (by decide +kernel) (o_3_3 hN (o_10_1 hN h0)) ?_
  refine i_es (t := 176) (na := 2) (ml := 2) (idx := 214) (pc' := 14) (st' := []) (en := [some (.int x1), some (.int (m (sh_r (sh_r a0 1) 3) 1))]) (av := [.int x1, .int (m (sh_r (sh_r a0 1) 3) 1)]) (k1 := 1) (k2 := 6) (vo := fun _ => none) (s2 := fun _ => []) (by decide +kernel) ⟨rfl, rfl, rfl, rfl, rfl, rfl⟩ ⟨by omega, by omega⟩ (fun _ => rfl) (t_176 hN (b := 1) (z := 6) (by decide) (by decide) ) (fun _ m1 => ?_) (fun e7 m1 => ?_)
  · refine i_bl (pc' := 18) [(.iload_n 2, 1), (.iconst 0, 1), (.bipush (7), 2)] [some (.ref a0), some (.int x1), some (.int x2)] [.int 7, .int 0, .int x2] (by decide +kernel) rfl ?_
    refine i_es (t := 177) (na := 3) (ml := 3) (idx := 217) (pc' := 21) (st' := []) (en := [some (.int x2), some (.int 0), some (.int 7)]) (av := [.int x2, .int 0, .int 7]) (k1 := 1) (k2 := 6) (vo := fun _ => none) (s2 := fun _ => []) (by decide +kernel) ⟨rfl, rfl, rfl, rfl, rfl, rfl⟩ ⟨by omega, by omega⟩ (fun _ => rfl) (t_177 hN (b := 1) (z := 6) (by decide) (by decide) ) (fun _ m3 => ?_) (fun e6 m3 => ?_)
    · refine i_bl (pc' := 22) [(.aload_n 0, 1)] [some (.ref a0), some (.int x1), some (.int x2)] [.ref a0] (by decide +kernel) rfl ?_
      refine i_gr (idx := 19) (ci := 10) (k := 1) (t := 2) (p := 12127) (pc' := 25) (by decide +kernel) h0 ?_
      refine i_gr (idx := 170) (ci := 3) (k := 3) (t := 2) (p := 11182) (pc' := 28) (by decide +kernel) (o_10_1 hN h0) ?_
      refine i_bl (pc' := 30) [(.iload_n 1, 1), (.iload_n 2, 1)] [some (.ref a0), some (.int x1), some (.int x2)] [.int x2, .int x1, .ref (sh_r (sh_r a0 1) 3)] (by decide +kernel) rfl ?_
      refine i_cv (ci := 5) (t := 72) (na := 3) (ml := 4) (idx := 318) (pc' := 33) (st' := []) (en := [some (.ref (sh_r (sh_r a0 1) 3)), some (.int x1), some (.int x2), none]) (av := [.int x1, .int x2]) (vo := fun v => some (.int v)) (mo := fun _ => m3) (s2 := fun v => .int v :: []) (by decide +kernel) (by decide +kernel) (o_3_3 hN (o_10_1 hN h0)) ⟨rfl, rfl, rfl, rfl, rfl, rfl⟩ (fun _ => rfl) (t_72 hN (h0 := (o_3_3 hN (o_10_1 hN h0)))) (fun v5 => ?_)
      exact i_ri (by decide +kernel) rfl
    · exact i_h0 (by decide +kernel) rfl
  · exact i_h0 (by decide +kernel) rfl

/-! 151 LanternChess.made(II)I -/
noncomputable def d_151_43 (a0 : Nat) (x3 : Int32) (m : Mm) : Option ((Int32 ⊕ Nat) × Mm) := (d_16 (sh_r (sh_r (sh_r a0 1) 0) 0) x3 m).bind fun v6 => some (.inl v6, m)
theorem t_151_43 {L nx : Nat} (hN : okn nx) {b z : Nat} {m : Mm} {a0 : Nat} (h0 : ok nx a0 10) {x3 : Int32} {o1 : Option Value} {o2 : Option Value} : Im (d_151_43 a0 x3 m) (eI L nx) (ev_dn b z 151 43 [some (.ref a0), o1, o2, some (.int x3)] [] (nx, mem L nx m)) := by
  unfold d_151_43
  refine i_bl (pc' := 44) [(.aload_n 0, 1)] [some (.ref a0), o1, o2, some (.int x3)] [.ref a0] (by decide +kernel) rfl ?_
  refine i_gr (idx := 19) (ci := 10) (k := 1) (t := 2) (p := 12127) (pc' := 47) (by decide +kernel) h0 ?_
  refine i_gr (idx := 112) (ci := 3) (k := 0) (t := 2) (p := 11175) (pc' := 50) (by decide +kernel) (o_10_1 hN h0) ?_
  refine i_gr (idx := 116) (ci := 0) (k := 0) (t := 2) (p := 11114) (pc' := 53) (by decide +kernel) (o_3_0 hN (o_10_1 hN h0)) ?_
  refine i_bl (pc' := 54) [(.iload_n 3, 1)] [some (.ref a0), o1, o2, some (.int x3)] [.int x3, .ref (sh_r (sh_r (sh_r a0 1) 0) 0)] (by decide +kernel) rfl ?_
  refine i_cv (ci := 1) (t := 16) (na := 2) (ml := 2) (idx := 237) (pc' := 57) (st' := []) (en := [some (.ref (sh_r (sh_r (sh_r a0 1) 0) 0)), some (.int x3)]) (av := [.int x3]) (vo := fun v => some (.int v)) (mo := fun _ => m) (s2 := fun v => .int v :: []) (by decide +kernel) (by decide +kernel) (o_0_0 hN (o_3_0 hN (o_10_1 hN h0))) ⟨rfl, rfl, rfl, rfl, rfl, rfl⟩ (fun _ => rfl) (t_16 hN (h0 := (o_0_0 hN (o_3_0 hN (o_10_1 hN h0))))) (fun v6 => ?_)
  refine i_go (t := 61) (off := 4) (by decide +kernel) ?_
  exact i_ri (by decide +kernel) rfl

noncomputable def d_151 (a0 : Nat) (x1 : Int32) (x2 : Int32) (m : Mm) : Option ((Int32 ⊕ Nat) × Mm) := bE (d_176 x1 (m (sh_r (sh_r a0 1) 4) 1) m) (fun _ m1 => bE (d_177 x2 0 5 m1) (fun _ m3 => (d_72 (sh_r (sh_r a0 1) 4) x1 x2 m3).bind fun v5 => if x2 = 1 then (d_151_43 a0 v5 m3) else (if ¬ x2 = 2 then (some (.inl v5, m3)) else (d_151_43 a0 v5 m3))) (fun e7 m3 => some (.inr e7, m3))) (fun e8 m1 => some (.inr e8, m1))
theorem t_151 {L nx : Nat} (hN : okn nx) {b z : Nat} (hb : 2 ≤ b) (hz : 12 ≤ z) {m : Mm} {a0 : Nat} (h0 : ok nx a0 10) {x1 : Int32} {x2 : Int32}  : Im (d_151 a0 x1 x2 m) (eI L nx) (ev_dn b z 151 0 [some (.ref a0), some (.int x1), some (.int x2), none] [] (nx, mem L nx m)) := by
  unfold d_151
  refine i_bl (pc' := 2) [(.iload_n 1, 1), (.aload_n 0, 1)] [some (.ref a0), some (.int x1), some (.int x2), none] [.ref a0, .int x1] (by decide +kernel) rfl ?_
  refine i_gr (idx := 19) (ci := 10) (k := 1) (t := 2) (p := 12127) (pc' := 5) (by decide +kernel) h0 ?_
  refine i_gr (idx := 161) (ci := 3) (k := 4) (t := 2) (p := 11184) (pc' := 8) (by decide +kernel) (o_10_1 hN h0) ?_
  refine i_gf (idx := 173) (ci := 5) (k := 1) (t := 0) (p := 11163) (pc' := 11) (by decide +kernel) (o_3_4 hN (o_10_1 hN h0)) ?_
  refine i_es (t := 176) (na := 2) (ml := 2) (idx := 214) (pc' := 14) (st' := []) (en := [some (.int x1), some (.int (m (sh_r (sh_r a0 1) 4) 1))]) (av := [.int x1, .int (m (sh_r (sh_r a0 1) 4) 1)]) (k1 := 1) (k2 := 6) (vo := fun _ => none) (s2 := fun _ => []) (by decide +kernel) ⟨rfl, rfl, rfl, rfl, rfl, rfl⟩ ⟨by omega, by omega⟩ (fun _ => rfl) (t_176 hN (b := 1) (z := 6) (by decide) (by decide) ) (fun _ m1 => ?_) (fun e8 m1 => ?_)
  · refine i_bl (pc' := 17) [(.iload_n 2, 1), (.iconst 0, 1), (.iconst 5, 1)] [some (.ref a0), some (.int x1), some (.int x2), none] [.int 5, .int 0, .int x2] (by decide +kernel) rfl ?_
    refine i_es (t := 177) (na := 3) (ml := 3) (idx := 217) (pc' := 20) (st' := []) (en := [some (.int x2), some (.int 0), some (.int 5)]) (av := [.int x2, .int 0, .int 5]) (k1 := 1) (k2 := 6) (vo := fun _ => none) (s2 := fun _ => []) (by decide +kernel) ⟨rfl, rfl, rfl, rfl, rfl, rfl⟩ ⟨by omega, by omega⟩ (fun _ => rfl) (t_177 hN (b := 1) (z := 6) (by decide) (by decide) ) (fun _ m3 => ?_) (fun e7 m3 => ?_)
    · refine i_bl (pc' := 21) [(.aload_n 0, 1)] [some (.ref a0), some (.int x1), some (.int x2), none] [.ref a0] (by decide +kernel) rfl ?_
      refine i_gr (idx := 19) (ci := 10) (k := 1) (t := 2) (p := 12127) (pc' := 24) (by decide +kernel) h0 ?_
      refine i_gr (idx := 161) (ci := 3) (k := 4) (t := 2) (p := 11184) (pc' := 27) (by decide +kernel) (o_10_1 hN h0) ?_
      refine i_bl (pc' := 29) [(.iload_n 1, 1), (.iload_n 2, 1)] [some (.ref a0), some (.int x1), some (.int x2), none] [.int x2, .int x1, .ref (sh_r (sh_r a0 1) 4)] (by decide +kernel) rfl ?_
      refine i_cv (ci := 5) (t := 72) (na := 3) (ml := 4) (idx := 318) (pc' := 32) (st' := []) (en := [some (.ref (sh_r (sh_r a0 1) 4)), some (.int x1), some (.int x2), none]) (av := [.int x1, .int x2]) (vo := fun v => some (.int v)) (mo := fun _ => m3) (s2 := fun v => .int v :: []) (by decide +kernel) (by decide +kernel) (o_3_4 hN (o_10_1 hN h0)) ⟨rfl, rfl, rfl, rfl, rfl, rfl⟩ (fun _ => rfl) (t_72 hN (h0 := (o_3_4 hN (o_10_1 hN h0)))) (fun v5 => ?_)
      refine i_bl (pc' := 35) [(.istore_n 3, 1), (.iload_n 2, 1), (.iconst 1, 1)] [some (.ref a0), some (.int x1), some (.int x2), some (.int v5)] [.int 1, .int x2] (by decide +kernel) rfl ?_
      refine i_ic (c := .eq) (off := 8) (t := 43) (pc' := 38) (p := x2 = 1) (by decide +kernel) rfl ?_ ?_
      · exact t_151_43 hN (h0 := h0)
      · refine i_bl (pc' := 40) [(.iload_n 2, 1), (.iconst 2, 1)] [some (.ref a0), some (.int x1), some (.int x2), some (.int v5)] [.int 2, .int x2] (by decide +kernel) rfl ?_
        refine i_ic (c := .ne) (off := 20) (t := 60) (pc' := 43) (p := ¬ x2 = 2) (by decide +kernel) rfl ?_ ?_
        · refine i_bl (pc' := 61) [(.iload_n 3, 1)] [some (.ref a0), some (.int x1), some (.int x2), some (.int v5)] [.int v5] (by decide +kernel) rfl ?_
          exact i_ri (by decide +kernel) rfl
        · exact t_151_43 hN (h0 := h0)
    · exact i_h0 (by decide +kernel) rfl
  · exact i_h0 (by decide +kernel) rfl

/-! 152 LanternChess.meanTries()D -/
noncomputable def d_152 (a0 : Nat) (m : Mm) : Option UInt64 := wb (m (sh_r (sh_r a0 1) 4) 1) fun y1 => if ¬ y1 = 0 then ((d_73 (sh_r (sh_r a0 1) 4) 4 m).bind fun v2 => if (FP.ddiv (FP.i2d v2) (FP.i2d y1)) &&& 0x7fffffffffffffff ≤ 0x7ff0000000000000 then (some (FP.ddiv (FP.i2d v2) (FP.i2d y1))) else none) else (some FP.dconst0)
theorem t_152 {L nx : Nat} (hN : okn nx) {b z : Nat} {m : Mm} {a0 : Nat} (h0 : ok nx a0 10)   : Im (d_152 a0 m) (kD L nx m) (ev_dn b z 152 0 [some (.ref a0), none] [] (nx, mem L nx m)) := by
  unfold d_152
  refine i_bl (pc' := 1) [(.aload_n 0, 1)] [some (.ref a0), none] [.ref a0] (by decide +kernel) rfl ?_
  refine i_gr (idx := 19) (ci := 10) (k := 1) (t := 2) (p := 12127) (pc' := 4) (by decide +kernel) h0 ?_
  refine i_gr (idx := 161) (ci := 3) (k := 4) (t := 2) (p := 11184) (pc' := 7) (by decide +kernel) (o_10_1 hN h0) ?_
  refine i_gf (idx := 173) (ci := 5) (k := 1) (t := 0) (p := 11163) (pc' := 10) (by decide +kernel) (o_3_4 hN (o_10_1 hN h0)) ?_
  refine i_bl (pc' := 11) [(.istore_n 1, 1)] [some (.ref a0), some (.int (m (sh_r (sh_r a0 1) 4) 1))] [] (by decide +kernel) rfl ?_
  refine i_wb (fun y1 => ev_dn b z 152 11 [some (.ref a0), some (.int y1)] [] (nx, mem L nx m)) (fun y1 => ?_)
  refine i_bl (pc' := 12) [(.iload_n 1, 1)] [some (.ref a0), some (.int y1)] [.int y1] (by decide +kernel) rfl ?_
  refine i_if (c := .ne) (off := 5) (t := 17) (pc' := 15) (p := ¬ y1 = 0) (by decide +kernel) rfl ?_ ?_
  · refine i_bl (pc' := 18) [(.aload_n 0, 1)] [some (.ref a0), some (.int y1)] [.ref a0] (by decide +kernel) rfl ?_
    refine i_gr (idx := 19) (ci := 10) (k := 1) (t := 2) (p := 12127) (pc' := 21) (by decide +kernel) h0 ?_
    refine i_gr (idx := 161) (ci := 3) (k := 4) (t := 2) (p := 11184) (pc' := 24) (by decide +kernel) (o_10_1 hN h0) ?_
    refine i_bl (pc' := 25) [(.iconst 4, 1)] [some (.ref a0), some (.int y1)] [.int 4, .ref (sh_r (sh_r a0 1) 4)] (by decide +kernel) rfl ?_
    refine i_cv (ci := 5) (t := 73) (na := 2) (ml := 4) (idx := 319) (pc' := 28) (st' := []) (en := [some (.ref (sh_r (sh_r a0 1) 4)), some (.int 4), none, none]) (av := [.int 4]) (vo := fun v => some (.int v)) (mo := fun _ => m) (s2 := fun v => .int v :: []) (by decide +kernel) (by decide +kernel) (o_3_4 hN (o_10_1 hN h0)) ⟨rfl, rfl, rfl, rfl, rfl, rfl⟩ (fun _ => rfl) (t_73 hN (h0 := (o_3_4 hN (o_10_1 hN h0)))) (fun v2 => ?_)
    refine i_bl (pc' := 31) [(.i2d, 1), (.iload_n 1, 1), (.i2d, 1)] [some (.ref a0), some (.int y1)] [.double (FP.i2d y1), .double (FP.i2d v2)] (by decide +kernel) rfl ?_
    refine i_dd (pc' := 32) (by decide +kernel) ?_
    exact i_rd (by decide +kernel) rfl
  · refine i_bl (pc' := 16) [(.dconst 0, 1)] [some (.ref a0), some (.int y1)] [.double FP.dconst0] (by decide +kernel) rfl ?_
    exact i_rd (by decide +kernel) rfl

/-! 153 LanternChess.hiddenShare()F -/
noncomputable def d_153 (a0 : Nat) (m : Mm) : Option UInt32 := (d_73 (sh_r (sh_r a0 1) 3) 2 m).bind fun v1 => (d_73 (sh_r (sh_r a0 1) 3) 5 m).bind fun v2 => wb (v1 + v2) fun y3 => if ¬ y3 = 0 then ((d_73 (sh_r (sh_r a0 1) 3) 3 m).bind fun v4 => (d_73 (sh_r (sh_r a0 1) 3) 6 m).bind fun v5 => wb ((y3 - v4) - v5) fun y6 => if (FP.fdiv (FP.i2f y6) (FP.i2f y3)) &&& 0x7fffffff ≤ 0x7f800000 then (some (FP.fdiv (FP.i2f y6) (FP.i2f y3))) else none) else (some FP.fconst0)
theorem t_153 {L nx : Nat} (hN : okn nx) {b z : Nat} {m : Mm} {a0 : Nat} (h0 : ok nx a0 10)   : Im (d_153 a0 m) (kF L nx m) (ev_dn b z 153 0 [some (.ref a0), none, none, none] [] (nx, mem L nx m)) := by
  unfold d_153
  refine i_bl (pc' := 1) [(.aload_n 0, 1)] [some (.ref a0), none, none, none] [.ref a0] (by decide +kernel) rfl ?_
  refine i_gr (idx := 19) (ci := 10) (k := 1) (t := 2) (p := 12127) (pc' := 4) (by decide +kernel) h0 ?_
  refine i_gr (idx := 170) (ci := 3) (k := 3) (t := 2) (p := 11182) (pc' := 7) (by decide +kernel) (o_10_1 hN h0) ?_
  refine i_bl (pc' := 10) [(.astore_n 1, 1), (.aload_n 1, 1), (.iconst 2, 1)] [some (.ref a0), some (.ref (sh_r (sh_r a0 1) 3)), none, none] [.int 2, .ref (sh_r (sh_r a0 1) 3)] (by decide +kernel) rfl ?_
  refine i_cv (ci := 5) (t := 73) (na := 2) (ml := 4) (idx := 319) (pc' := 13) (st' := []) (en := [some (.ref (sh_r (sh_r a0 1) 3)), some (.int 2), none, none]) (av := [.int 2]) (vo := fun v => some (.int v)) (mo := fun _ => m) (s2 := fun v => .int v :: []) (by decide +kernel) (by decide +kernel) (o_3_3 hN (o_10_1 hN h0)) ⟨rfl, rfl, rfl, rfl, rfl, rfl⟩ (fun _ => rfl) (t_73 hN (h0 := (o_3_3 hN (o_10_1 hN h0)))) (fun v1 => ?_)
  refine i_bl (pc' := 15) [(.aload_n 1, 1), (.iconst 5, 1)] [some (.ref a0), some (.ref (sh_r (sh_r a0 1) 3)), none, none] [.int 5, .ref (sh_r (sh_r a0 1) 3), .int v1] (by decide +kernel) rfl ?_
  refine i_cv (ci := 5) (t := 73) (na := 2) (ml := 4) (idx := 319) (pc' := 18) (st' := [.int v1]) (en := [some (.ref (sh_r (sh_r a0 1) 3)), some (.int 5), none, none]) (av := [.int 5]) (vo := fun v => some (.int v)) (mo := fun _ => m) (s2 := fun v => .int v :: [.int v1]) (by decide +kernel) (by decide +kernel) (o_3_3 hN (o_10_1 hN h0)) ⟨rfl, rfl, rfl, rfl, rfl, rfl⟩ (fun _ => rfl) (t_73 hN (h0 := (o_3_3 hN (o_10_1 hN h0)))) (fun v2 => ?_)
  refine i_bl (pc' := 20) [(.iadd, 1), (.istore_n 2, 1)] [some (.ref a0), some (.ref (sh_r (sh_r a0 1) 3)), some (.int (v1 + v2)), none] [] (by decide +kernel) rfl ?_
  refine i_wb (fun y3 => ev_dn b z 153 20 [some (.ref a0), some (.ref (sh_r (sh_r a0 1) 3)), some (.int y3), none] [] (nx, mem L nx m)) (fun y3 => ?_)
  refine i_bl (pc' := 21) [(.iload_n 2, 1)] [some (.ref a0), some (.ref (sh_r (sh_r a0 1) 3)), some (.int y3), none] [.int y3] (by decide +kernel) rfl ?_
  refine i_if (c := .ne) (off := 5) (t := 26) (pc' := 24) (p := ¬ y3 = 0) (by decide +kernel) rfl ?_ ?_
  · refine i_bl (pc' := 29) [(.iload_n 2, 1), (.aload_n 1, 1), (.iconst 3, 1)] [some (.ref a0), some (.ref (sh_r (sh_r a0 1) 3)), some (.int y3), none] [.int 3, .ref (sh_r (sh_r a0 1) 3), .int y3] (by decide +kernel) rfl ?_
    refine i_cv (ci := 5) (t := 73) (na := 2) (ml := 4) (idx := 319) (pc' := 32) (st' := [.int y3]) (en := [some (.ref (sh_r (sh_r a0 1) 3)), some (.int 3), none, none]) (av := [.int 3]) (vo := fun v => some (.int v)) (mo := fun _ => m) (s2 := fun v => .int v :: [.int y3]) (by decide +kernel) (by decide +kernel) (o_3_3 hN (o_10_1 hN h0)) ⟨rfl, rfl, rfl, rfl, rfl, rfl⟩ (fun _ => rfl) (t_73 hN (h0 := (o_3_3 hN (o_10_1 hN h0)))) (fun v4 => ?_)
    refine i_bl (pc' := 36) [(.isub, 1), (.aload_n 1, 1), (.bipush (6), 2)] [some (.ref a0), some (.ref (sh_r (sh_r a0 1) 3)), some (.int y3), none] [.int 6, .ref (sh_r (sh_r a0 1) 3), .int (y3 - v4)] (by decide +kernel) rfl ?_
    refine i_cv (ci := 5) (t := 73) (na := 2) (ml := 4) (idx := 319) (pc' := 39) (st' := [.int (y3 - v4)]) (en := [some (.ref (sh_r (sh_r a0 1) 3)), some (.int 6), none, none]) (av := [.int 6]) (vo := fun v => some (.int v)) (mo := fun _ => m) (s2 := fun v => .int v :: [.int (y3 - v4)]) (by decide +kernel) (by decide +kernel) (o_3_3 hN (o_10_1 hN h0)) ⟨rfl, rfl, rfl, rfl, rfl, rfl⟩ (fun _ => rfl) (t_73 hN (h0 := (o_3_3 hN (o_10_1 hN h0)))) (fun v5 => ?_)
    refine i_bl (pc' := 41) [(.isub, 1), (.istore_n 3, 1)] [some (.ref a0), some (.ref (sh_r (sh_r a0 1) 3)), some (.int y3), some (.int ((y3 - v4) - v5))] [] (by decide +kernel) rfl ?_
    refine i_wb (fun y6 => ev_dn b z 153 41 [some (.ref a0), some (.ref (sh_r (sh_r a0 1) 3)), some (.int y3), some (.int y6)] [] (nx, mem L nx m)) (fun y6 => ?_)
    refine i_bl (pc' := 45) [(.iload_n 3, 1), (.i2f, 1), (.iload_n 2, 1), (.i2f, 1)] [some (.ref a0), some (.ref (sh_r (sh_r a0 1) 3)), some (.int y3), some (.int y6)] [.float (FP.i2f y3), .float (FP.i2f y6)] (by decide +kernel) rfl ?_
    refine i_fd (pc' := 46) (by decide +kernel) ?_
    exact i_rf (by decide +kernel) rfl
  · refine i_bl (pc' := 25) [(.fconst 0, 1)] [some (.ref a0), some (.ref (sh_r (sh_r a0 1) 3)), some (.int y3), none] [.float FP.fconst0] (by decide +kernel) rfl ?_
    exact i_rf (by decide +kernel) rfl

/-! 154 LanternChess.play(IIII)I -/
noncomputable def d_154 (a0 : Nat) (x1 : Int32) (x2 : Int32) (x3 : Int32) (x4 : Int32) (m : Mm) : Option ((Int32 ⊕ Nat) × Mm) := bE (d_179 a0 x1 x2 x3 x4 m) (fun _ m1 => bE (d_180 a0 m1) (fun _ m3 => (d_12 x1 x2).bind fun v5 => (d_12 x3 x4).bind fun v6 => (d_56 (sh_r a0 1) v5 v6 m3).bind fun v7 => if v7 = true then ((d_65 (sh_r a0 5) (sh_r a0 1) m3).bind fun m8 => (d_60 (sh_r a0 1) (sh_r a0 6) v5 v6 m8).bind fun r9 => some (.inl r9.1, r9.2)) else (some (.inl (-2), m3))) (fun e10 m3 => some (.inr e10, m3))) (fun e11 m1 => some (.inr e11, m1))
theorem t_154 {L nx : Nat} (hN : okn nx) {b z : Nat} (hb : 3 ≤ b) (hz : 18 ≤ z) {m : Mm} {a0 : Nat} (h0 : ok nx a0 10) {x1 : Int32} {x2 : Int32} {x3 : Int32} {x4 : Int32}  : Im (d_154 a0 x1 x2 x3 x4 m) (eI L nx) (ev_dn b z 154 0 [some (.ref a0), some (.int x1), some (.int x2), some (.int x3), some (.int x4), none, none] [] (nx, mem L nx m)) := by
  unfold d_154
  refine i_bl (pc' := 6) [(.aload_n 0, 1), (.iload_n 1, 1), (.iload_n 2, 1), (.iload_n 3, 1), (.iload 4, 2)] [some (.ref a0), some (.int x1), some (.int x2), some (.int x3), some (.int x4), none, none] [.int x4, .int x3, .int x2, .int x1, .ref a0] (by decide +kernel) rfl ?_
  refine i_ev (ci := 10) (t := 179) (na := 5) (ml := 5) (idx := 201) (pc' := 9) (st' := []) (en := [some (.ref a0), some (.int x1), some (.int x2), some (.int x3), some (.int x4)]) (av := [.int x1, .int x2, .int x3, .int x4]) (k1 := 2) (k2 := 12) (vo := fun _ => none) (s2 := fun _ => []) (by decide +kernel) (by decide +kernel) h0 ⟨rfl, rfl, rfl, rfl, rfl, rfl⟩ ⟨by omega, by omega⟩ (fun _ => rfl) (t_179 hN (b := 2) (z := 12) (by decide) (by decide) (h0 := h0)) (fun _ m1 => ?_) (fun e11 m1 => ?_)
  · refine i_bl (pc' := 10) [(.aload_n 0, 1)] [some (.ref a0), some (.int x1), some (.int x2), some (.int x3), some (.int x4), none, none] [.ref a0] (by decide +kernel) rfl ?_
    refine i_ev (ci := 10) (t := 180) (na := 1) (ml := 1) (idx := 301) (pc' := 13) (st' := []) (en := [some (.ref a0)]) (av := []) (k1 := 1) (k2 := 6) (vo := fun _ => none) (s2 := fun _ => []) (by decide +kernel) (by decide +kernel) h0 ⟨rfl, rfl, rfl, rfl, rfl, rfl⟩ ⟨by omega, by omega⟩ (fun _ => rfl) (t_180 hN (b := 1) (z := 6) (by decide) (by decide) (h0 := h0)) (fun _ m3 => ?_) (fun e10 m3 => ?_)
    · refine i_bl (pc' := 15) [(.iload_n 1, 1), (.iload_n 2, 1)] [some (.ref a0), some (.int x1), some (.int x2), some (.int x3), some (.int x4), none, none] [.int x2, .int x1] (by decide +kernel) rfl ?_
      refine i_cs (t := 12) (na := 2) (ml := 2) (idx := 73) (pc' := 18) (st' := []) (en := [some (.int x1), some (.int x2)]) (av := [.int x1, .int x2]) (vo := fun v => some (.int v)) (mo := fun _ => m3) (s2 := fun v => .int v :: []) (by decide +kernel) ⟨rfl, rfl, rfl, rfl, rfl, rfl⟩ (fun _ => rfl) (t_12 hN ) (fun v5 => ?_)
      refine i_bl (pc' := 23) [(.istore 5, 2), (.iload_n 3, 1), (.iload 4, 2)] [some (.ref a0), some (.int x1), some (.int x2), some (.int x3), some (.int x4), some (.int v5), none] [.int x4, .int x3] (by decide +kernel) rfl ?_
      refine i_cs (t := 12) (na := 2) (ml := 2) (idx := 73) (pc' := 26) (st' := []) (en := [some (.int x3), some (.int x4)]) (av := [.int x3, .int x4]) (vo := fun v => some (.int v)) (mo := fun _ => m3) (s2 := fun v => .int v :: []) (by decide +kernel) ⟨rfl, rfl, rfl, rfl, rfl, rfl⟩ (fun _ => rfl) (t_12 hN ) (fun v6 => ?_)
      refine i_bl (pc' := 29) [(.istore 6, 2), (.aload_n 0, 1)] [some (.ref a0), some (.int x1), some (.int x2), some (.int x3), some (.int x4), some (.int v5), some (.int v6)] [.ref a0] (by decide +kernel) rfl ?_
      refine i_gr (idx := 19) (ci := 10) (k := 1) (t := 2) (p := 12127) (pc' := 32) (by decide +kernel) h0 ?_
      refine i_bl (pc' := 36) [(.iload 5, 2), (.iload 6, 2)] [some (.ref a0), some (.int x1), some (.int x2), some (.int x3), some (.int x4), some (.int v5), some (.int v6)] [.int v6, .int v5, .ref (sh_r a0 1)] (by decide +kernel) rfl ?_
      refine i_cv (ci := 3) (t := 56) (na := 3) (ml := 3) (idx := 308) (pc' := 39) (st' := []) (en := [some (.ref (sh_r a0 1)), some (.int v5), some (.int v6)]) (av := [.int v5, .int v6]) (vo := fun v => some (.int (bi v))) (mo := fun _ => m3) (s2 := fun v => .int (bi v) :: []) (by decide +kernel) (by decide +kernel) (o_10_1 hN h0) ⟨rfl, rfl, rfl, rfl, rfl, rfl⟩ (fun _ => rfl) (t_56 hN (h0 := (o_10_1 hN h0))) (fun v7 => ?_)
      refine i_bn (off := 6) (t := 45) (pc' := 42) (by decide +kernel) ?_ ?_
      · refine i_bl (pc' := 46) [(.aload_n 0, 1)] [some (.ref a0), some (.int x1), some (.int x2), some (.int x3), some (.int x4), some (.int v5), some (.int v6)] [.ref a0] (by decide +kernel) rfl ?_
        refine i_gr (idx := 36) (ci := 10) (k := 5) (t := 2) (p := 12131) (pc' := 49) (by decide +kernel) h0 ?_
        refine i_bl (pc' := 50) [(.aload_n 0, 1)] [some (.ref a0), some (.int x1), some (.int x2), some (.int x3), some (.int x4), some (.int v5), some (.int v6)] [.ref a0, .ref (sh_r a0 5)] (by decide +kernel) rfl ?_
        refine i_gr (idx := 19) (ci := 10) (k := 1) (t := 2) (p := 12127) (pc' := 53) (by decide +kernel) h0 ?_
        refine i_cv (ci := 4) (t := 65) (na := 2) (ml := 3) (idx := 322) (pc' := 56) (st' := []) (en := [some (.ref (sh_r a0 5)), some (.ref (sh_r a0 1)), none]) (av := [.ref (sh_r a0 1)]) (vo := fun _ => none) (mo := fun m => m) (s2 := fun _ => []) (by decide +kernel) (by decide +kernel) (o_10_5 hN h0) ⟨rfl, rfl, rfl, rfl, rfl, rfl⟩ (fun _ => rfl) (t_65 hN (h0 := (o_10_5 hN h0)) (h1 := (o_10_1 hN h0))) (fun m8 => ?_)
        refine i_bl (pc' := 57) [(.aload_n 0, 1)] [some (.ref a0), some (.int x1), some (.int x2), some (.int x3), some (.int x4), some (.int v5), some (.int v6)] [.ref a0] (by decide +kernel) rfl ?_
        refine i_gr (idx := 19) (ci := 10) (k := 1) (t := 2) (p := 12127) (pc' := 60) (by decide +kernel) h0 ?_
        refine i_bl (pc' := 61) [(.aload_n 0, 1)] [some (.ref a0), some (.int x1), some (.int x2), some (.int x3), some (.int x4), some (.int v5), some (.int v6)] [.ref a0, .ref (sh_r a0 1)] (by decide +kernel) rfl ?_
        refine i_gr (idx := 43) (ci := 10) (k := 6) (t := 2) (p := 12132) (pc' := 64) (by decide +kernel) h0 ?_
        refine i_bl (pc' := 68) [(.iload 5, 2), (.iload 6, 2)] [some (.ref a0), some (.int x1), some (.int x2), some (.int x3), some (.int x4), some (.int v5), some (.int v6)] [.int v6, .int v5, .ref (sh_r a0 6), .ref (sh_r a0 1)] (by decide +kernel) rfl ?_
        refine i_cv (ci := 3) (t := 60) (na := 4) (ml := 7) (idx := 304) (pc' := 71) (st' := []) (en := [some (.ref (sh_r a0 1)), some (.ref (sh_r a0 6)), some (.int v5), some (.int v6), none, none, none]) (av := [.ref (sh_r a0 6), .int v5, .int v6]) (vo := fun v => some (.int v.1)) (mo := fun v => v.2) (s2 := fun v => .int v.1 :: []) (by decide +kernel) (by decide +kernel) (o_10_1 hN h0) ⟨rfl, rfl, rfl, rfl, rfl, rfl⟩ (fun _ => rfl) (t_60 hN (h0 := (o_10_1 hN h0)) (h1 := (o_10_6 hN h0))) (fun r9 => ?_)
        exact i_ri (by decide +kernel) rfl
      · refine i_bl (pc' := 44) [(.bipush (-2), 2)] [some (.ref a0), some (.int x1), some (.int x2), some (.int x3), some (.int x4), some (.int v5), some (.int v6)] [.int (-2)] (by decide +kernel) rfl ?_
        exact i_ri (by decide +kernel) rfl
    · exact i_h0 (by decide +kernel) rfl
  · exact i_h0 (by decide +kernel) rfl

/-! 155 LanternChess.think(I)I -/
noncomputable def d_155 (a0 : Nat) (x1 : Int32) (m : Mm) : Option ((Int32 ⊕ Nat) × Mm) := bE (d_177 x1 1 999 m) (fun _ m1 => bE (d_180 a0 m1) (fun _ m3 => (d_65 (sh_r a0 5) (sh_r a0 1) m3).bind fun m5 => (d_58 (sh_r a0 1) x1 m5).bind fun r6 => (d_52 (sh_r a0 1) (r6.2 (sh_r a0 1) 6) r6.2).bind fun v7 => some (.inl v7, r6.2)) (fun e8 m3 => some (.inr e8, m3))) (fun e9 m1 => some (.inr e9, m1))
theorem t_155 {L nx : Nat} (hN : okn nx) {b z : Nat} (hb : 2 ≤ b) (hz : 12 ≤ z) {m : Mm} {a0 : Nat} (h0 : ok nx a0 10) {x1 : Int32}  : Im (d_155 a0 x1 m) (eI L nx) (ev_dn b z 155 0 [some (.ref a0), some (.int x1)] [] (nx, mem L nx m)) := by
  unfold d_155
  refine i_bl (pc' := 5) [(.iload_n 1, 1), (.iconst 1, 1), (.sipush (999), 3)] [some (.ref a0), some (.int x1)] [.int 999, .int 1, .int x1] (by decide +kernel) rfl ?_
  refine i_es (t := 177) (na := 3) (ml := 3) (idx := 217) (pc' := 8) (st' := []) (en := [some (.int x1), some (.int 1), some (.int 999)]) (av := [.int x1, .int 1, .int 999]) (k1 := 1) (k2 := 6) (vo := fun _ => none) (s2 := fun _ => []) (by decide +kernel) ⟨rfl, rfl, rfl, rfl, rfl, rfl⟩ ⟨by omega, by omega⟩ (fun _ => rfl) (t_177 hN (b := 1) (z := 6) (by decide) (by decide) ) (fun _ m1 => ?_) (fun e9 m1 => ?_)
  · refine i_bl (pc' := 9) [(.aload_n 0, 1)] [some (.ref a0), some (.int x1)] [.ref a0] (by decide +kernel) rfl ?_
    refine i_ev (ci := 10) (t := 180) (na := 1) (ml := 1) (idx := 301) (pc' := 12) (st' := []) (en := [some (.ref a0)]) (av := []) (k1 := 1) (k2 := 6) (vo := fun _ => none) (s2 := fun _ => []) (by decide +kernel) (by decide +kernel) h0 ⟨rfl, rfl, rfl, rfl, rfl, rfl⟩ ⟨by omega, by omega⟩ (fun _ => rfl) (t_180 hN (b := 1) (z := 6) (by decide) (by decide) (h0 := h0)) (fun _ m3 => ?_) (fun e8 m3 => ?_)
    · refine i_bl (pc' := 13) [(.aload_n 0, 1)] [some (.ref a0), some (.int x1)] [.ref a0] (by decide +kernel) rfl ?_
      refine i_gr (idx := 36) (ci := 10) (k := 5) (t := 2) (p := 12131) (pc' := 16) (by decide +kernel) h0 ?_
      refine i_bl (pc' := 17) [(.aload_n 0, 1)] [some (.ref a0), some (.int x1)] [.ref a0, .ref (sh_r a0 5)] (by decide +kernel) rfl ?_
      refine i_gr (idx := 19) (ci := 10) (k := 1) (t := 2) (p := 12127) (pc' := 20) (by decide +kernel) h0 ?_
      refine i_cv (ci := 4) (t := 65) (na := 2) (ml := 3) (idx := 322) (pc' := 23) (st' := []) (en := [some (.ref (sh_r a0 5)), some (.ref (sh_r a0 1)), none]) (av := [.ref (sh_r a0 1)]) (vo := fun _ => none) (mo := fun m => m) (s2 := fun _ => []) (by decide +kernel) (by decide +kernel) (o_10_5 hN h0) ⟨rfl, rfl, rfl, rfl, rfl, rfl⟩ (fun _ => rfl) (t_65 hN (h0 := (o_10_5 hN h0)) (h1 := (o_10_1 hN h0))) (fun m5 => ?_)
      refine i_bl (pc' := 24) [(.aload_n 0, 1)] [some (.ref a0), some (.int x1)] [.ref a0] (by decide +kernel) rfl ?_
      refine i_gr (idx := 19) (ci := 10) (k := 1) (t := 2) (p := 12127) (pc' := 27) (by decide +kernel) h0 ?_
      refine i_bl (pc' := 28) [(.iload_n 1, 1)] [some (.ref a0), some (.int x1)] [.int x1, .ref (sh_r a0 1)] (by decide +kernel) rfl ?_
      refine i_cv (ci := 3) (t := 58) (na := 2) (ml := 4) (idx := 325) (pc' := 31) (st' := []) (en := [some (.ref (sh_r a0 1)), some (.int x1), none, none]) (av := [.int x1]) (vo := fun v => some (.int (bi v.1))) (mo := fun v => v.2) (s2 := fun v => .int (bi v.1) :: []) (by decide +kernel) (by decide +kernel) (o_10_1 hN h0) ⟨rfl, rfl, rfl, rfl, rfl, rfl⟩ (fun _ => rfl) (t_58 hN (h0 := (o_10_1 hN h0))) (fun r6 => ?_)
      refine i_bl (pc' := 33) [(.pop, 1), (.aload_n 0, 1)] [some (.ref a0), some (.int x1)] [.ref a0] (by decide +kernel) rfl ?_
      refine i_gr (idx := 19) (ci := 10) (k := 1) (t := 2) (p := 12127) (pc' := 36) (by decide +kernel) h0 ?_
      refine i_bl (pc' := 37) [(.aload_n 0, 1)] [some (.ref a0), some (.int x1)] [.ref a0, .ref (sh_r a0 1)] (by decide +kernel) rfl ?_
      refine i_gr (idx := 19) (ci := 10) (k := 1) (t := 2) (p := 12127) (pc' := 40) (by decide +kernel) h0 ?_
      refine i_gf (idx := 131) (ci := 3) (k := 6) (t := 0) (p := 11188) (pc' := 43) (by decide +kernel) (o_10_1 hN h0) ?_
      refine i_cv (ci := 3) (t := 52) (na := 2) (ml := 2) (idx := 187) (pc' := 46) (st' := []) (en := [some (.ref (sh_r a0 1)), some (.int (r6.2 (sh_r a0 1) 6))]) (av := [.int (r6.2 (sh_r a0 1) 6)]) (vo := fun v => some (.int v)) (mo := fun _ => r6.2) (s2 := fun v => .int v :: []) (by decide +kernel) (by decide +kernel) (o_10_1 hN h0) ⟨rfl, rfl, rfl, rfl, rfl, rfl⟩ (fun _ => rfl) (t_52 hN (h0 := (o_10_1 hN h0))) (fun v7 => ?_)
      exact i_ri (by decide +kernel) rfl
    · exact i_h0 (by decide +kernel) rfl
  · exact i_h0 (by decide +kernel) rfl

/-! 156 LanternChess.resign()I -/
noncomputable def d_156 (a0 : Nat) (m : Mm) : Option ((Int32 ⊕ Nat) × Mm) := bE (d_180 a0 m) (fun _ m1 => (d_65 (sh_r a0 5) (sh_r a0 1) m1).bind fun m3 => wb (1 - (m3 (sh_r a0 1) 6)) fun y4 => (d_57 (sh_r a0 1) y4 m3).bind fun m5 => some (.inl y4, m5)) (fun e6 m1 => some (.inr e6, m1))
theorem t_156 {L nx : Nat} (hN : okn nx) {b z : Nat} (hb : 1 ≤ b) (hz : 6 ≤ z) {m : Mm} {a0 : Nat} (h0 : ok nx a0 10)   : Im (d_156 a0 m) (eI L nx) (ev_dn b z 156 0 [some (.ref a0), none] [] (nx, mem L nx m)) := by
  unfold d_156
  refine i_bl (pc' := 1) [(.aload_n 0, 1)] [some (.ref a0), none] [.ref a0] (by decide +kernel) rfl ?_
  refine i_ev (ci := 10) (t := 180) (na := 1) (ml := 1) (idx := 301) (pc' := 4) (st' := []) (en := [some (.ref a0)]) (av := []) (k1 := 1) (k2 := 6) (vo := fun _ => none) (s2 := fun _ => []) (by decide +kernel) (by decide +kernel) h0 ⟨rfl, rfl, rfl, rfl, rfl, rfl⟩ ⟨by omega, by omega⟩ (fun _ => rfl) (t_180 hN (b := 1) (z := 6) (by decide) (by decide) (h0 := h0)) (fun _ m1 => ?_) (fun e6 m1 => ?_)
  · refine i_bl (pc' := 5) [(.aload_n 0, 1)] [some (.ref a0), none] [.ref a0] (by decide +kernel) rfl ?_
    refine i_gr (idx := 36) (ci := 10) (k := 5) (t := 2) (p := 12131) (pc' := 8) (by decide +kernel) h0 ?_
    refine i_bl (pc' := 9) [(.aload_n 0, 1)] [some (.ref a0), none] [.ref a0, .ref (sh_r a0 5)] (by decide +kernel) rfl ?_
    refine i_gr (idx := 19) (ci := 10) (k := 1) (t := 2) (p := 12127) (pc' := 12) (by decide +kernel) h0 ?_
    refine i_cv (ci := 4) (t := 65) (na := 2) (ml := 3) (idx := 322) (pc' := 15) (st' := []) (en := [some (.ref (sh_r a0 5)), some (.ref (sh_r a0 1)), none]) (av := [.ref (sh_r a0 1)]) (vo := fun _ => none) (mo := fun m => m) (s2 := fun _ => []) (by decide +kernel) (by decide +kernel) (o_10_5 hN h0) ⟨rfl, rfl, rfl, rfl, rfl, rfl⟩ (fun _ => rfl) (t_65 hN (h0 := (o_10_5 hN h0)) (h1 := (o_10_1 hN h0))) (fun m3 => ?_)
    refine i_bl (pc' := 17) [(.iconst 1, 1), (.aload_n 0, 1)] [some (.ref a0), none] [.ref a0, .int 1] (by decide +kernel) rfl ?_
    refine i_gr (idx := 19) (ci := 10) (k := 1) (t := 2) (p := 12127) (pc' := 20) (by decide +kernel) h0 ?_
    refine i_gf (idx := 131) (ci := 3) (k := 6) (t := 0) (p := 11188) (pc' := 23) (by decide +kernel) (o_10_1 hN h0) ?_
    refine i_bl (pc' := 25) [(.isub, 1), (.istore_n 1, 1)] [some (.ref a0), some (.int (1 - (m3 (sh_r a0 1) 6)))] [] (by decide +kernel) rfl ?_
    refine i_wb (fun y4 => ev_dn (b - 1) (z - 6) 156 25 [some (.ref a0), some (.int y4)] [] (nx, mem L nx m3)) (fun y4 => ?_)
    refine i_bl (pc' := 26) [(.aload_n 0, 1)] [some (.ref a0), some (.int y4)] [.ref a0] (by decide +kernel) rfl ?_
    refine i_gr (idx := 19) (ci := 10) (k := 1) (t := 2) (p := 12127) (pc' := 29) (by decide +kernel) h0 ?_
    refine i_bl (pc' := 30) [(.iload_n 1, 1)] [some (.ref a0), some (.int y4)] [.int y4, .ref (sh_r a0 1)] (by decide +kernel) rfl ?_
    refine i_cv (ci := 3) (t := 57) (na := 2) (ml := 2) (idx := 328) (pc' := 33) (st' := []) (en := [some (.ref (sh_r a0 1)), some (.int y4)]) (av := [.int y4]) (vo := fun _ => none) (mo := fun m => m) (s2 := fun _ => []) (by decide +kernel) (by decide +kernel) (o_10_1 hN h0) ⟨rfl, rfl, rfl, rfl, rfl, rfl⟩ (fun _ => rfl) (t_57 hN (h0 := (o_10_1 hN h0))) (fun m5 => ?_)
    refine i_bl (pc' := 34) [(.iload_n 1, 1)] [some (.ref a0), some (.int y4)] [.int y4] (by decide +kernel) rfl ?_
    exact i_ri (by decide +kernel) rfl
  · exact i_h0 (by decide +kernel) rfl

/-! 157 LanternChess.settle(I)I -/
noncomputable def d_157 (a0 : Nat) (x1 : Int32) (m : Mm) : Option ((Int32 ⊕ Nat) × Mm) := bE (d_175 x1 m) (fun _ m1 => (d_65 (sh_r a0 5) (sh_r a0 1) m1).bind fun m3 => (d_54 (sh_r a0 1) m3).bind fun v4 => (d_51 (sh_r a0 1) (1 - x1)).bind fun v5 => (d_51 (sh_r a0 1) x1).bind fun v7 => (d_2 v5 v7 m3).bind fun m9 => some (.inl v4, m9)) (fun e10 m1 => some (.inr e10, m1))
theorem t_157 {L nx : Nat} (hN : okn nx) {b z : Nat} (hb : 1 ≤ b) (hz : 6 ≤ z) {m : Mm} {a0 : Nat} (h0 : ok nx a0 10) {x1 : Int32}  : Im (d_157 a0 x1 m) (eI L nx) (ev_dn b z 157 0 [some (.ref a0), some (.int x1), none] [] (nx, mem L nx m)) := by
  unfold d_157
  refine i_bl (pc' := 1) [(.iload_n 1, 1)] [some (.ref a0), some (.int x1), none] [.int x1] (by decide +kernel) rfl ?_
  refine i_es (t := 175) (na := 1) (ml := 1) (idx := 184) (pc' := 4) (st' := []) (en := [some (.int x1)]) (av := [.int x1]) (k1 := 1) (k2 := 6) (vo := fun _ => none) (s2 := fun _ => []) (by decide +kernel) ⟨rfl, rfl, rfl, rfl, rfl, rfl⟩ ⟨by omega, by omega⟩ (fun _ => rfl) (t_175 hN (b := 1) (z := 6) (by decide) (by decide) ) (fun _ m1 => ?_) (fun e10 m1 => ?_)
  · refine i_bl (pc' := 5) [(.aload_n 0, 1)] [some (.ref a0), some (.int x1), none] [.ref a0] (by decide +kernel) rfl ?_
    refine i_gr (idx := 36) (ci := 10) (k := 5) (t := 2) (p := 12131) (pc' := 8) (by decide +kernel) h0 ?_
    refine i_bl (pc' := 9) [(.aload_n 0, 1)] [some (.ref a0), some (.int x1), none] [.ref a0, .ref (sh_r a0 5)] (by decide +kernel) rfl ?_
    refine i_gr (idx := 19) (ci := 10) (k := 1) (t := 2) (p := 12127) (pc' := 12) (by decide +kernel) h0 ?_
    refine i_cv (ci := 4) (t := 65) (na := 2) (ml := 3) (idx := 322) (pc' := 15) (st' := []) (en := [some (.ref (sh_r a0 5)), some (.ref (sh_r a0 1)), none]) (av := [.ref (sh_r a0 1)]) (vo := fun _ => none) (mo := fun m => m) (s2 := fun _ => []) (by decide +kernel) (by decide +kernel) (o_10_5 hN h0) ⟨rfl, rfl, rfl, rfl, rfl, rfl⟩ (fun _ => rfl) (t_65 hN (h0 := (o_10_5 hN h0)) (h1 := (o_10_1 hN h0))) (fun m3 => ?_)
    refine i_bl (pc' := 16) [(.aload_n 0, 1)] [some (.ref a0), some (.int x1), none] [.ref a0] (by decide +kernel) rfl ?_
    refine i_gr (idx := 19) (ci := 10) (k := 1) (t := 2) (p := 12127) (pc' := 19) (by decide +kernel) h0 ?_
    refine i_cv (ci := 3) (t := 54) (na := 1) (ml := 1) (idx := 259) (pc' := 22) (st' := []) (en := [some (.ref (sh_r a0 1))]) (av := []) (vo := fun v => some (.int v)) (mo := fun _ => m3) (s2 := fun v => .int v :: []) (by decide +kernel) (by decide +kernel) (o_10_1 hN h0) ⟨rfl, rfl, rfl, rfl, rfl, rfl⟩ (fun _ => rfl) (t_54 hN (h0 := (o_10_1 hN h0))) (fun v4 => ?_)
    refine i_bl (pc' := 24) [(.istore_n 2, 1), (.aload_n 0, 1)] [some (.ref a0), some (.int x1), some (.int v4)] [.ref a0] (by decide +kernel) rfl ?_
    refine i_gr (idx := 19) (ci := 10) (k := 1) (t := 2) (p := 12127) (pc' := 27) (by decide +kernel) h0 ?_
    refine i_bl (pc' := 30) [(.iconst 1, 1), (.iload_n 1, 1), (.isub, 1)] [some (.ref a0), some (.int x1), some (.int v4)] [.int (1 - x1), .ref (sh_r a0 1)] (by decide +kernel) rfl ?_
    refine i_cA (cr := 0) (ci := 3) (t := 51) (na := 2) (ml := 2) (idx := 194) (pc' := 33) (st' := []) (en := [some (.ref (sh_r a0 1)), some (.int (1 - x1))]) (av := [.int (1 - x1)]) (s2 := fun v => .ref v :: []) (by decide +kernel) (by decide +kernel) (o_10_1 hN h0) ⟨rfl, rfl, rfl, rfl, rfl, rfl⟩ (fun _ => rfl) (t_51 hN (h0 := (o_10_1 hN h0))) (fun v5 hr6 => ?_)
    refine i_bl (pc' := 34) [(.aload_n 0, 1)] [some (.ref a0), some (.int x1), some (.int v4)] [.ref a0, .ref v5] (by decide +kernel) rfl ?_
    refine i_gr (idx := 19) (ci := 10) (k := 1) (t := 2) (p := 12127) (pc' := 37) (by decide +kernel) h0 ?_
    refine i_bl (pc' := 38) [(.iload_n 1, 1)] [some (.ref a0), some (.int x1), some (.int v4)] [.int x1, .ref (sh_r a0 1), .ref v5] (by decide +kernel) rfl ?_
    refine i_cA (cr := 0) (ci := 3) (t := 51) (na := 2) (ml := 2) (idx := 194) (pc' := 41) (st' := [.ref v5]) (en := [some (.ref (sh_r a0 1)), some (.int x1)]) (av := [.int x1]) (s2 := fun v => .ref v :: [.ref v5]) (by decide +kernel) (by decide +kernel) (o_10_1 hN h0) ⟨rfl, rfl, rfl, rfl, rfl, rfl⟩ (fun _ => rfl) (t_51 hN (h0 := (o_10_1 hN h0))) (fun v7 hr8 => ?_)
    refine i_cv (ci := 0) (t := 2) (na := 2) (ml := 2) (idx := 331) (pc' := 44) (st' := []) (en := [some (.ref v5), some (.ref v7)]) (av := [.ref v7]) (vo := fun _ => none) (mo := fun m => m) (s2 := fun _ => []) (by decide +kernel) (by decide +kernel) hr6 ⟨rfl, rfl, rfl, rfl, rfl, rfl⟩ (fun _ => rfl) (t_2 hN (h0 := hr6) (h1 := hr8)) (fun m9 => ?_)
    refine i_bl (pc' := 45) [(.iload_n 2, 1)] [some (.ref a0), some (.int x1), some (.int v4)] [.int v4] (by decide +kernel) rfl ?_
    exact i_ri (by decide +kernel) rfl
  · exact i_h0 (by decide +kernel) rfl

/-! 158 LanternChess.wind(II)I -/
noncomputable def d_158 (a0 : Nat) (x1 : Int32) (x2 : Int32) (m : Mm) : Option ((Int32 ⊕ Nat) × Mm) := bE (d_175 x1 m) (fun _ m1 => bE (d_177 x2 1 999 m1) (fun _ m3 => (d_52 (sh_r a0 1) x1 m3).bind fun v5 => wb (v5 + x2) fun y6 => if y6 ≤ 9999 then ((d_65 (sh_r a0 5) (sh_r a0 1) m3).bind fun m7 => (d_53 (sh_r a0 1) x1 y6 m7).bind fun m8 => some (.inl y6, m8)) else (some (.inr 2, m3))) (fun e9 m3 => some (.inr e9, m3))) (fun e10 m1 => some (.inr e10, m1))
theorem t_158 {L nx : Nat} (hN : okn nx) {b z : Nat} (hb : 3 ≤ b) (hz : 18 ≤ z) {m : Mm} {a0 : Nat} (h0 : ok nx a0 10) {x1 : Int32} {x2 : Int32}  : Im (d_158 a0 x1 x2 m) (eI L nx) (ev_dn b z 158 0 [some (.ref a0), some (.int x1), some (.int x2), none] [] (nx, mem L nx m)) := by
  unfold d_158
  refine i_bl (pc' := 1) [(.iload_n 1, 1)] [some (.ref a0), some (.int x1), some (.int x2), none] [.int x1] (by decide +kernel) rfl ?_
  refine i_es (t := 175) (na := 1) (ml := 1) (idx := 184) (pc' := 4) (st' := []) (en := [some (.int x1)]) (av := [.int x1]) (k1 := 1) (k2 := 6) (vo := fun _ => none) (s2 := fun _ => []) (by decide +kernel) ⟨rfl, rfl, rfl, rfl, rfl, rfl⟩ ⟨by omega, by omega⟩ (fun _ => rfl) (t_175 hN (b := 1) (z := 6) (by decide) (by decide) ) (fun _ m1 => ?_) (fun e10 m1 => ?_)
  · refine i_bl (pc' := 9) [(.iload_n 2, 1), (.iconst 1, 1), (.sipush (999), 3)] [some (.ref a0), some (.int x1), some (.int x2), none] [.int 999, .int 1, .int x2] (by decide +kernel) rfl ?_
    refine i_es (t := 177) (na := 3) (ml := 3) (idx := 217) (pc' := 12) (st' := []) (en := [some (.int x2), some (.int 1), some (.int 999)]) (av := [.int x2, .int 1, .int 999]) (k1 := 1) (k2 := 6) (vo := fun _ => none) (s2 := fun _ => []) (by decide +kernel) ⟨rfl, rfl, rfl, rfl, rfl, rfl⟩ ⟨by omega, by omega⟩ (fun _ => rfl) (t_177 hN (b := 1) (z := 6) (by decide) (by decide) ) (fun _ m3 => ?_) (fun e9 m3 => ?_)
    · refine i_bl (pc' := 13) [(.aload_n 0, 1)] [some (.ref a0), some (.int x1), some (.int x2), none] [.ref a0] (by decide +kernel) rfl ?_
      refine i_gr (idx := 19) (ci := 10) (k := 1) (t := 2) (p := 12127) (pc' := 16) (by decide +kernel) h0 ?_
      refine i_bl (pc' := 17) [(.iload_n 1, 1)] [some (.ref a0), some (.int x1), some (.int x2), none] [.int x1, .ref (sh_r a0 1)] (by decide +kernel) rfl ?_
      refine i_cv (ci := 3) (t := 52) (na := 2) (ml := 2) (idx := 187) (pc' := 20) (st' := []) (en := [some (.ref (sh_r a0 1)), some (.int x1)]) (av := [.int x1]) (vo := fun v => some (.int v)) (mo := fun _ => m3) (s2 := fun v => .int v :: []) (by decide +kernel) (by decide +kernel) (o_10_1 hN h0) ⟨rfl, rfl, rfl, rfl, rfl, rfl⟩ (fun _ => rfl) (t_52 hN (h0 := (o_10_1 hN h0))) (fun v5 => ?_)
      refine i_bl (pc' := 23) [(.iload_n 2, 1), (.iadd, 1), (.istore_n 3, 1)] [some (.ref a0), some (.int x1), some (.int x2), some (.int (v5 + x2))] [] (by decide +kernel) rfl ?_
      refine i_wb (fun y6 => ev_dn ((b - 1) - 1) ((z - 6) - 6) 158 23 [some (.ref a0), some (.int x1), some (.int x2), some (.int y6)] [] (nx, mem L nx m3)) (fun y6 => ?_)
      refine i_bl (pc' := 27) [(.iload_n 3, 1), (.sipush (9999), 3)] [some (.ref a0), some (.int x1), some (.int x2), some (.int y6)] [.int 9999, .int y6] (by decide +kernel) rfl ?_
      refine i_ic (c := .le) (off := 14) (t := 41) (pc' := 30) (p := y6 ≤ 9999) (by decide +kernel) rfl ?_ ?_
      · refine i_bl (pc' := 42) [(.aload_n 0, 1)] [some (.ref a0), some (.int x1), some (.int x2), some (.int y6)] [.ref a0] (by decide +kernel) rfl ?_
        refine i_gr (idx := 36) (ci := 10) (k := 5) (t := 2) (p := 12131) (pc' := 45) (by decide +kernel) h0 ?_
        refine i_bl (pc' := 46) [(.aload_n 0, 1)] [some (.ref a0), some (.int x1), some (.int x2), some (.int y6)] [.ref a0, .ref (sh_r a0 5)] (by decide +kernel) rfl ?_
        refine i_gr (idx := 19) (ci := 10) (k := 1) (t := 2) (p := 12127) (pc' := 49) (by decide +kernel) h0 ?_
        refine i_cv (ci := 4) (t := 65) (na := 2) (ml := 3) (idx := 322) (pc' := 52) (st' := []) (en := [some (.ref (sh_r a0 5)), some (.ref (sh_r a0 1)), none]) (av := [.ref (sh_r a0 1)]) (vo := fun _ => none) (mo := fun m => m) (s2 := fun _ => []) (by decide +kernel) (by decide +kernel) (o_10_5 hN h0) ⟨rfl, rfl, rfl, rfl, rfl, rfl⟩ (fun _ => rfl) (t_65 hN (h0 := (o_10_5 hN h0)) (h1 := (o_10_1 hN h0))) (fun m7 => ?_)
        refine i_bl (pc' := 53) [(.aload_n 0, 1)] [some (.ref a0), some (.int x1), some (.int x2), some (.int y6)] [.ref a0] (by decide +kernel) rfl ?_
        refine i_gr (idx := 19) (ci := 10) (k := 1) (t := 2) (p := 12127) (pc' := 56) (by decide +kernel) h0 ?_
        refine i_bl (pc' := 58) [(.iload_n 1, 1), (.iload_n 3, 1)] [some (.ref a0), some (.int x1), some (.int x2), some (.int y6)] [.int y6, .int x1, .ref (sh_r a0 1)] (by decide +kernel) rfl ?_
        refine i_cv (ci := 3) (t := 53) (na := 3) (ml := 3) (idx := 339) (pc' := 61) (st' := []) (en := [some (.ref (sh_r a0 1)), some (.int x1), some (.int y6)]) (av := [.int x1, .int y6]) (vo := fun _ => none) (mo := fun m => m) (s2 := fun _ => []) (by decide +kernel) (by decide +kernel) (o_10_1 hN h0) ⟨rfl, rfl, rfl, rfl, rfl, rfl⟩ (fun _ => rfl) (t_53 hN (h0 := (o_10_1 hN h0))) (fun m8 => ?_)
        refine i_bl (pc' := 62) [(.iload_n 3, 1)] [some (.ref a0), some (.int x1), some (.int x2), some (.int y6)] [.int y6] (by decide +kernel) rfl ?_
        exact i_ri (by decide +kernel) rfl
      · exact i_th (i := .new 334) (k := 3) (by decide +kernel) ⟨by omega, by omega⟩ rfl
    · exact i_h0 (by decide +kernel) rfl
  · exact i_h0 (by decide +kernel) rfl

/-! 159 LanternChess.addFog(III)I -/
noncomputable def d_159_50 (m : Mm) : Option ((Int32 ⊕ Nat) × Mm) := some (.inr 2, m)
theorem t_159_50 {L nx : Nat} (hN : okn nx) {b z : Nat} (hb : 1 ≤ b) (hz : 6 ≤ z) {m : Mm}   {o0 : Option Value} {o1 : Option Value} {o2 : Option Value} {o3 : Option Value} : Im (d_159_50 m) (eI L nx) (ev_dn b z 159 50 [o0, o1, o2, o3] [] (nx, mem L nx m)) := by
  unfold d_159_50
  exact i_th (i := .new 334) (k := 3) (by decide +kernel) ⟨by omega, by omega⟩ rfl

noncomputable def d_159 (a0 : Nat) (x1 : Int32) (x2 : Int32) (x3 : Int32) (m : Mm) : Option ((Int32 ⊕ Nat) × Mm) := bE (d_177 x1 0 9999 m) (fun _ m1 => bE (d_177 x2 1 999 m1) (fun _ m3 => bE (d_177 x3 1 9 m3) (fun _ m5 => (d_39 (sh_r (sh_r a0 1) 2) m5).bind fun v7 => if v7 = true then (d_159_50 m5) else ((d_40 (sh_r (sh_r a0 1) 2) x1 m5).bind fun v8 => if v8 = true then (d_159_50 m5) else ((d_65 (sh_r a0 5) (sh_r a0 1) m5).bind fun m9 => (d_41 (sh_r (sh_r a0 1) 2) x1 x2 x3 m9).bind fun r10 => some (.inl r10.1, r10.2)))) (fun e11 m5 => some (.inr e11, m5))) (fun e12 m3 => some (.inr e12, m3))) (fun e13 m1 => some (.inr e13, m1))
theorem t_159 {L nx : Nat} (hN : okn nx) {b z : Nat} (hb : 4 ≤ b) (hz : 24 ≤ z) {m : Mm} {a0 : Nat} (h0 : ok nx a0 10) {x1 : Int32} {x2 : Int32} {x3 : Int32}  : Im (d_159 a0 x1 x2 x3 m) (eI L nx) (ev_dn b z 159 0 [some (.ref a0), some (.int x1), some (.int x2), some (.int x3)] [] (nx, mem L nx m)) := by
  unfold d_159
  refine i_bl (pc' := 5) [(.iload_n 1, 1), (.iconst 0, 1), (.sipush (9999), 3)] [some (.ref a0), some (.int x1), some (.int x2), some (.int x3)] [.int 9999, .int 0, .int x1] (by decide +kernel) rfl ?_
  refine i_es (t := 177) (na := 3) (ml := 3) (idx := 217) (pc' := 8) (st' := []) (en := [some (.int x1), some (.int 0), some (.int 9999)]) (av := [.int x1, .int 0, .int 9999]) (k1 := 1) (k2 := 6) (vo := fun _ => none) (s2 := fun _ => []) (by decide +kernel) ⟨rfl, rfl, rfl, rfl, rfl, rfl⟩ ⟨by omega, by omega⟩ (fun _ => rfl) (t_177 hN (b := 1) (z := 6) (by decide) (by decide) ) (fun _ m1 => ?_) (fun e13 m1 => ?_)
  · refine i_bl (pc' := 13) [(.iload_n 2, 1), (.iconst 1, 1), (.sipush (999), 3)] [some (.ref a0), some (.int x1), some (.int x2), some (.int x3)] [.int 999, .int 1, .int x2] (by decide +kernel) rfl ?_
    refine i_es (t := 177) (na := 3) (ml := 3) (idx := 217) (pc' := 16) (st' := []) (en := [some (.int x2), some (.int 1), some (.int 999)]) (av := [.int x2, .int 1, .int 999]) (k1 := 1) (k2 := 6) (vo := fun _ => none) (s2 := fun _ => []) (by decide +kernel) ⟨rfl, rfl, rfl, rfl, rfl, rfl⟩ ⟨by omega, by omega⟩ (fun _ => rfl) (t_177 hN (b := 1) (z := 6) (by decide) (by decide) ) (fun _ m3 => ?_) (fun e12 m3 => ?_)
    · refine i_bl (pc' := 20) [(.iload_n 3, 1), (.iconst 1, 1), (.bipush (9), 2)] [some (.ref a0), some (.int x1), some (.int x2), some (.int x3)] [.int 9, .int 1, .int x3] (by decide +kernel) rfl ?_
      refine i_es (t := 177) (na := 3) (ml := 3) (idx := 217) (pc' := 23) (st' := []) (en := [some (.int x3), some (.int 1), some (.int 9)]) (av := [.int x3, .int 1, .int 9]) (k1 := 1) (k2 := 6) (vo := fun _ => none) (s2 := fun _ => []) (by decide +kernel) ⟨rfl, rfl, rfl, rfl, rfl, rfl⟩ ⟨by omega, by omega⟩ (fun _ => rfl) (t_177 hN (b := 1) (z := 6) (by decide) (by decide) ) (fun _ m5 => ?_) (fun e11 m5 => ?_)
      · refine i_bl (pc' := 24) [(.aload_n 0, 1)] [some (.ref a0), some (.int x1), some (.int x2), some (.int x3)] [.ref a0] (by decide +kernel) rfl ?_
        refine i_gr (idx := 19) (ci := 10) (k := 1) (t := 2) (p := 12127) (pc' := 27) (by decide +kernel) h0 ?_
        refine i_gr (idx := 146) (ci := 3) (k := 2) (t := 2) (p := 11180) (pc' := 30) (by decide +kernel) (o_10_1 hN h0) ?_
        refine i_cv (ci := 2) (t := 39) (na := 1) (ml := 1) (idx := 342) (pc' := 33) (st' := []) (en := [some (.ref (sh_r (sh_r a0 1) 2))]) (av := []) (vo := fun v => some (.int (bi v))) (mo := fun _ => m5) (s2 := fun v => .int (bi v) :: []) (by decide +kernel) (by decide +kernel) (o_3_2 hN (o_10_1 hN h0)) ⟨rfl, rfl, rfl, rfl, rfl, rfl⟩ (fun _ => rfl) (t_39 hN (h0 := (o_3_2 hN (o_10_1 hN h0)))) (fun v7 => ?_)
        refine i_bn (off := 17) (t := 50) (pc' := 36) (by decide +kernel) ?_ ?_
        · exact t_159_50 hN (by omega) (by omega) 
        · refine i_bl (pc' := 37) [(.aload_n 0, 1)] [some (.ref a0), some (.int x1), some (.int x2), some (.int x3)] [.ref a0] (by decide +kernel) rfl ?_
          refine i_gr (idx := 19) (ci := 10) (k := 1) (t := 2) (p := 12127) (pc' := 40) (by decide +kernel) h0 ?_
          refine i_gr (idx := 146) (ci := 3) (k := 2) (t := 2) (p := 11180) (pc' := 43) (by decide +kernel) (o_10_1 hN h0) ?_
          refine i_bl (pc' := 44) [(.iload_n 1, 1)] [some (.ref a0), some (.int x1), some (.int x2), some (.int x3)] [.int x1, .ref (sh_r (sh_r a0 1) 2)] (by decide +kernel) rfl ?_
          refine i_cv (ci := 2) (t := 40) (na := 2) (ml := 3) (idx := 345) (pc' := 47) (st' := []) (en := [some (.ref (sh_r (sh_r a0 1) 2)), some (.int x1), none]) (av := [.int x1]) (vo := fun v => some (.int (bi v))) (mo := fun _ => m5) (s2 := fun v => .int (bi v) :: []) (by decide +kernel) (by decide +kernel) (o_3_2 hN (o_10_1 hN h0)) ⟨rfl, rfl, rfl, rfl, rfl, rfl⟩ (fun _ => rfl) (t_40 hN (h0 := (o_3_2 hN (o_10_1 hN h0)))) (fun v8 => ?_)
          refine i_bz (off := 14) (t := 61) (pc' := 50) (by decide +kernel) ?_ ?_
          · exact t_159_50 hN (by omega) (by omega) 
          · refine i_bl (pc' := 62) [(.aload_n 0, 1)] [some (.ref a0), some (.int x1), some (.int x2), some (.int x3)] [.ref a0] (by decide +kernel) rfl ?_
            refine i_gr (idx := 36) (ci := 10) (k := 5) (t := 2) (p := 12131) (pc' := 65) (by decide +kernel) h0 ?_
            refine i_bl (pc' := 66) [(.aload_n 0, 1)] [some (.ref a0), some (.int x1), some (.int x2), some (.int x3)] [.ref a0, .ref (sh_r a0 5)] (by decide +kernel) rfl ?_
            refine i_gr (idx := 19) (ci := 10) (k := 1) (t := 2) (p := 12127) (pc' := 69) (by decide +kernel) h0 ?_
            refine i_cv (ci := 4) (t := 65) (na := 2) (ml := 3) (idx := 322) (pc' := 72) (st' := []) (en := [some (.ref (sh_r a0 5)), some (.ref (sh_r a0 1)), none]) (av := [.ref (sh_r a0 1)]) (vo := fun _ => none) (mo := fun m => m) (s2 := fun _ => []) (by decide +kernel) (by decide +kernel) (o_10_5 hN h0) ⟨rfl, rfl, rfl, rfl, rfl, rfl⟩ (fun _ => rfl) (t_65 hN (h0 := (o_10_5 hN h0)) (h1 := (o_10_1 hN h0))) (fun m9 => ?_)
            refine i_bl (pc' := 73) [(.aload_n 0, 1)] [some (.ref a0), some (.int x1), some (.int x2), some (.int x3)] [.ref a0] (by decide +kernel) rfl ?_
            refine i_gr (idx := 19) (ci := 10) (k := 1) (t := 2) (p := 12127) (pc' := 76) (by decide +kernel) h0 ?_
            refine i_gr (idx := 146) (ci := 3) (k := 2) (t := 2) (p := 11180) (pc' := 79) (by decide +kernel) (o_10_1 hN h0) ?_
            refine i_bl (pc' := 82) [(.iload_n 1, 1), (.iload_n 2, 1), (.iload_n 3, 1)] [some (.ref a0), some (.int x1), some (.int x2), some (.int x3)] [.int x3, .int x2, .int x1, .ref (sh_r (sh_r a0 1) 2)] (by decide +kernel) rfl ?_
            refine i_cv (ci := 2) (t := 41) (na := 4) (ml := 6) (idx := 350) (pc' := 85) (st' := []) (en := [some (.ref (sh_r (sh_r a0 1) 2)), some (.int x1), some (.int x2), some (.int x3), none, none]) (av := [.int x1, .int x2, .int x3]) (vo := fun v => some (.int v.1)) (mo := fun v => v.2) (s2 := fun v => .int v.1 :: []) (by decide +kernel) (by decide +kernel) (o_3_2 hN (o_10_1 hN h0)) ⟨rfl, rfl, rfl, rfl, rfl, rfl⟩ (fun _ => rfl) (t_41 hN (h0 := (o_3_2 hN (o_10_1 hN h0)))) (fun r10 => ?_)
            exact i_ri (by decide +kernel) rfl
      · exact i_h0 (by decide +kernel) rfl
    · exact i_h0 (by decide +kernel) rfl
  · exact i_h0 (by decide +kernel) rfl

/-! 160 LanternChess.dropFog(I)I -/
noncomputable def d_160 (a0 : Nat) (x1 : Int32) (m : Mm) : Option ((Int32 ⊕ Nat) × Mm) := bE (d_176 x1 (m (sh_r (sh_r a0 1) 2) 3) m) (fun _ m1 => (d_65 (sh_r a0 5) (sh_r a0 1) m1).bind fun m3 => (d_42 (sh_r (sh_r a0 1) 2) x1 m3).bind fun m4 => some (.inl (m4 (sh_r (sh_r a0 1) 2) 3), m4)) (fun e5 m1 => some (.inr e5, m1))
theorem t_160 {L nx : Nat} (hN : okn nx) {b z : Nat} (hb : 1 ≤ b) (hz : 6 ≤ z) {m : Mm} {a0 : Nat} (h0 : ok nx a0 10) {x1 : Int32}  : Im (d_160 a0 x1 m) (eI L nx) (ev_dn b z 160 0 [some (.ref a0), some (.int x1)] [] (nx, mem L nx m)) := by
  unfold d_160
  refine i_bl (pc' := 2) [(.iload_n 1, 1), (.aload_n 0, 1)] [some (.ref a0), some (.int x1)] [.ref a0, .int x1] (by decide +kernel) rfl ?_
  refine i_gr (idx := 19) (ci := 10) (k := 1) (t := 2) (p := 12127) (pc' := 5) (by decide +kernel) h0 ?_
  refine i_gr (idx := 146) (ci := 3) (k := 2) (t := 2) (p := 11180) (pc' := 8) (by decide +kernel) (o_10_1 hN h0) ?_
  refine i_gf (idx := 150) (ci := 2) (k := 3) (t := 0) (p := 11145) (pc' := 11) (by decide +kernel) (o_3_2 hN (o_10_1 hN h0)) ?_
  refine i_es (t := 176) (na := 2) (ml := 2) (idx := 214) (pc' := 14) (st' := []) (en := [some (.int x1), some (.int (m (sh_r (sh_r a0 1) 2) 3))]) (av := [.int x1, .int (m (sh_r (sh_r a0 1) 2) 3)]) (k1 := 1) (k2 := 6) (vo := fun _ => none) (s2 := fun _ => []) (by decide +kernel) ⟨rfl, rfl, rfl, rfl, rfl, rfl⟩ ⟨by omega, by omega⟩ (fun _ => rfl) (t_176 hN (b := 1) (z := 6) (by decide) (by decide) ) (fun _ m1 => ?_) (fun e5 m1 => ?_)
  · refine i_bl (pc' := 15) [(.aload_n 0, 1)] [some (.ref a0), some (.int x1)] [.ref a0] (by decide +kernel) rfl ?_
    refine i_gr (idx := 36) (ci := 10) (k := 5) (t := 2) (p := 12131) (pc' := 18) (by decide +kernel) h0 ?_
    refine i_bl (pc' := 19) [(.aload_n 0, 1)] [some (.ref a0), some (.int x1)] [.ref a0, .ref (sh_r a0 5)] (by decide +kernel) rfl ?_
    refine i_gr (idx := 19) (ci := 10) (k := 1) (t := 2) (p := 12127) (pc' := 22) (by decide +kernel) h0 ?_
    refine i_cv (ci := 4) (t := 65) (na := 2) (ml := 3) (idx := 322) (pc' := 25) (st' := []) (en := [some (.ref (sh_r a0 5)), some (.ref (sh_r a0 1)), none]) (av := [.ref (sh_r a0 1)]) (vo := fun _ => none) (mo := fun m => m) (s2 := fun _ => []) (by decide +kernel) (by decide +kernel) (o_10_5 hN h0) ⟨rfl, rfl, rfl, rfl, rfl, rfl⟩ (fun _ => rfl) (t_65 hN (h0 := (o_10_5 hN h0)) (h1 := (o_10_1 hN h0))) (fun m3 => ?_)
    refine i_bl (pc' := 26) [(.aload_n 0, 1)] [some (.ref a0), some (.int x1)] [.ref a0] (by decide +kernel) rfl ?_
    refine i_gr (idx := 19) (ci := 10) (k := 1) (t := 2) (p := 12127) (pc' := 29) (by decide +kernel) h0 ?_
    refine i_gr (idx := 146) (ci := 3) (k := 2) (t := 2) (p := 11180) (pc' := 32) (by decide +kernel) (o_10_1 hN h0) ?_
    refine i_bl (pc' := 33) [(.iload_n 1, 1)] [some (.ref a0), some (.int x1)] [.int x1, .ref (sh_r (sh_r a0 1) 2)] (by decide +kernel) rfl ?_
    refine i_cv (ci := 2) (t := 42) (na := 2) (ml := 3) (idx := 354) (pc' := 36) (st' := []) (en := [some (.ref (sh_r (sh_r a0 1) 2)), some (.int x1), none]) (av := [.int x1]) (vo := fun _ => none) (mo := fun m => m) (s2 := fun _ => []) (by decide +kernel) (by decide +kernel) (o_3_2 hN (o_10_1 hN h0)) ⟨rfl, rfl, rfl, rfl, rfl, rfl⟩ (fun _ => rfl) (t_42 hN (h0 := (o_3_2 hN (o_10_1 hN h0)))) (fun m4 => ?_)
    refine i_bl (pc' := 37) [(.aload_n 0, 1)] [some (.ref a0), some (.int x1)] [.ref a0] (by decide +kernel) rfl ?_
    refine i_gr (idx := 19) (ci := 10) (k := 1) (t := 2) (p := 12127) (pc' := 40) (by decide +kernel) h0 ?_
    refine i_gr (idx := 146) (ci := 3) (k := 2) (t := 2) (p := 11180) (pc' := 43) (by decide +kernel) (o_10_1 hN h0) ?_
    refine i_gf (idx := 150) (ci := 2) (k := 3) (t := 0) (p := 11145) (pc' := 46) (by decide +kernel) (o_3_2 hN (o_10_1 hN h0)) ?_
    exact i_ri (by decide +kernel) rfl
  · exact i_h0 (by decide +kernel) rfl

/-! 162 LanternChess.setPause(I)I -/
noncomputable def d_162 (a0 : Nat) (x1 : Int32) (m : Mm) : Option ((Int32 ⊕ Nat) × Mm) := bE (d_177 x1 1 5 m) (fun _ m1 => (d_65 (sh_r a0 5) (sh_r a0 1) m1).bind fun m3 => wb (m3 (sh_r a0 1) 8) fun y4 => wb (wr m3 (sh_r a0 1) 8 x1) fun m5 => some (.inl y4, m5)) (fun e6 m1 => some (.inr e6, m1))
theorem t_162 {L nx : Nat} (hN : okn nx) {b z : Nat} (hb : 1 ≤ b) (hz : 6 ≤ z) {m : Mm} {a0 : Nat} (h0 : ok nx a0 10) {x1 : Int32}  : Im (d_162 a0 x1 m) (eI L nx) (ev_dn b z 162 0 [some (.ref a0), some (.int x1), none] [] (nx, mem L nx m)) := by
  unfold d_162
  refine i_bl (pc' := 3) [(.iload_n 1, 1), (.iconst 1, 1), (.iconst 5, 1)] [some (.ref a0), some (.int x1), none] [.int 5, .int 1, .int x1] (by decide +kernel) rfl ?_
  refine i_es (t := 177) (na := 3) (ml := 3) (idx := 217) (pc' := 6) (st' := []) (en := [some (.int x1), some (.int 1), some (.int 5)]) (av := [.int x1, .int 1, .int 5]) (k1 := 1) (k2 := 6) (vo := fun _ => none) (s2 := fun _ => []) (by decide +kernel) ⟨rfl, rfl, rfl, rfl, rfl, rfl⟩ ⟨by omega, by omega⟩ (fun _ => rfl) (t_177 hN (b := 1) (z := 6) (by decide) (by decide) ) (fun _ m1 => ?_) (fun e6 m1 => ?_)
  · refine i_bl (pc' := 7) [(.aload_n 0, 1)] [some (.ref a0), some (.int x1), none] [.ref a0] (by decide +kernel) rfl ?_
    refine i_gr (idx := 36) (ci := 10) (k := 5) (t := 2) (p := 12131) (pc' := 10) (by decide +kernel) h0 ?_
    refine i_bl (pc' := 11) [(.aload_n 0, 1)] [some (.ref a0), some (.int x1), none] [.ref a0, .ref (sh_r a0 5)] (by decide +kernel) rfl ?_
    refine i_gr (idx := 19) (ci := 10) (k := 1) (t := 2) (p := 12127) (pc' := 14) (by decide +kernel) h0 ?_
    refine i_cv (ci := 4) (t := 65) (na := 2) (ml := 3) (idx := 322) (pc' := 17) (st' := []) (en := [some (.ref (sh_r a0 5)), some (.ref (sh_r a0 1)), none]) (av := [.ref (sh_r a0 1)]) (vo := fun _ => none) (mo := fun m => m) (s2 := fun _ => []) (by decide +kernel) (by decide +kernel) (o_10_5 hN h0) ⟨rfl, rfl, rfl, rfl, rfl, rfl⟩ (fun _ => rfl) (t_65 hN (h0 := (o_10_5 hN h0)) (h1 := (o_10_1 hN h0))) (fun m3 => ?_)
    refine i_bl (pc' := 18) [(.aload_n 0, 1)] [some (.ref a0), some (.int x1), none] [.ref a0] (by decide +kernel) rfl ?_
    refine i_gr (idx := 19) (ci := 10) (k := 1) (t := 2) (p := 12127) (pc' := 21) (by decide +kernel) h0 ?_
    refine i_gf (idx := 137) (ci := 3) (k := 8) (t := 0) (p := 11193) (pc' := 24) (by decide +kernel) (o_10_1 hN h0) ?_
    refine i_bl (pc' := 25) [(.istore_n 2, 1)] [some (.ref a0), some (.int x1), some (.int (m3 (sh_r a0 1) 8))] [] (by decide +kernel) rfl ?_
    refine i_wb (fun y4 => ev_dn (b - 1) (z - 6) 162 25 [some (.ref a0), some (.int x1), some (.int y4)] [] (nx, mem L nx m3)) (fun y4 => ?_)
    refine i_bl (pc' := 26) [(.aload_n 0, 1)] [some (.ref a0), some (.int x1), some (.int y4)] [.ref a0] (by decide +kernel) rfl ?_
    refine i_gr (idx := 19) (ci := 10) (k := 1) (t := 2) (p := 12127) (pc' := 29) (by decide +kernel) h0 ?_
    refine i_bl (pc' := 30) [(.iload_n 1, 1)] [some (.ref a0), some (.int x1), some (.int y4)] [.int x1, .ref (sh_r a0 1)] (by decide +kernel) rfl ?_
    refine i_pf (x := x1) (idx := 137) (ci := 3) (k := 8) (p := 11193) (pc' := 33) (by decide +kernel) (o_10_1 hN h0) (fun m5 => ?_)
    refine i_bl (pc' := 34) [(.iload_n 2, 1)] [some (.ref a0), some (.int x1), some (.int y4)] [.int y4] (by decide +kernel) rfl ?_
    exact i_ri (by decide +kernel) rfl
  · exact i_h0 (by decide +kernel) rfl

/-! 163 LanternChess.setWait(I)I -/
noncomputable def d_163 (a0 : Nat) (x1 : Int32) (m : Mm) : Option ((Int32 ⊕ Nat) × Mm) := bE (d_177 x1 0 9 m) (fun _ m1 => (d_65 (sh_r a0 5) (sh_r a0 1) m1).bind fun m3 => wb (m3 (sh_r a0 1) 9) fun y4 => wb (wr m3 (sh_r a0 1) 9 x1) fun m5 => some (.inl y4, m5)) (fun e6 m1 => some (.inr e6, m1))
theorem t_163 {L nx : Nat} (hN : okn nx) {b z : Nat} (hb : 1 ≤ b) (hz : 6 ≤ z) {m : Mm} {a0 : Nat} (h0 : ok nx a0 10) {x1 : Int32}  : Im (d_163 a0 x1 m) (eI L nx) (ev_dn b z 163 0 [some (.ref a0), some (.int x1), none] [] (nx, mem L nx m)) := by
  unfold d_163
  refine i_bl (pc' := 4) [(.iload_n 1, 1), (.iconst 0, 1), (.bipush (9), 2)] [some (.ref a0), some (.int x1), none] [.int 9, .int 0, .int x1] (by decide +kernel) rfl ?_
  refine i_es (t := 177) (na := 3) (ml := 3) (idx := 217) (pc' := 7) (st' := []) (en := [some (.int x1), some (.int 0), some (.int 9)]) (av := [.int x1, .int 0, .int 9]) (k1 := 1) (k2 := 6) (vo := fun _ => none) (s2 := fun _ => []) (by decide +kernel) ⟨rfl, rfl, rfl, rfl, rfl, rfl⟩ ⟨by omega, by omega⟩ (fun _ => rfl) (t_177 hN (b := 1) (z := 6) (by decide) (by decide) ) (fun _ m1 => ?_) (fun e6 m1 => ?_)
  · refine i_bl (pc' := 8) [(.aload_n 0, 1)] [some (.ref a0), some (.int x1), none] [.ref a0] (by decide +kernel) rfl ?_
    refine i_gr (idx := 36) (ci := 10) (k := 5) (t := 2) (p := 12131) (pc' := 11) (by decide +kernel) h0 ?_
    refine i_bl (pc' := 12) [(.aload_n 0, 1)] [some (.ref a0), some (.int x1), none] [.ref a0, .ref (sh_r a0 5)] (by decide +kernel) rfl ?_
    refine i_gr (idx := 19) (ci := 10) (k := 1) (t := 2) (p := 12127) (pc' := 15) (by decide +kernel) h0 ?_
    refine i_cv (ci := 4) (t := 65) (na := 2) (ml := 3) (idx := 322) (pc' := 18) (st' := []) (en := [some (.ref (sh_r a0 5)), some (.ref (sh_r a0 1)), none]) (av := [.ref (sh_r a0 1)]) (vo := fun _ => none) (mo := fun m => m) (s2 := fun _ => []) (by decide +kernel) (by decide +kernel) (o_10_5 hN h0) ⟨rfl, rfl, rfl, rfl, rfl, rfl⟩ (fun _ => rfl) (t_65 hN (h0 := (o_10_5 hN h0)) (h1 := (o_10_1 hN h0))) (fun m3 => ?_)
    refine i_bl (pc' := 19) [(.aload_n 0, 1)] [some (.ref a0), some (.int x1), none] [.ref a0] (by decide +kernel) rfl ?_
    refine i_gr (idx := 19) (ci := 10) (k := 1) (t := 2) (p := 12127) (pc' := 22) (by decide +kernel) h0 ?_
    refine i_gf (idx := 140) (ci := 3) (k := 9) (t := 0) (p := 11196) (pc' := 25) (by decide +kernel) (o_10_1 hN h0) ?_
    refine i_bl (pc' := 26) [(.istore_n 2, 1)] [some (.ref a0), some (.int x1), some (.int (m3 (sh_r a0 1) 9))] [] (by decide +kernel) rfl ?_
    refine i_wb (fun y4 => ev_dn (b - 1) (z - 6) 163 26 [some (.ref a0), some (.int x1), some (.int y4)] [] (nx, mem L nx m3)) (fun y4 => ?_)
    refine i_bl (pc' := 27) [(.aload_n 0, 1)] [some (.ref a0), some (.int x1), some (.int y4)] [.ref a0] (by decide +kernel) rfl ?_
    refine i_gr (idx := 19) (ci := 10) (k := 1) (t := 2) (p := 12127) (pc' := 30) (by decide +kernel) h0 ?_
    refine i_bl (pc' := 31) [(.iload_n 1, 1)] [some (.ref a0), some (.int x1), some (.int y4)] [.int x1, .ref (sh_r a0 1)] (by decide +kernel) rfl ?_
    refine i_pf (x := x1) (idx := 140) (ci := 3) (k := 9) (p := 11196) (pc' := 34) (by decide +kernel) (o_10_1 hN h0) (fun m5 => ?_)
    refine i_bl (pc' := 35) [(.iload_n 2, 1)] [some (.ref a0), some (.int x1), some (.int y4)] [.int y4] (by decide +kernel) rfl ?_
    exact i_ri (by decide +kernel) rfl
  · exact i_h0 (by decide +kernel) rfl

/-! 164 LanternChess.setTries(I)I -/
noncomputable def d_164 (a0 : Nat) (x1 : Int32) (m : Mm) : Option ((Int32 ⊕ Nat) × Mm) := bE (d_177 x1 1 9 m) (fun _ m1 => (d_65 (sh_r a0 5) (sh_r a0 1) m1).bind fun m3 => wb (m3 (sh_r a0 1) 10) fun y4 => wb (wr m3 (sh_r a0 1) 10 x1) fun m5 => some (.inl y4, m5)) (fun e6 m1 => some (.inr e6, m1))
theorem t_164 {L nx : Nat} (hN : okn nx) {b z : Nat} (hb : 1 ≤ b) (hz : 6 ≤ z) {m : Mm} {a0 : Nat} (h0 : ok nx a0 10) {x1 : Int32}  : Im (d_164 a0 x1 m) (eI L nx) (ev_dn b z 164 0 [some (.ref a0), some (.int x1), none] [] (nx, mem L nx m)) := by
  unfold d_164
  refine i_bl (pc' := 4) [(.iload_n 1, 1), (.iconst 1, 1), (.bipush (9), 2)] [some (.ref a0), some (.int x1), none] [.int 9, .int 1, .int x1] (by decide +kernel) rfl ?_
  refine i_es (t := 177) (na := 3) (ml := 3) (idx := 217) (pc' := 7) (st' := []) (en := [some (.int x1), some (.int 1), some (.int 9)]) (av := [.int x1, .int 1, .int 9]) (k1 := 1) (k2 := 6) (vo := fun _ => none) (s2 := fun _ => []) (by decide +kernel) ⟨rfl, rfl, rfl, rfl, rfl, rfl⟩ ⟨by omega, by omega⟩ (fun _ => rfl) (t_177 hN (b := 1) (z := 6) (by decide) (by decide) ) (fun _ m1 => ?_) (fun e6 m1 => ?_)
  · refine i_bl (pc' := 8) [(.aload_n 0, 1)] [some (.ref a0), some (.int x1), none] [.ref a0] (by decide +kernel) rfl ?_
    refine i_gr (idx := 36) (ci := 10) (k := 5) (t := 2) (p := 12131) (pc' := 11) (by decide +kernel) h0 ?_
    refine i_bl (pc' := 12) [(.aload_n 0, 1)] [some (.ref a0), some (.int x1), none] [.ref a0, .ref (sh_r a0 5)] (by decide +kernel) rfl ?_
    refine i_gr (idx := 19) (ci := 10) (k := 1) (t := 2) (p := 12127) (pc' := 15) (by decide +kernel) h0 ?_
    refine i_cv (ci := 4) (t := 65) (na := 2) (ml := 3) (idx := 322) (pc' := 18) (st' := []) (en := [some (.ref (sh_r a0 5)), some (.ref (sh_r a0 1)), none]) (av := [.ref (sh_r a0 1)]) (vo := fun _ => none) (mo := fun m => m) (s2 := fun _ => []) (by decide +kernel) (by decide +kernel) (o_10_5 hN h0) ⟨rfl, rfl, rfl, rfl, rfl, rfl⟩ (fun _ => rfl) (t_65 hN (h0 := (o_10_5 hN h0)) (h1 := (o_10_1 hN h0))) (fun m3 => ?_)
    refine i_bl (pc' := 19) [(.aload_n 0, 1)] [some (.ref a0), some (.int x1), none] [.ref a0] (by decide +kernel) rfl ?_
    refine i_gr (idx := 19) (ci := 10) (k := 1) (t := 2) (p := 12127) (pc' := 22) (by decide +kernel) h0 ?_
    refine i_gf (idx := 143) (ci := 3) (k := 10) (t := 0) (p := 11199) (pc' := 25) (by decide +kernel) (o_10_1 hN h0) ?_
    refine i_bl (pc' := 26) [(.istore_n 2, 1)] [some (.ref a0), some (.int x1), some (.int (m3 (sh_r a0 1) 10))] [] (by decide +kernel) rfl ?_
    refine i_wb (fun y4 => ev_dn (b - 1) (z - 6) 164 26 [some (.ref a0), some (.int x1), some (.int y4)] [] (nx, mem L nx m3)) (fun y4 => ?_)
    refine i_bl (pc' := 27) [(.aload_n 0, 1)] [some (.ref a0), some (.int x1), some (.int y4)] [.ref a0] (by decide +kernel) rfl ?_
    refine i_gr (idx := 19) (ci := 10) (k := 1) (t := 2) (p := 12127) (pc' := 30) (by decide +kernel) h0 ?_
    refine i_bl (pc' := 31) [(.iload_n 1, 1)] [some (.ref a0), some (.int x1), some (.int y4)] [.int x1, .ref (sh_r a0 1)] (by decide +kernel) rfl ?_
    refine i_pf (x := x1) (idx := 143) (ci := 3) (k := 10) (p := 11199) (pc' := 34) (by decide +kernel) (o_10_1 hN h0) (fun m5 => ?_)
    refine i_bl (pc' := 35) [(.iload_n 2, 1)] [some (.ref a0), some (.int x1), some (.int y4)] [.int y4] (by decide +kernel) rfl ?_
    exact i_ri (by decide +kernel) rfl
  · exact i_h0 (by decide +kernel) rfl

/-! 161 LanternChess.set(II)I -/
noncomputable def d_161 (a0 : Nat) (x1 : Int32) (x2 : Int32) (m : Mm) : Option ((Int32 ⊕ Nat) × Mm) := bE (d_177 x1 5 7 m) (fun _ m1 => (if x1 = 5 then (bE (d_162 a0 x2 m1) (fun v4 m3 => some (.inl v4, m3)) (fun e5 m3 => some (.inr e5, m3))) else if x1 = 6 then (bE (d_163 a0 x2 m1) (fun v7 m6 => some (.inl v7, m6)) (fun e8 m6 => some (.inr e8, m6))) else (bE (d_164 a0 x2 m1) (fun v10 m9 => some (.inl v10, m9)) (fun e11 m9 => some (.inr e11, m9))))) (fun e12 m1 => some (.inr e12, m1))
theorem t_161 {L nx : Nat} (hN : okn nx) {b z : Nat} (hb : 2 ≤ b) (hz : 12 ≤ z) {m : Mm} {a0 : Nat} (h0 : ok nx a0 10) {x1 : Int32} {x2 : Int32}  : Im (d_161 a0 x1 x2 m) (eI L nx) (ev_dn b z 161 0 [some (.ref a0), some (.int x1), some (.int x2)] [] (nx, mem L nx m)) := by
  unfold d_161
  refine i_bl (pc' := 4) [(.iload_n 1, 1), (.iconst 5, 1), (.bipush (7), 2)] [some (.ref a0), some (.int x1), some (.int x2)] [.int 7, .int 5, .int x1] (by decide +kernel) rfl ?_
  refine i_es (t := 177) (na := 3) (ml := 3) (idx := 217) (pc' := 7) (st' := []) (en := [some (.int x1), some (.int 5), some (.int 7)]) (av := [.int x1, .int 5, .int 7]) (k1 := 1) (k2 := 6) (vo := fun _ => none) (s2 := fun _ => []) (by decide +kernel) ⟨rfl, rfl, rfl, rfl, rfl, rfl⟩ ⟨by omega, by omega⟩ (fun _ => rfl) (t_177 hN (b := 1) (z := 6) (by decide) (by decide) ) (fun _ m1 => ?_) (fun e12 m1 => ?_)
  · refine i_bl (pc' := 8) [(.iload_n 1, 1)] [some (.ref a0), some (.int x1), some (.int x2)] [.int x1] (by decide +kernel) rfl ?_
    refine i_lk (n := 28) (dd := (40)) (ps := #[((5), (28)), ((6), (34))]) (d := 48) (cs := [(5, 36), (6, 42)]) (by decide +kernel) ?_
    refine i_sc (c := 5) (by decide +kernel) ?_ ?_
    · refine i_bl (pc' := 38) [(.aload_n 0, 1), (.iload_n 2, 1)] [some (.ref a0), some (.int x1), some (.int x2)] [.int x2, .ref a0] (by decide +kernel) rfl ?_
      refine i_ev (ci := 10) (t := 162) (na := 2) (ml := 3) (idx := 357) (pc' := 41) (st' := []) (en := [some (.ref a0), some (.int x2), none]) (av := [.int x2]) (k1 := 1) (k2 := 6) (vo := fun v => some (.int v)) (s2 := fun v => .int v :: []) (by decide +kernel) (by decide +kernel) h0 ⟨rfl, rfl, rfl, rfl, rfl, rfl⟩ ⟨by omega, by omega⟩ (fun _ => rfl) (t_162 hN (b := 1) (z := 6) (by decide) (by decide) (h0 := h0)) (fun v4 m3 => ?_) (fun e5 m3 => ?_)
      · exact i_ri (by decide +kernel) rfl
      · exact i_h0 (by decide +kernel) rfl
    refine i_sc (c := 6) (by decide +kernel) ?_ ?_
    · refine i_bl (pc' := 44) [(.aload_n 0, 1), (.iload_n 2, 1)] [some (.ref a0), some (.int x1), some (.int x2)] [.int x2, .ref a0] (by decide +kernel) rfl ?_
      refine i_ev (ci := 10) (t := 163) (na := 2) (ml := 3) (idx := 360) (pc' := 47) (st' := []) (en := [some (.ref a0), some (.int x2), none]) (av := [.int x2]) (k1 := 1) (k2 := 6) (vo := fun v => some (.int v)) (s2 := fun v => .int v :: []) (by decide +kernel) (by decide +kernel) h0 ⟨rfl, rfl, rfl, rfl, rfl, rfl⟩ ⟨by omega, by omega⟩ (fun _ => rfl) (t_163 hN (b := 1) (z := 6) (by decide) (by decide) (h0 := h0)) (fun v7 m6 => ?_) (fun e8 m6 => ?_)
      · exact i_ri (by decide +kernel) rfl
      · exact i_h0 (by decide +kernel) rfl
    refine i_s0 ?_
    refine i_bl (pc' := 50) [(.aload_n 0, 1), (.iload_n 2, 1)] [some (.ref a0), some (.int x1), some (.int x2)] [.int x2, .ref a0] (by decide +kernel) rfl ?_
    refine i_ev (ci := 10) (t := 164) (na := 2) (ml := 3) (idx := 363) (pc' := 53) (st' := []) (en := [some (.ref a0), some (.int x2), none]) (av := [.int x2]) (k1 := 1) (k2 := 6) (vo := fun v => some (.int v)) (s2 := fun v => .int v :: []) (by decide +kernel) (by decide +kernel) h0 ⟨rfl, rfl, rfl, rfl, rfl, rfl⟩ ⟨by omega, by omega⟩ (fun _ => rfl) (t_164 hN (b := 1) (z := 6) (by decide) (by decide) (h0 := h0)) (fun v10 m9 => ?_) (fun e11 m9 => ?_)
    · exact i_ri (by decide +kernel) rfl
    · exact i_h0 (by decide +kernel) rfl
  · exact i_h0 (by decide +kernel) rfl

/-! 165 LanternChess.undo()I -/
noncomputable def d_165 (a0 : Nat) (m : Mm) : Option ((Int32 ⊕ Nat) × Mm) := if ¬ (m (sh_r a0 5) 2) = 0 then ((d_66 (sh_r a0 5) (sh_r a0 1) m).bind fun m1 => some (.inl (m1 (sh_r a0 5) 2), m1)) else (some (.inr 3, m))
theorem t_165 {L nx : Nat} (hN : okn nx) {b z : Nat} (hb : 1 ≤ b) (hz : 6 ≤ z) {m : Mm} {a0 : Nat} (h0 : ok nx a0 10)   : Im (d_165 a0 m) (eI L nx) (ev_dn b z 165 0 [some (.ref a0)] [] (nx, mem L nx m)) := by
  unfold d_165
  refine i_bl (pc' := 1) [(.aload_n 0, 1)] [some (.ref a0)] [.ref a0] (by decide +kernel) rfl ?_
  refine i_gr (idx := 36) (ci := 10) (k := 5) (t := 2) (p := 12131) (pc' := 4) (by decide +kernel) h0 ?_
  refine i_gf (idx := 176) (ci := 4) (k := 2) (t := 0) (p := 12001) (pc' := 7) (by decide +kernel) (o_10_5 hN h0) ?_
  refine i_if (c := .ne) (off := 14) (t := 21) (pc' := 10) (p := ¬ (m (sh_r a0 5) 2) = 0) (by decide +kernel) rfl ?_ ?_
  · refine i_bl (pc' := 22) [(.aload_n 0, 1)] [some (.ref a0)] [.ref a0] (by decide +kernel) rfl ?_
    refine i_gr (idx := 36) (ci := 10) (k := 5) (t := 2) (p := 12131) (pc' := 25) (by decide +kernel) h0 ?_
    refine i_bl (pc' := 26) [(.aload_n 0, 1)] [some (.ref a0)] [.ref a0, .ref (sh_r a0 5)] (by decide +kernel) rfl ?_
    refine i_gr (idx := 19) (ci := 10) (k := 1) (t := 2) (p := 12127) (pc' := 29) (by decide +kernel) h0 ?_
    refine i_cv (ci := 4) (t := 66) (na := 2) (ml := 3) (idx := 371) (pc' := 32) (st' := []) (en := [some (.ref (sh_r a0 5)), some (.ref (sh_r a0 1)), none]) (av := [.ref (sh_r a0 1)]) (vo := fun _ => none) (mo := fun m => m) (s2 := fun _ => []) (by decide +kernel) (by decide +kernel) (o_10_5 hN h0) ⟨rfl, rfl, rfl, rfl, rfl, rfl⟩ (fun _ => rfl) (t_66 hN (h0 := (o_10_5 hN h0)) (h1 := (o_10_1 hN h0))) (fun m1 => ?_)
    refine i_bl (pc' := 33) [(.aload_n 0, 1)] [some (.ref a0)] [.ref a0] (by decide +kernel) rfl ?_
    refine i_gr (idx := 36) (ci := 10) (k := 5) (t := 2) (p := 12131) (pc' := 36) (by decide +kernel) h0 ?_
    refine i_gf (idx := 176) (ci := 4) (k := 2) (t := 0) (p := 12001) (pc' := 39) (by decide +kernel) (o_10_5 hN h0) ?_
    exact i_ri (by decide +kernel) rfl
  · exact i_th (i := .new 366) (k := 3) (by decide +kernel) ⟨by omega, by omega⟩ rfl

/-! 171 LanternChess.write(C)V -/
noncomputable def d_171 (a0 : Nat) (x1 : Int32) (m : Mm) : Option Mm := if (Int32.ofNat (sh_n (sh_r a0 9))) ≤ (m a0 10) then (some m) else (if ev_in (m a0 10) (sh_n (sh_r a0 9)) = true then (wb (wr m (sh_r a0 9) (ix (m a0 10)) x1.toInt8.toInt32.toInt8.toInt32) fun m1 => wb (wr m1 a0 10 ((m1 a0 10) + 1)) fun m2 => some m2) else none)
theorem t_171 {L nx : Nat} (hN : okn nx) {b z : Nat} {m : Mm} {a0 : Nat} (h0 : ok nx a0 10) {x1 : Int32}  : Im (d_171 a0 x1 m) (wV L nx) (ev_dn b z 171 0 [some (.ref a0), some (.int x1)] [] (nx, mem L nx m)) := by
  unfold d_171
  refine i_bl (pc' := 1) [(.aload_n 0, 1)] [some (.ref a0), some (.int x1)] [.ref a0] (by decide +kernel) rfl ?_
  refine i_gf (idx := 65) (ci := 10) (k := 10) (t := 0) (p := 12136) (pc' := 4) (by decide +kernel) h0 ?_
  refine i_bl (pc' := 5) [(.aload_n 0, 1)] [some (.ref a0), some (.int x1)] [.ref a0, .int (m a0 10)] (by decide +kernel) rfl ?_
  refine i_gr (idx := 61) (ci := 10) (k := 9) (t := 2) (p := 12135) (pc' := 8) (by decide +kernel) h0 ?_
  refine i_ln (c := 101) (pc' := 9) (by decide +kernel) (o_10_9 hN h0) ?_
  refine i_ic (c := .ge) (off := 24) (t := 33) (pc' := 12) (p := (Int32.ofNat (sh_n (sh_r a0 9))) ≤ (m a0 10)) (by decide +kernel) rfl ?_ ?_
  · exact i_rv (by decide +kernel) rfl
  · refine i_bl (pc' := 13) [(.aload_n 0, 1)] [some (.ref a0), some (.int x1)] [.ref a0] (by decide +kernel) rfl ?_
    refine i_gr (idx := 61) (ci := 10) (k := 9) (t := 2) (p := 12135) (pc' := 16) (by decide +kernel) h0 ?_
    refine i_bl (pc' := 17) [(.aload_n 0, 1)] [some (.ref a0), some (.int x1)] [.ref a0, .ref (sh_r a0 9)] (by decide +kernel) rfl ?_
    refine i_gf (idx := 65) (ci := 10) (k := 10) (t := 0) (p := 12136) (pc' := 20) (by decide +kernel) h0 ?_
    refine i_bl (pc' := 22) [(.iload_n 1, 1), (.i2b, 1)] [some (.ref a0), some (.int x1)] [.int x1.toInt8.toInt32, .int (m a0 10), .ref (sh_r a0 9)] (by decide +kernel) rfl ?_
    refine i_bs (y := x1.toInt8.toInt32) (pc' := 23) (by decide +kernel) (o_10_9 hN h0) (fun m1 => ?_)
    refine i_bl (pc' := 25) [(.aload_n 0, 1), (.dup, 1)] [some (.ref a0), some (.int x1)] [.ref a0, .ref a0] (by decide +kernel) rfl ?_
    refine i_gf (idx := 65) (ci := 10) (k := 10) (t := 0) (p := 12136) (pc' := 28) (by decide +kernel) h0 ?_
    refine i_bl (pc' := 30) [(.iconst 1, 1), (.iadd, 1)] [some (.ref a0), some (.int x1)] [.int ((m1 a0 10) + 1), .ref a0] (by decide +kernel) rfl ?_
    refine i_pf (x := ((m1 a0 10) + 1)) (idx := 65) (ci := 10) (k := 10) (p := 12136) (pc' := 33) (by decide +kernel) h0 (fun m2 => ?_)
    exact i_rv (by decide +kernel) rfl

/-! 166 LanternChess.printRow(II)I -/
noncomputable def E_166_35 (L nx b z : Nat) (a0 : Nat) (x2 : Int32) (a3 : Nat) (d : Option Value × Option Value) (s : (Int32 × Mm)) : ev_Q := ev_dn b z 166 35 [some (.ref a0), d.1, some (.int x2), some (.ref a3), some (.int s.1), d.2] [] (nx, mem L nx s.2)
noncomputable def d_166_95 (a0 : Nat) (m : Mm) : Option ((Int32 ⊕ Nat) × Mm) := some (.inl (m a0 10), m)
theorem t_166_95 {L nx : Nat} (hN : okn nx) {b z : Nat} {m : Mm} {a0 : Nat} (h0 : ok nx a0 10)  {o1 : Option Value} {o2 : Option Value} {o3 : Option Value} {o4 : Option Value} {o5 : Option Value} : Im (d_166_95 a0 m) (eI L nx) (ev_dn b z 166 95 [some (.ref a0), o1, o2, o3, o4, o5] [] (nx, mem L nx m)) := by
  unfold d_166_95
  refine i_bl (pc' := 96) [(.aload_n 0, 1)] [some (.ref a0), o1, o2, o3, o4, o5] [.ref a0] (by decide +kernel) rfl ?_
  refine i_gf (idx := 65) (ci := 10) (k := 10) (t := 0) (p := 12136) (pc' := 99) (by decide +kernel) h0 ?_
  exact i_ri (by decide +kernel) rfl

noncomputable def d_166_86 (a0 : Nat) (x2 : Int32) (a3 : Nat) (x4 : Int32) (s0 : Nat) (s1 : Int32) (m : Mm) : Option ((Int32 × Mm) ⊕ ((Int32 ⊕ Nat) × Mm)) := (d_171 s0 s1 m).bind fun m10 => wb (x4 + 1) fun y11 => some (.inl (y11, m10))
theorem t_166_86 {L nx : Nat} (hN : okn nx) {b z : Nat} {m : Mm} {a0 : Nat} (h0 : ok nx a0 10) {a3 : Nat} (h3 : ok nx a3 1) {s0 : Nat} (hs0 : ok nx s0 10) {x2 : Int32} {x4 : Int32} {s1 : Int32} {o1 : Option Value} {o5 : Option Value} : Im (d_166_86 a0 x2 a3 x4 s0 s1 m) (kL (eI L nx) (E_166_35 L nx b z a0 x2 a3)) (ev_dn b z 166 86 [some (.ref a0), o1, some (.int x2), some (.ref a3), some (.int x4), o5] [.int s1, .ref s0] (nx, mem L nx m)) := by
  unfold d_166_86
  refine i_cv (ci := 10) (t := 171) (na := 2) (ml := 2) (idx := 384) (pc' := 89) (st' := []) (en := [some (.ref s0), some (.int s1)]) (av := [.int s1]) (vo := fun _ => none) (mo := fun m => m) (s2 := fun _ => []) (by decide +kernel) (by decide +kernel) hs0 ⟨rfl, rfl, rfl, rfl, rfl, rfl⟩ (fun _ => rfl) (t_171 hN (h0 := hs0)) (fun m10 => ?_)
  refine i_bl (pc' := 92) [(.iinc 4 (1), 3)] [some (.ref a0), o1, some (.int x2), some (.ref a3), some (.int (x4 + 1)), o5] [] (by decide +kernel) rfl ?_
  refine i_wb (fun y11 => ev_dn b z 166 92 [some (.ref a0), o1, some (.int x2), some (.ref a3), some (.int y11), o5] [] (nx, mem L nx m10)) (fun y11 => ?_)
  refine i_go (t := 35) (off := -57) (by decide +kernel) ?_
  exact i_co (o1, o5) rfl

noncomputable def s_166_35 (a0 : Nat) (x2 : Int32) (a3 : Nat) (x4 : Int32) (m : Mm) : Option ((Int32 × Mm) ⊕ ((Int32 ⊕ Nat) × Mm)) := if (m a3 1) ≤ x4 then ((d_166_95 a0 m).map Sum.inr) else ((d_12 x4 x2).bind fun v8 => (d_17 a3 v8 m).bind fun v9 => if v9 < 0 then (d_166_86 a0 x2 a3 x4 a0 46 m) else (if (Int32.ofNat (sh_n 17)) ≤ v9 then (d_166_86 a0 x2 a3 x4 a0 46 m) else (if ev_in v9 (sh_n 17) = true then (d_166_86 a0 x2 a3 x4 a0 (m 17 (ix v9)) m) else none)))
noncomputable def d_166_35 (a0 : Nat) (x2 : Int32) (a3 : Nat) (x4 : Int32) (m : Mm) : Option ((Int32 ⊕ Nat) × Mm) := it (fun s => s_166_35 a0 x2 a3 s.1 s.2) (x4, m)
theorem e_166_35 (a0 : Nat) (x2 : Int32) (a3 : Nat) (x4 : Int32) (m : Mm) : d_166_35 a0 x2 a3 x4 m = oi (s_166_35 a0 x2 a3 x4 m) (fun s => d_166_35 a0 x2 a3 s.1 s.2) := it_eq _
theorem u_166_35 {L nx : Nat} (hN : okn nx) {b z : Nat} {m : Mm} {a0 : Nat} (h0 : ok nx a0 10) {a3 : Nat} (h3 : ok nx a3 1) {x2 : Int32} {x4 : Int32} {o1 : Option Value} {o5 : Option Value} : Im (s_166_35 a0 x2 a3 x4 m) (kL (eI L nx) (E_166_35 L nx b z a0 x2 a3)) (ev_dn b z 166 35 [some (.ref a0), o1, some (.int x2), some (.ref a3), some (.int x4), o5] [] (nx, mem L nx m)) := by
  unfold s_166_35
  refine i_bl (pc' := 38) [(.iload 4, 2), (.aload_n 3, 1)] [some (.ref a0), o1, some (.int x2), some (.ref a3), some (.int x4), o5] [.ref a3, .int x4] (by decide +kernel) rfl ?_
  refine i_gf (idx := 122) (ci := 1) (k := 1) (t := 0) (p := 11099) (pc' := 41) (by decide +kernel) h3 ?_
  refine i_ic (c := .ge) (off := 54) (t := 95) (pc' := 44) (p := (m a3 1) ≤ x4) (by decide +kernel) rfl ?_ ?_
  · exact i_mr (t_166_95 hN (h0 := h0))
  · refine i_bl (pc' := 48) [(.aload_n 3, 1), (.iload 4, 2), (.iload_n 2, 1)] [some (.ref a0), o1, some (.int x2), some (.ref a3), some (.int x4), o5] [.int x2, .int x4, .ref a3] (by decide +kernel) rfl ?_
    refine i_cs (t := 12) (na := 2) (ml := 2) (idx := 73) (pc' := 51) (st' := [.ref a3]) (en := [some (.int x4), some (.int x2)]) (av := [.int x4, .int x2]) (vo := fun v => some (.int v)) (mo := fun _ => m) (s2 := fun v => .int v :: [.ref a3]) (by decide +kernel) ⟨rfl, rfl, rfl, rfl, rfl, rfl⟩ (fun _ => rfl) (t_12 hN ) (fun v8 => ?_)
    refine i_cv (ci := 1) (t := 17) (na := 2) (ml := 2) (idx := 198) (pc' := 54) (st' := []) (en := [some (.ref a3), some (.int v8)]) (av := [.int v8]) (vo := fun v => some (.int v)) (mo := fun _ => m) (s2 := fun v => .int v :: []) (by decide +kernel) (by decide +kernel) h3 ⟨rfl, rfl, rfl, rfl, rfl, rfl⟩ (fun _ => rfl) (t_17 hN (h0 := h3)) (fun v9 => ?_)
    refine i_bl (pc' := 59) [(.istore 5, 2), (.aload_n 0, 1), (.iload 5, 2)] [some (.ref a0), o1, some (.int x2), some (.ref a3), some (.int x4), some (.int v9)] [.int v9, .ref a0] (by decide +kernel) rfl ?_
    refine i_if (c := .lt) (off := 25) (t := 84) (pc' := 62) (p := v9 < 0) (by decide +kernel) rfl ?_ ?_
    · refine i_bl (pc' := 86) [(.bipush (46), 2)] [some (.ref a0), o1, some (.int x2), some (.ref a3), some (.int x4), some (.int v9)] [.int 46, .ref a0] (by decide +kernel) rfl ?_
      exact t_166_86 hN (h0 := h0) (h3 := h3) (hs0 := h0)
    · refine i_bl (pc' := 64) [(.iload 5, 2)] [some (.ref a0), o1, some (.int x2), some (.ref a3), some (.int x4), some (.int v9)] [.int v9, .ref a0] (by decide +kernel) rfl ?_
      refine i_ltw (idx := 374) (p := 16205) (w := 17) (tx := "KQRBNPkqrbnp") (pc' := 67) (by decide +kernel) ?_
      refine i_sl (idx := 376) (pc' := 70) (by decide +kernel) rfl (o_lo hN (by decide +kernel)) ?_
      refine i_ic (c := .ge) (off := 14) (t := 84) (pc' := 73) (p := (Int32.ofNat (sh_n 17)) ≤ v9) (by decide +kernel) rfl ?_ ?_
      · refine i_bl (pc' := 86) [(.bipush (46), 2)] [some (.ref a0), o1, some (.int x2), some (.ref a3), some (.int x4), some (.int v9)] [.int 46, .ref a0] (by decide +kernel) rfl ?_
        exact t_166_86 hN (h0 := h0) (h3 := h3) (hs0 := h0)
      · refine i_ltw (idx := 374) (p := 16205) (w := 17) (tx := "KQRBNPkqrbnp") (pc' := 76) (by decide +kernel) ?_
        refine i_bl (pc' := 78) [(.iload 5, 2)] [some (.ref a0), o1, some (.int x2), some (.ref a3), some (.int x4), some (.int v9)] [.int v9, .ref 17, .ref a0] (by decide +kernel) rfl ?_
        refine i_sx (idx := 380) (pc' := 81) (by decide +kernel) rfl (o_lo hN (by decide +kernel)) ?_
        refine i_go (t := 86) (off := 5) (by decide +kernel) ?_
        exact t_166_86 hN (h0 := h0) (h3 := h3) (hs0 := h0)

theorem t_166_35 {L nx : Nat} (hN : okn nx) {b z : Nat} {m : Mm} {a0 : Nat} (h0 : ok nx a0 10) {a3 : Nat} (h3 : ok nx a3 1) {x2 : Int32} {x4 : Int32} {o1 : Option Value} {o5 : Option Value} : Im (d_166_35 a0 x2 a3 x4 m) (eI L nx) (ev_dn b z 166 35 [some (.ref a0), o1, some (.int x2), some (.ref a3), some (.int x4), o5] [] (nx, mem L nx m)) := by
  exact i_it (f := fun s => s_166_35 a0 x2 a3 s.1 s.2) (E := E_166_35 L nx b z a0 x2 a3) (K := (eI L nx)) (fun d s => u_166_35 hN (h0 := h0) (h3 := h3)) (o1, o5) (x4, m)
noncomputable def d_166 (a0 : Nat) (x1 : Int32) (x2 : Int32) (m : Mm) : Option ((Int32 ⊕ Nat) × Mm) := bE (d_175 x1 m) (fun _ m1 => (d_51 (sh_r a0 1) x1).bind fun v3 => bE (d_177 x2 0 ((m1 (sh_r v3 0) 2) - 1) m1) (fun _ m5 => wb (wr m5 a0 10 0) fun m7 => d_166_35 a0 x2 (sh_r v3 0) 0 m7) (fun e12 m5 => some (.inr e12, m5))) (fun e13 m1 => some (.inr e13, m1))
theorem t_166 {L nx : Nat} (hN : okn nx) {b z : Nat} (hb : 2 ≤ b) (hz : 12 ≤ z) {m : Mm} {a0 : Nat} (h0 : ok nx a0 10) {x1 : Int32} {x2 : Int32}  : Im (d_166 a0 x1 x2 m) (eI L nx) (ev_dn b z 166 0 [some (.ref a0), some (.int x1), some (.int x2), none, none, none] [] (nx, mem L nx m)) := by
  unfold d_166
  refine i_bl (pc' := 1) [(.iload_n 1, 1)] [some (.ref a0), some (.int x1), some (.int x2), none, none, none] [.int x1] (by decide +kernel) rfl ?_
  refine i_es (t := 175) (na := 1) (ml := 1) (idx := 184) (pc' := 4) (st' := []) (en := [some (.int x1)]) (av := [.int x1]) (k1 := 1) (k2 := 6) (vo := fun _ => none) (s2 := fun _ => []) (by decide +kernel) ⟨rfl, rfl, rfl, rfl, rfl, rfl⟩ ⟨by omega, by omega⟩ (fun _ => rfl) (t_175 hN (b := 1) (z := 6) (by decide) (by decide) ) (fun _ m1 => ?_) (fun e13 m1 => ?_)
  · refine i_bl (pc' := 5) [(.aload_n 0, 1)] [some (.ref a0), some (.int x1), some (.int x2), none, none, none] [.ref a0] (by decide +kernel) rfl ?_
    refine i_gr (idx := 19) (ci := 10) (k := 1) (t := 2) (p := 12127) (pc' := 8) (by decide +kernel) h0 ?_
    refine i_bl (pc' := 9) [(.iload_n 1, 1)] [some (.ref a0), some (.int x1), some (.int x2), none, none, none] [.int x1, .ref (sh_r a0 1)] (by decide +kernel) rfl ?_
    refine i_cA (cr := 0) (ci := 3) (t := 51) (na := 2) (ml := 2) (idx := 194) (pc' := 12) (st' := []) (en := [some (.ref (sh_r a0 1)), some (.int x1)]) (av := [.int x1]) (s2 := fun v => .ref v :: []) (by decide +kernel) (by decide +kernel) (o_10_1 hN h0) ⟨rfl, rfl, rfl, rfl, rfl, rfl⟩ (fun _ => rfl) (t_51 hN (h0 := (o_10_1 hN h0))) (fun v3 hr4 => ?_)
    refine i_gr (idx := 116) (ci := 0) (k := 0) (t := 2) (p := 11114) (pc' := 15) (by decide +kernel) hr4 ?_
    refine i_bl (pc' := 19) [(.astore_n 3, 1), (.iload_n 2, 1), (.iconst 0, 1), (.aload_n 3, 1)] [some (.ref a0), some (.int x1), some (.int x2), some (.ref (sh_r v3 0)), none, none] [.ref (sh_r v3 0), .int 0, .int x2] (by decide +kernel) rfl ?_
    refine i_gf (idx := 125) (ci := 1) (k := 2) (t := 0) (p := 11102) (pc' := 22) (by decide +kernel) (o_0_0 hN hr4) ?_
    refine i_bl (pc' := 24) [(.iconst 1, 1), (.isub, 1)] [some (.ref a0), some (.int x1), some (.int x2), some (.ref (sh_r v3 0)), none, none] [.int ((m1 (sh_r v3 0) 2) - 1), .int 0, .int x2] (by decide +kernel) rfl ?_
    refine i_es (t := 177) (na := 3) (ml := 3) (idx := 217) (pc' := 27) (st' := []) (en := [some (.int x2), some (.int 0), some (.int ((m1 (sh_r v3 0) 2) - 1))]) (av := [.int x2, .int 0, .int ((m1 (sh_r v3 0) 2) - 1)]) (k1 := 1) (k2 := 6) (vo := fun _ => none) (s2 := fun _ => []) (by decide +kernel) ⟨rfl, rfl, rfl, rfl, rfl, rfl⟩ ⟨by omega, by omega⟩ (fun _ => rfl) (t_177 hN (b := 1) (z := 6) (by decide) (by decide) ) (fun _ m5 => ?_) (fun e12 m5 => ?_)
    · refine i_bl (pc' := 29) [(.aload_n 0, 1), (.iconst 0, 1)] [some (.ref a0), some (.int x1), some (.int x2), some (.ref (sh_r v3 0)), none, none] [.int 0, .ref a0] (by decide +kernel) rfl ?_
      refine i_pf (x := 0) (idx := 65) (ci := 10) (k := 10) (p := 12136) (pc' := 32) (by decide +kernel) h0 (fun m7 => ?_)
      refine i_bl (pc' := 35) [(.iconst 0, 1), (.istore 4, 2)] [some (.ref a0), some (.int x1), some (.int x2), some (.ref (sh_r v3 0)), some (.int 0), none] [] (by decide +kernel) rfl ?_
      exact t_166_35 hN (h0 := h0) (h3 := (o_0_0 hN hr4))
    · exact i_h0 (by decide +kernel) rfl
  · exact i_h0 (by decide +kernel) rfl

/-! 167 LanternChess.printMessage(IIII)I -/
noncomputable def E_167_26 (L nx b z : Nat) (a0 : Nat) (d : Option Value × Option Value × Option Value × Option Value × Option Value) (s : (Int32 × Int32 × Mm)) : ev_Q := ev_dn b z 167 26 [some (.ref a0), d.1, d.2.1, d.2.2.1, d.2.2.2.1, some (.int s.1), some (.int s.2.1), d.2.2.2.2] [] (nx, mem L nx s.2.2)
noncomputable def d_167_114 (a0 : Nat) (m : Mm) : Option ((Int32 ⊕ Nat) × Mm) := some (.inl (m a0 10), m)
theorem t_167_114 {L nx : Nat} (hN : okn nx) {b z : Nat} {m : Mm} {a0 : Nat} (h0 : ok nx a0 10)  {o1 : Option Value} {o2 : Option Value} {o3 : Option Value} {o4 : Option Value} {o5 : Option Value} {o6 : Option Value} {o7 : Option Value} : Im (d_167_114 a0 m) (eI L nx) (ev_dn b z 167 114 [some (.ref a0), o1, o2, o3, o4, o5, o6, o7] [] (nx, mem L nx m)) := by
  unfold d_167_114
  refine i_bl (pc' := 115) [(.aload_n 0, 1)] [some (.ref a0), o1, o2, o3, o4, o5, o6, o7] [.ref a0] (by decide +kernel) rfl ?_
  refine i_gf (idx := 65) (ci := 10) (k := 10) (t := 0) (p := 12136) (pc' := 118) (by decide +kernel) h0 ?_
  exact i_ri (by decide +kernel) rfl

noncomputable def E_167_47 (L nx b z : Nat) (a0 : Nat) (x6 : Int32) (d : Option Value × Option Value × Option Value × Option Value) (s : (Int32 × Int32 × Mm)) : ev_Q := ev_dn b z 167 47 [some (.ref a0), d.1, d.2.1, d.2.2.1, d.2.2.2, some (.int s.1), some (.int x6), some (.int s.2.1)] [] (nx, mem L nx s.2.2)
noncomputable def d_167_96 (a0 : Nat) (x5 : Int32) (x6 : Int32) (m : Mm) : Option ((Int32 × Int32 × Mm) ⊕ ((Int32 ⊕ Nat) × Mm)) := wb (x5 + (m (sh_r a0 1) 8)) fun y6 => wb (x6 + 1) fun y7 => some (.inl (y6, y7, m))
theorem t_167_96 {L nx : Nat} (hN : okn nx) {b z : Nat} {m : Mm} {a0 : Nat} (h0 : ok nx a0 10) {x5 : Int32} {x6 : Int32} {o1 : Option Value} {o2 : Option Value} {o3 : Option Value} {o4 : Option Value} {o7 : Option Value} : Im (d_167_96 a0 x5 x6 m) (kL (eI L nx) (E_167_26 L nx b z a0)) (ev_dn b z 167 96 [some (.ref a0), o1, o2, o3, o4, some (.int x5), some (.int x6), o7] [] (nx, mem L nx m)) := by
  unfold d_167_96
  refine i_bl (pc' := 99) [(.iload 5, 2), (.aload_n 0, 1)] [some (.ref a0), o1, o2, o3, o4, some (.int x5), some (.int x6), o7] [.ref a0, .int x5] (by decide +kernel) rfl ?_
  refine i_gr (idx := 19) (ci := 10) (k := 1) (t := 2) (p := 12127) (pc' := 102) (by decide +kernel) h0 ?_
  refine i_gf (idx := 137) (ci := 3) (k := 8) (t := 0) (p := 11193) (pc' := 105) (by decide +kernel) (o_10_1 hN h0) ?_
  refine i_bl (pc' := 108) [(.iadd, 1), (.istore 5, 2)] [some (.ref a0), o1, o2, o3, (ev_kl o4), some (.int (x5 + (m (sh_r a0 1) 8))), some (.int x6), o7] [] (by decide +kernel) rfl ?_
  refine i_wb (fun y6 => ev_dn b z 167 108 [some (.ref a0), o1, o2, o3, (ev_kl o4), some (.int y6), some (.int x6), o7] [] (nx, mem L nx m)) (fun y6 => ?_)
  refine i_bl (pc' := 111) [(.iinc 6 (1), 3)] [some (.ref a0), o1, o2, o3, (ev_kl o4), some (.int y6), some (.int (x6 + 1)), o7] [] (by decide +kernel) rfl ?_
  refine i_wb (fun y7 => ev_dn b z 167 111 [some (.ref a0), o1, o2, o3, (ev_kl o4), some (.int y6), some (.int y7), o7] [] (nx, mem L nx m)) (fun y7 => ?_)
  refine i_go (t := 26) (off := -85) (by decide +kernel) ?_
  exact i_co (o1, o2, o3, (ev_kl o4), o7) rfl

noncomputable def d_167_84 (a0 : Nat) (x5 : Int32) (x6 : Int32) (x7 : Int32) (s0 : Nat) (s1 : Int32) (m : Mm) : Option ((Int32 × Int32 × Mm) ⊕ ((Int32 × Int32 × Mm) ⊕ ((Int32 ⊕ Nat) × Mm))) := (d_171 s0 s1 m).bind fun m9 => wb (x5 + 1) fun y10 => wb (x7 + 1) fun y11 => some (.inl (y10, y11, m9))
theorem t_167_84 {L nx : Nat} (hN : okn nx) {b z : Nat} {m : Mm} {a0 : Nat} (h0 : ok nx a0 10) {s0 : Nat} (hs0 : ok nx s0 10) {x5 : Int32} {x6 : Int32} {x7 : Int32} {s1 : Int32} {o1 : Option Value} {o2 : Option Value} {o3 : Option Value} {o4 : Option Value} : Im (d_167_84 a0 x5 x6 x7 s0 s1 m) (kL (kL (eI L nx) (E_167_26 L nx b z a0)) (E_167_47 L nx b z a0 x6)) (ev_dn b z 167 84 [some (.ref a0), o1, o2, o3, o4, some (.int x5), some (.int x6), some (.int x7)] [.int s1, .ref s0] (nx, mem L nx m)) := by
  unfold d_167_84
  refine i_cv (ci := 10) (t := 171) (na := 2) (ml := 2) (idx := 384) (pc' := 87) (st' := []) (en := [some (.ref s0), some (.int s1)]) (av := [.int s1]) (vo := fun _ => none) (mo := fun m => m) (s2 := fun _ => []) (by decide +kernel) (by decide +kernel) hs0 ⟨rfl, rfl, rfl, rfl, rfl, rfl⟩ (fun _ => rfl) (t_171 hN (h0 := hs0)) (fun m9 => ?_)
  refine i_bl (pc' := 90) [(.iinc 5 (1), 3)] [some (.ref a0), o1, o2, o3, (ev_kl o4), some (.int (x5 + 1)), some (.int x6), some (.int x7)] [] (by decide +kernel) rfl ?_
  refine i_wb (fun y10 => ev_dn b z 167 90 [some (.ref a0), o1, o2, o3, (ev_kl o4), some (.int y10), some (.int x6), some (.int x7)] [] (nx, mem L nx m9)) (fun y10 => ?_)
  refine i_bl (pc' := 93) [(.iinc 7 (1), 3)] [some (.ref a0), o1, o2, o3, (ev_kl o4), some (.int y10), some (.int x6), some (.int (x7 + 1))] [] (by decide +kernel) rfl ?_
  refine i_wb (fun y11 => ev_dn b z 167 93 [some (.ref a0), o1, o2, o3, (ev_kl o4), some (.int y10), some (.int x6), some (.int y11)] [] (nx, mem L nx m9)) (fun y11 => ?_)
  refine i_go (t := 47) (off := -46) (by decide +kernel) ?_
  exact i_co (o1, o2, o3, (ev_kl o4)) rfl

noncomputable def s_167_47 (a0 : Nat) (x6 : Int32) (x5 : Int32) (x7 : Int32) (m : Mm) : Option ((Int32 × Int32 × Mm) ⊕ ((Int32 × Int32 × Mm) ⊕ ((Int32 ⊕ Nat) × Mm))) := (d_84 (sh_r a0 6) x6 m).bind fun v5 => if v5 ≤ x7 then ((d_167_96 a0 x5 x6 m).map Sum.inr) else ((d_44 (sh_r (sh_r a0 1) 2) x5 m).bind fun v8 => if v8 = true then (d_167_84 a0 x5 x6 x7 a0 46 m) else (d_167_84 a0 x5 x6 x7 a0 42 m))
noncomputable def d_167_47 (a0 : Nat) (x6 : Int32) (x5 : Int32) (x7 : Int32) (m : Mm) : Option ((Int32 × Int32 × Mm) ⊕ ((Int32 ⊕ Nat) × Mm)) := it (fun s => s_167_47 a0 x6 s.1 s.2.1 s.2.2) (x5, x7, m)
theorem e_167_47 (a0 : Nat) (x6 : Int32) (x5 : Int32) (x7 : Int32) (m : Mm) : d_167_47 a0 x6 x5 x7 m = oi (s_167_47 a0 x6 x5 x7 m) (fun s => d_167_47 a0 x6 s.1 s.2.1 s.2.2) := it_eq _
theorem u_167_47 {L nx : Nat} (hN : okn nx) {b z : Nat} {m : Mm} {a0 : Nat} (h0 : ok nx a0 10) {x5 : Int32} {x6 : Int32} {x7 : Int32} {o1 : Option Value} {o2 : Option Value} {o3 : Option Value} {o4 : Option Value} : Im (s_167_47 a0 x6 x5 x7 m) (kL (kL (eI L nx) (E_167_26 L nx b z a0)) (E_167_47 L nx b z a0 x6)) (ev_dn b z 167 47 [some (.ref a0), o1, o2, o3, o4, some (.int x5), some (.int x6), some (.int x7)] [] (nx, mem L nx m)) := by
  unfold s_167_47
  refine i_bl (pc' := 50) [(.iload 7, 2), (.aload_n 0, 1)] [some (.ref a0), o1, o2, o3, o4, some (.int x5), some (.int x6), some (.int x7)] [.ref a0, .int x7] (by decide +kernel) rfl ?_
  refine i_gr (idx := 43) (ci := 10) (k := 6) (t := 2) (p := 12132) (pc' := 53) (by decide +kernel) h0 ?_
  refine i_bl (pc' := 55) [(.iload 6, 2)] [some (.ref a0), o1, o2, o3, o4, some (.int x5), some (.int x6), some (.int x7)] [.int x6, .ref (sh_r a0 6), .int x7] (by decide +kernel) rfl ?_
  refine i_cv (ci := 7) (t := 84) (na := 2) (ml := 2) (idx := 285) (pc' := 58) (st' := [.int x7]) (en := [some (.ref (sh_r a0 6)), some (.int x6)]) (av := [.int x6]) (vo := fun v => some (.int v)) (mo := fun _ => m) (s2 := fun v => .int v :: [.int x7]) (by decide +kernel) (by decide +kernel) (o_10_6 hN h0) ⟨rfl, rfl, rfl, rfl, rfl, rfl⟩ (fun _ => rfl) (t_84 hN (h0 := (o_10_6 hN h0))) (fun v5 => ?_)
  refine i_ic (c := .ge) (off := 38) (t := 96) (pc' := 61) (p := v5 ≤ x7) (by decide +kernel) rfl ?_ ?_
  · exact i_mr (t_167_96 hN (h0 := h0))
  · refine i_bl (pc' := 63) [(.aload_n 0, 1), (.aload_n 0, 1)] [some (.ref a0), o1, o2, o3, o4, some (.int x5), some (.int x6), some (.int x7)] [.ref a0, .ref a0] (by decide +kernel) rfl ?_
    refine i_gr (idx := 19) (ci := 10) (k := 1) (t := 2) (p := 12127) (pc' := 66) (by decide +kernel) h0 ?_
    refine i_gr (idx := 146) (ci := 3) (k := 2) (t := 2) (p := 11180) (pc' := 69) (by decide +kernel) (o_10_1 hN h0) ?_
    refine i_bl (pc' := 71) [(.iload 5, 2)] [some (.ref a0), o1, o2, o3, o4, some (.int x5), some (.int x6), some (.int x7)] [.int x5, .ref (sh_r (sh_r a0 1) 2), .ref a0] (by decide +kernel) rfl ?_
    refine i_cv (ci := 2) (t := 44) (na := 2) (ml := 4) (idx := 270) (pc' := 74) (st' := [.ref a0]) (en := [some (.ref (sh_r (sh_r a0 1) 2)), some (.int x5), none, none]) (av := [.int x5]) (vo := fun v => some (.int (bi v))) (mo := fun _ => m) (s2 := fun v => .int (bi v) :: [.ref a0]) (by decide +kernel) (by decide +kernel) (o_3_2 hN (o_10_1 hN h0)) ⟨rfl, rfl, rfl, rfl, rfl, rfl⟩ (fun _ => rfl) (t_44 hN (h0 := (o_3_2 hN (o_10_1 hN h0)))) (fun v8 => ?_)
    refine i_bz (off := 8) (t := 82) (pc' := 77) (by decide +kernel) ?_ ?_
    · refine i_bl (pc' := 79) [(.bipush (46), 2)] [some (.ref a0), o1, o2, o3, o4, some (.int x5), some (.int x6), some (.int x7)] [.int 46, .ref a0] (by decide +kernel) rfl ?_
      refine i_go (t := 84) (off := 5) (by decide +kernel) ?_
      exact t_167_84 hN (h0 := h0) (hs0 := h0)
    · refine i_bl (pc' := 84) [(.bipush (42), 2)] [some (.ref a0), o1, o2, o3, o4, some (.int x5), some (.int x6), some (.int x7)] [.int 42, .ref a0] (by decide +kernel) rfl ?_
      exact t_167_84 hN (h0 := h0) (hs0 := h0)

theorem t_167_47 {L nx : Nat} (hN : okn nx) {b z : Nat} {m : Mm} {a0 : Nat} (h0 : ok nx a0 10) {x5 : Int32} {x6 : Int32} {x7 : Int32} {o1 : Option Value} {o2 : Option Value} {o3 : Option Value} {o4 : Option Value} : Im (d_167_47 a0 x6 x5 x7 m) (kL (eI L nx) (E_167_26 L nx b z a0)) (ev_dn b z 167 47 [some (.ref a0), o1, o2, o3, o4, some (.int x5), some (.int x6), some (.int x7)] [] (nx, mem L nx m)) := by
  exact i_it (f := fun s => s_167_47 a0 x6 s.1 s.2.1 s.2.2) (E := E_167_47 L nx b z a0 x6) (K := (kL (eI L nx) (E_167_26 L nx b z a0))) (fun d s => u_167_47 hN (h0 := h0)) (o1, o2, o3, o4) (x5, x7, m)
noncomputable def s_167_26 (a0 : Nat) (x5 : Int32) (x6 : Int32) (m : Mm) : Option ((Int32 × Int32 × Mm) ⊕ ((Int32 ⊕ Nat) × Mm)) := if 6 ≤ x6 then ((d_167_114 a0 m).map Sum.inr) else (if x6 ≤ 0 then (d_167_47 a0 x6 x5 0 m) else ((d_171 a0 32 m).bind fun m12 => d_167_47 a0 x6 x5 0 m12))
noncomputable def d_167_26 (a0 : Nat) (x5 : Int32) (x6 : Int32) (m : Mm) : Option ((Int32 ⊕ Nat) × Mm) := it (fun s => s_167_26 a0 s.1 s.2.1 s.2.2) (x5, x6, m)
theorem e_167_26 (a0 : Nat) (x5 : Int32) (x6 : Int32) (m : Mm) : d_167_26 a0 x5 x6 m = oi (s_167_26 a0 x5 x6 m) (fun s => d_167_26 a0 s.1 s.2.1 s.2.2) := it_eq _
theorem u_167_26 {L nx : Nat} (hN : okn nx) {b z : Nat} {m : Mm} {a0 : Nat} (h0 : ok nx a0 10) {x5 : Int32} {x6 : Int32} {o1 : Option Value} {o2 : Option Value} {o3 : Option Value} {o4 : Option Value} {o7 : Option Value} : Im (s_167_26 a0 x5 x6 m) (kL (eI L nx) (E_167_26 L nx b z a0)) (ev_dn b z 167 26 [some (.ref a0), o1, o2, o3, o4, some (.int x5), some (.int x6), o7] [] (nx, mem L nx m)) := by
  unfold s_167_26
  refine i_bl (pc' := 30) [(.iload 6, 2), (.bipush (6), 2)] [some (.ref a0), o1, o2, o3, o4, some (.int x5), some (.int x6), o7] [.int 6, .int x6] (by decide +kernel) rfl ?_
  refine i_ic (c := .ge) (off := 84) (t := 114) (pc' := 33) (p := 6 ≤ x6) (by decide +kernel) rfl ?_ ?_
  · exact i_mr (t_167_114 hN (h0 := h0))
  · refine i_bl (pc' := 35) [(.iload 6, 2)] [some (.ref a0), o1, o2, o3, o4, some (.int x5), some (.int x6), o7] [.int x6] (by decide +kernel) rfl ?_
    refine i_if (c := .le) (off := 9) (t := 44) (pc' := 38) (p := x6 ≤ 0) (by decide +kernel) rfl ?_ ?_
    · refine i_bl (pc' := 47) [(.iconst 0, 1), (.istore 7, 2)] [some (.ref a0), o1, o2, o3, o4, some (.int x5), some (.int x6), some (.int 0)] [] (by decide +kernel) rfl ?_
      exact t_167_47 hN (h0 := h0)
    · refine i_bl (pc' := 41) [(.aload_n 0, 1), (.bipush (32), 2)] [some (.ref a0), o1, o2, o3, o4, some (.int x5), some (.int x6), o7] [.int 32, .ref a0] (by decide +kernel) rfl ?_
      refine i_cv (ci := 10) (t := 171) (na := 2) (ml := 2) (idx := 384) (pc' := 44) (st' := []) (en := [some (.ref a0), some (.int 32)]) (av := [.int 32]) (vo := fun _ => none) (mo := fun m => m) (s2 := fun _ => []) (by decide +kernel) (by decide +kernel) h0 ⟨rfl, rfl, rfl, rfl, rfl, rfl⟩ (fun _ => rfl) (t_171 hN (h0 := h0)) (fun m12 => ?_)
      refine i_bl (pc' := 47) [(.iconst 0, 1), (.istore 7, 2)] [some (.ref a0), o1, o2, o3, o4, some (.int x5), some (.int x6), some (.int 0)] [] (by decide +kernel) rfl ?_
      exact t_167_47 hN (h0 := h0)

theorem t_167_26 {L nx : Nat} (hN : okn nx) {b z : Nat} {m : Mm} {a0 : Nat} (h0 : ok nx a0 10) {x5 : Int32} {x6 : Int32} {o1 : Option Value} {o2 : Option Value} {o3 : Option Value} {o4 : Option Value} {o7 : Option Value} : Im (d_167_26 a0 x5 x6 m) (eI L nx) (ev_dn b z 167 26 [some (.ref a0), o1, o2, o3, o4, some (.int x5), some (.int x6), o7] [] (nx, mem L nx m)) := by
  exact i_it (f := fun s => s_167_26 a0 s.1 s.2.1 s.2.2) (E := E_167_26 L nx b z a0) (K := (eI L nx)) (fun d s => u_167_26 hN (h0 := h0)) (o1, o2, o3, o4, o7) (x5, x6, m)
noncomputable def d_167 (a0 : Nat) (x1 : Int32) (x2 : Int32) (x3 : Int32) (x4 : Int32) (m : Mm) : Option ((Int32 ⊕ Nat) × Mm) := bE (d_147 a0 x1 x2 x3 x4 m) (fun _ m1 => wb (wr m1 a0 10 0) fun m3 => wb (m3 (sh_r a0 1) 5) fun y4 => d_167_26 a0 y4 0 m3) (fun e13 m1 => some (.inr e13, m1))
theorem t_167 {L nx : Nat} (hN : okn nx) {b z : Nat} (hb : 2 ≤ b) (hz : 12 ≤ z) {m : Mm} {a0 : Nat} (h0 : ok nx a0 10) {x1 : Int32} {x2 : Int32} {x3 : Int32} {x4 : Int32}  : Im (d_167 a0 x1 x2 x3 x4 m) (eI L nx) (ev_dn b z 167 0 [some (.ref a0), some (.int x1), some (.int x2), some (.int x3), some (.int x4), none, none, none] [] (nx, mem L nx m)) := by
  unfold d_167
  refine i_bl (pc' := 6) [(.aload_n 0, 1), (.iload_n 1, 1), (.iload_n 2, 1), (.iload_n 3, 1), (.iload 4, 2)] [some (.ref a0), some (.int x1), some (.int x2), some (.int x3), some (.int x4), none, none, none] [.int x4, .int x3, .int x2, .int x1, .ref a0] (by decide +kernel) rfl ?_
  refine i_ev (ci := 10) (t := 147) (na := 5) (ml := 5) (idx := 282) (pc' := 9) (st' := []) (en := [some (.ref a0), some (.int x1), some (.int x2), some (.int x3), some (.int x4)]) (av := [.int x1, .int x2, .int x3, .int x4]) (k1 := 2) (k2 := 12) (vo := fun _ => none) (s2 := fun _ => []) (by decide +kernel) (by decide +kernel) h0 ⟨rfl, rfl, rfl, rfl, rfl, rfl⟩ ⟨by omega, by omega⟩ (fun _ => rfl) (t_147 hN (b := 2) (z := 12) (by decide) (by decide) (h0 := h0)) (fun _ m1 => ?_) (fun e13 m1 => ?_)
  · refine i_bl (pc' := 11) [(.aload_n 0, 1), (.iconst 0, 1)] [some (.ref a0), some (.int x1), some (.int x2), some (.int x3), some (.int x4), none, none, none] [.int 0, .ref a0] (by decide +kernel) rfl ?_
    refine i_pf (x := 0) (idx := 65) (ci := 10) (k := 10) (p := 12136) (pc' := 14) (by decide +kernel) h0 (fun m3 => ?_)
    refine i_bl (pc' := 15) [(.aload_n 0, 1)] [some (.ref a0), some (.int x1), some (.int x2), some (.int x3), some (.int x4), none, none, none] [.ref a0] (by decide +kernel) rfl ?_
    refine i_gr (idx := 19) (ci := 10) (k := 1) (t := 2) (p := 12127) (pc' := 18) (by decide +kernel) h0 ?_
    refine i_gf (idx := 128) (ci := 3) (k := 5) (t := 0) (p := 11186) (pc' := 21) (by decide +kernel) (o_10_1 hN h0) ?_
    refine i_bl (pc' := 23) [(.istore 5, 2)] [some (.ref a0), some (.int x1), some (.int x2), some (.int x3), some (.int x4), some (.int (m3 (sh_r a0 1) 5)), none, none] [] (by decide +kernel) rfl ?_
    refine i_wb (fun y4 => ev_dn (b - 2) (z - 12) 167 23 [some (.ref a0), some (.int x1), some (.int x2), some (.int x3), some (.int x4), some (.int y4), none, none] [] (nx, mem L nx m3)) (fun y4 => ?_)
    refine i_bl (pc' := 26) [(.iconst 0, 1), (.istore 6, 2)] [some (.ref a0), some (.int x1), some (.int x2), some (.int x3), some (.int x4), some (.int y4), some (.int 0), none] [] (by decide +kernel) rfl ?_
    exact t_167_26 hN (h0 := h0)
  · exact i_h0 (by decide +kernel) rfl

/-! 170 LanternChess.writeCell(I)V -/
noncomputable def d_170 (a0 : Nat) (x1 : Int32) (m : Mm) : Option Mm := (d_13 x1).bind fun v1 => (d_171 a0 (((97 + v1).toUInt32 % 65536).toInt32) m).bind fun m2 => (d_14 x1).bind fun v3 => (d_171 a0 (((49 + v3).toUInt32 % 65536).toInt32) m2).bind fun m4 => some m4
theorem t_170 {L nx : Nat} (hN : okn nx) {b z : Nat} {m : Mm} {a0 : Nat} (h0 : ok nx a0 10) {x1 : Int32}  : Im (d_170 a0 x1 m) (wV L nx) (ev_dn b z 170 0 [some (.ref a0), some (.int x1)] [] (nx, mem L nx m)) := by
  unfold d_170
  refine i_bl (pc' := 4) [(.aload_n 0, 1), (.bipush (97), 2), (.iload_n 1, 1)] [some (.ref a0), some (.int x1)] [.int x1, .int 97, .ref a0] (by decide +kernel) rfl ?_
  refine i_cs (t := 13) (na := 1) (ml := 1) (idx := 394) (pc' := 7) (st' := [.int 97, .ref a0]) (en := [some (.int x1)]) (av := [.int x1]) (vo := fun v => some (.int v)) (mo := fun _ => m) (s2 := fun v => .int v :: [.int 97, .ref a0]) (by decide +kernel) ⟨rfl, rfl, rfl, rfl, rfl, rfl⟩ (fun _ => rfl) (t_13 hN ) (fun v1 => ?_)
  refine i_bl (pc' := 9) [(.iadd, 1), (.i2c, 1)] [some (.ref a0), some (.int x1)] [.int (((97 + v1).toUInt32 % 65536).toInt32), .ref a0] (by decide +kernel) rfl ?_
  refine i_cv (ci := 10) (t := 171) (na := 2) (ml := 2) (idx := 384) (pc' := 12) (st' := []) (en := [some (.ref a0), some (.int (((97 + v1).toUInt32 % 65536).toInt32))]) (av := [.int (((97 + v1).toUInt32 % 65536).toInt32)]) (vo := fun _ => none) (mo := fun m => m) (s2 := fun _ => []) (by decide +kernel) (by decide +kernel) h0 ⟨rfl, rfl, rfl, rfl, rfl, rfl⟩ (fun _ => rfl) (t_171 hN (h0 := h0)) (fun m2 => ?_)
  refine i_bl (pc' := 16) [(.aload_n 0, 1), (.bipush (49), 2), (.iload_n 1, 1)] [some (.ref a0), some (.int x1)] [.int x1, .int 49, .ref a0] (by decide +kernel) rfl ?_
  refine i_cs (t := 14) (na := 1) (ml := 1) (idx := 397) (pc' := 19) (st' := [.int 49, .ref a0]) (en := [some (.int x1)]) (av := [.int x1]) (vo := fun v => some (.int v)) (mo := fun _ => m2) (s2 := fun v => .int v :: [.int 49, .ref a0]) (by decide +kernel) ⟨rfl, rfl, rfl, rfl, rfl, rfl⟩ (fun _ => rfl) (t_14 hN ) (fun v3 => ?_)
  refine i_bl (pc' := 21) [(.iadd, 1), (.i2c, 1)] [some (.ref a0), some (.int x1)] [.int (((49 + v3).toUInt32 % 65536).toInt32), .ref a0] (by decide +kernel) rfl ?_
  refine i_cv (ci := 10) (t := 171) (na := 2) (ml := 2) (idx := 384) (pc' := 24) (st' := []) (en := [some (.ref a0), some (.int (((49 + v3).toUInt32 % 65536).toInt32))]) (av := [.int (((49 + v3).toUInt32 % 65536).toInt32)]) (vo := fun _ => none) (mo := fun m => m) (s2 := fun _ => []) (by decide +kernel) (by decide +kernel) h0 ⟨rfl, rfl, rfl, rfl, rfl, rfl⟩ (fun _ => rfl) (t_171 hN (h0 := h0)) (fun m4 => ?_)
  exact i_rv (by decide +kernel) rfl

/-! 169 LanternChess.writeMove(I)V -/
noncomputable def E_169_51 (L nx b z : Nat) (a0 : Nat) (x1 : Int32) (a2 : Nat) (d : Unit) (s : (Int32 × Mm)) : ev_Q := ev_dn b z 169 51 [some (.ref a0), some (.int x1), some (.ref a2), some (.int s.1)] [] (nx, mem L nx s.2)
noncomputable def s_169_51 (a0 : Nat) (x1 : Int32) (a2 : Nat) (x3 : Int32) (m : Mm) : Option ((Int32 × Mm) ⊕ Mm) := (d_72 a2 x1 4 m).bind fun v7 => if v7 ≤ x3 then (some (.inr m)) else ((d_171 a0 63 m).bind fun m8 => wb (x3 + 1) fun y9 => some (.inl (y9, m8)))
noncomputable def d_169_51 (a0 : Nat) (x1 : Int32) (a2 : Nat) (x3 : Int32) (m : Mm) : Option Mm := it (fun s => s_169_51 a0 x1 a2 s.1 s.2) (x3, m)
theorem e_169_51 (a0 : Nat) (x1 : Int32) (a2 : Nat) (x3 : Int32) (m : Mm) : d_169_51 a0 x1 a2 x3 m = oi (s_169_51 a0 x1 a2 x3 m) (fun s => d_169_51 a0 x1 a2 s.1 s.2) := it_eq _
theorem u_169_51 {L nx : Nat} (hN : okn nx) {b z : Nat} {m : Mm} {a0 : Nat} (h0 : ok nx a0 10) {a2 : Nat} (h2 : ok nx a2 5) {x1 : Int32} {x3 : Int32}  : Im (s_169_51 a0 x1 a2 x3 m) (kL (wV L nx) (E_169_51 L nx b z a0 x1 a2)) (ev_dn b z 169 51 [some (.ref a0), some (.int x1), some (.ref a2), some (.int x3)] [] (nx, mem L nx m)) := by
  unfold s_169_51
  refine i_bl (pc' := 55) [(.iload_n 3, 1), (.aload_n 2, 1), (.iload_n 1, 1), (.iconst 4, 1)] [some (.ref a0), some (.int x1), some (.ref a2), some (.int x3)] [.int 4, .int x1, .ref a2, .int x3] (by decide +kernel) rfl ?_
  refine i_cv (ci := 5) (t := 72) (na := 3) (ml := 4) (idx := 318) (pc' := 58) (st' := [.int x3]) (en := [some (.ref a2), some (.int x1), some (.int 4), none]) (av := [.int x1, .int 4]) (vo := fun v => some (.int v)) (mo := fun _ => m) (s2 := fun v => .int v :: [.int x3]) (by decide +kernel) (by decide +kernel) h2 ⟨rfl, rfl, rfl, rfl, rfl, rfl⟩ (fun _ => rfl) (t_72 hN (h0 := h2)) (fun v7 => ?_)
  refine i_ic (c := .ge) (off := 15) (t := 73) (pc' := 61) (p := v7 ≤ x3) (by decide +kernel) rfl ?_ ?_
  · exact i_ir (i_rv (by decide +kernel) rfl)
  · refine i_bl (pc' := 64) [(.aload_n 0, 1), (.bipush (63), 2)] [some (.ref a0), some (.int x1), some (.ref a2), some (.int x3)] [.int 63, .ref a0] (by decide +kernel) rfl ?_
    refine i_cv (ci := 10) (t := 171) (na := 2) (ml := 2) (idx := 384) (pc' := 67) (st' := []) (en := [some (.ref a0), some (.int 63)]) (av := [.int 63]) (vo := fun _ => none) (mo := fun m => m) (s2 := fun _ => []) (by decide +kernel) (by decide +kernel) h0 ⟨rfl, rfl, rfl, rfl, rfl, rfl⟩ (fun _ => rfl) (t_171 hN (h0 := h0)) (fun m8 => ?_)
    refine i_bl (pc' := 70) [(.iinc 3 (1), 3)] [some (.ref a0), some (.int x1), some (.ref a2), some (.int (x3 + 1))] [] (by decide +kernel) rfl ?_
    refine i_wb (fun y9 => ev_dn b z 169 70 [some (.ref a0), some (.int x1), some (.ref a2), some (.int y9)] [] (nx, mem L nx m8)) (fun y9 => ?_)
    refine i_go (t := 51) (off := -19) (by decide +kernel) ?_
    exact i_co () rfl

theorem t_169_51 {L nx : Nat} (hN : okn nx) {b z : Nat} {m : Mm} {a0 : Nat} (h0 : ok nx a0 10) {a2 : Nat} (h2 : ok nx a2 5) {x1 : Int32} {x3 : Int32}  : Im (d_169_51 a0 x1 a2 x3 m) (wV L nx) (ev_dn b z 169 51 [some (.ref a0), some (.int x1), some (.ref a2), some (.int x3)] [] (nx, mem L nx m)) := by
  exact i_it (f := fun s => s_169_51 a0 x1 a2 s.1 s.2) (E := E_169_51 L nx b z a0 x1 a2) (K := (wV L nx)) (fun d s => u_169_51 hN (h0 := h0) (h2 := h2)) () (x3, m)
noncomputable def d_169_36 (a0 : Nat) (x1 : Int32) (a2 : Nat) (s0 : Nat) (s1 : Int32) (m : Mm) : Option Mm := (d_171 s0 s1 m).bind fun m4 => (d_72 a2 x1 2 m4).bind fun v5 => (d_170 a0 v5 m4).bind fun m6 => d_169_51 a0 x1 a2 1 m6
theorem t_169_36 {L nx : Nat} (hN : okn nx) {b z : Nat} {m : Mm} {a0 : Nat} (h0 : ok nx a0 10) {a2 : Nat} (h2 : ok nx a2 5) {s0 : Nat} (hs0 : ok nx s0 10) {x1 : Int32} {s1 : Int32}  : Im (d_169_36 a0 x1 a2 s0 s1 m) (wV L nx) (ev_dn b z 169 36 [some (.ref a0), some (.int x1), some (.ref a2), none] [.int s1, .ref s0] (nx, mem L nx m)) := by
  unfold d_169_36
  refine i_cv (ci := 10) (t := 171) (na := 2) (ml := 2) (idx := 384) (pc' := 39) (st' := []) (en := [some (.ref s0), some (.int s1)]) (av := [.int s1]) (vo := fun _ => none) (mo := fun m => m) (s2 := fun _ => []) (by decide +kernel) (by decide +kernel) hs0 ⟨rfl, rfl, rfl, rfl, rfl, rfl⟩ (fun _ => rfl) (t_171 hN (h0 := hs0)) (fun m4 => ?_)
  refine i_bl (pc' := 43) [(.aload_n 0, 1), (.aload_n 2, 1), (.iload_n 1, 1), (.iconst 2, 1)] [some (.ref a0), some (.int x1), some (.ref a2), none] [.int 2, .int x1, .ref a2, .ref a0] (by decide +kernel) rfl ?_
  refine i_cv (ci := 5) (t := 72) (na := 3) (ml := 4) (idx := 318) (pc' := 46) (st' := [.ref a0]) (en := [some (.ref a2), some (.int x1), some (.int 2), none]) (av := [.int x1, .int 2]) (vo := fun v => some (.int v)) (mo := fun _ => m4) (s2 := fun v => .int v :: [.ref a0]) (by decide +kernel) (by decide +kernel) h2 ⟨rfl, rfl, rfl, rfl, rfl, rfl⟩ (fun _ => rfl) (t_72 hN (h0 := h2)) (fun v5 => ?_)
  refine i_cv (ci := 10) (t := 170) (na := 2) (ml := 2) (idx := 391) (pc' := 49) (st' := []) (en := [some (.ref a0), some (.int v5)]) (av := [.int v5]) (vo := fun _ => none) (mo := fun m => m) (s2 := fun _ => []) (by decide +kernel) (by decide +kernel) h0 ⟨rfl, rfl, rfl, rfl, rfl, rfl⟩ (fun _ => rfl) (t_170 hN (h0 := h0)) (fun m6 => ?_)
  refine i_bl (pc' := 51) [(.iconst 1, 1), (.istore_n 3, 1)] [some (.ref a0), some (.int x1), some (.ref a2), some (.int 1)] [] (by decide +kernel) rfl ?_
  exact t_169_51 hN (h0 := h0) (h2 := h2)

noncomputable def d_169 (a0 : Nat) (x1 : Int32) (m : Mm) : Option Mm := (d_72 (sh_r (sh_r a0 1) 4) x1 1 m).bind fun v1 => (d_170 a0 v1 m).bind fun m2 => (d_72 (sh_r (sh_r a0 1) 4) x1 3 m2).bind fun v3 => if ¬ v3 = (-1) then (d_169_36 a0 x1 (sh_r (sh_r a0 1) 4) a0 120 m2) else (d_169_36 a0 x1 (sh_r (sh_r a0 1) 4) a0 45 m2)
theorem t_169 {L nx : Nat} (hN : okn nx) {b z : Nat} {m : Mm} {a0 : Nat} (h0 : ok nx a0 10) {x1 : Int32}  : Im (d_169 a0 x1 m) (wV L nx) (ev_dn b z 169 0 [some (.ref a0), some (.int x1), none, none] [] (nx, mem L nx m)) := by
  unfold d_169
  refine i_bl (pc' := 1) [(.aload_n 0, 1)] [some (.ref a0), some (.int x1), none, none] [.ref a0] (by decide +kernel) rfl ?_
  refine i_gr (idx := 19) (ci := 10) (k := 1) (t := 2) (p := 12127) (pc' := 4) (by decide +kernel) h0 ?_
  refine i_gr (idx := 161) (ci := 3) (k := 4) (t := 2) (p := 11184) (pc' := 7) (by decide +kernel) (o_10_1 hN h0) ?_
  refine i_bl (pc' := 12) [(.astore_n 2, 1), (.aload_n 0, 1), (.aload_n 2, 1), (.iload_n 1, 1), (.iconst 1, 1)] [some (.ref a0), some (.int x1), some (.ref (sh_r (sh_r a0 1) 4)), none] [.int 1, .int x1, .ref (sh_r (sh_r a0 1) 4), .ref a0] (by decide +kernel) rfl ?_
  refine i_cv (ci := 5) (t := 72) (na := 3) (ml := 4) (idx := 318) (pc' := 15) (st' := [.ref a0]) (en := [some (.ref (sh_r (sh_r a0 1) 4)), some (.int x1), some (.int 1), none]) (av := [.int x1, .int 1]) (vo := fun v => some (.int v)) (mo := fun _ => m) (s2 := fun v => .int v :: [.ref a0]) (by decide +kernel) (by decide +kernel) (o_3_4 hN (o_10_1 hN h0)) ⟨rfl, rfl, rfl, rfl, rfl, rfl⟩ (fun _ => rfl) (t_72 hN (h0 := (o_3_4 hN (o_10_1 hN h0)))) (fun v1 => ?_)
  refine i_cv (ci := 10) (t := 170) (na := 2) (ml := 2) (idx := 391) (pc' := 18) (st' := []) (en := [some (.ref a0), some (.int v1)]) (av := [.int v1]) (vo := fun _ => none) (mo := fun m => m) (s2 := fun _ => []) (by decide +kernel) (by decide +kernel) h0 ⟨rfl, rfl, rfl, rfl, rfl, rfl⟩ (fun _ => rfl) (t_170 hN (h0 := h0)) (fun m2 => ?_)
  refine i_bl (pc' := 22) [(.aload_n 0, 1), (.aload_n 2, 1), (.iload_n 1, 1), (.iconst 3, 1)] [some (.ref a0), some (.int x1), some (.ref (sh_r (sh_r a0 1) 4)), none] [.int 3, .int x1, .ref (sh_r (sh_r a0 1) 4), .ref a0] (by decide +kernel) rfl ?_
  refine i_cv (ci := 5) (t := 72) (na := 3) (ml := 4) (idx := 318) (pc' := 25) (st' := [.ref a0]) (en := [some (.ref (sh_r (sh_r a0 1) 4)), some (.int x1), some (.int 3), none]) (av := [.int x1, .int 3]) (vo := fun v => some (.int v)) (mo := fun _ => m2) (s2 := fun v => .int v :: [.ref a0]) (by decide +kernel) (by decide +kernel) (o_3_4 hN (o_10_1 hN h0)) ⟨rfl, rfl, rfl, rfl, rfl, rfl⟩ (fun _ => rfl) (t_72 hN (h0 := (o_3_4 hN (o_10_1 hN h0)))) (fun v3 => ?_)
  refine i_bl (pc' := 26) [(.iconst (-1), 1)] [some (.ref a0), some (.int x1), some (.ref (sh_r (sh_r a0 1) 4)), none] [.int (-1), .int v3, .ref a0] (by decide +kernel) rfl ?_
  refine i_ic (c := .ne) (off := 8) (t := 34) (pc' := 29) (p := ¬ v3 = (-1)) (by decide +kernel) rfl ?_ ?_
  · refine i_bl (pc' := 36) [(.bipush (120), 2)] [some (.ref a0), some (.int x1), some (.ref (sh_r (sh_r a0 1) 4)), none] [.int 120, .ref a0] (by decide +kernel) rfl ?_
    exact t_169_36 hN (h0 := h0) (h2 := (o_3_4 hN (o_10_1 hN h0))) (hs0 := h0)
  · refine i_bl (pc' := 31) [(.bipush (45), 2)] [some (.ref a0), some (.int x1), some (.ref (sh_r (sh_r a0 1) 4)), none] [.int 45, .ref a0] (by decide +kernel) rfl ?_
    refine i_go (t := 36) (off := 5) (by decide +kernel) ?_
    exact t_169_36 hN (h0 := h0) (h2 := (o_3_4 hN (o_10_1 hN h0))) (hs0 := h0)

/-! 168 LanternChess.printMoves()I -/
noncomputable def E_168_26 (L nx b z : Nat) (a0 : Nat) (d : Unit) (s : (Int32 × Mm)) : ev_Q := ev_dn b z 168 26 [some (.ref a0), some (.int s.1)] [] (nx, mem L nx s.2)
noncomputable def d_168_61 (a0 : Nat) (m : Mm) : Option (Int32 × Mm) := some (m a0 10, m)
theorem t_168_61 {L nx : Nat} (hN : okn nx) {b z : Nat} {m : Mm} {a0 : Nat} (h0 : ok nx a0 10)  {o1 : Option Value} : Im (d_168_61 a0 m) (wI L nx) (ev_dn b z 168 61 [some (.ref a0), o1] [] (nx, mem L nx m)) := by
  unfold d_168_61
  refine i_bl (pc' := 62) [(.aload_n 0, 1)] [some (.ref a0), o1] [.ref a0] (by decide +kernel) rfl ?_
  refine i_gf (idx := 65) (ci := 10) (k := 10) (t := 0) (p := 12136) (pc' := 65) (by decide +kernel) h0 ?_
  exact i_ri (by decide +kernel) rfl

noncomputable def d_168_50 (a0 : Nat) (x1 : Int32) (m : Mm) : Option ((Int32 × Mm) ⊕ (Int32 × Mm)) := (d_169 a0 x1 m).bind fun m2 => wb (x1 + 1) fun y3 => some (.inl (y3, m2))
theorem t_168_50 {L nx : Nat} (hN : okn nx) {b z : Nat} {m : Mm} {a0 : Nat} (h0 : ok nx a0 10) {x1 : Int32}  : Im (d_168_50 a0 x1 m) (kL (wI L nx) (E_168_26 L nx b z a0)) (ev_dn b z 168 50 [some (.ref a0), some (.int x1)] [] (nx, mem L nx m)) := by
  unfold d_168_50
  refine i_bl (pc' := 52) [(.aload_n 0, 1), (.iload_n 1, 1)] [some (.ref a0), some (.int x1)] [.int x1, .ref a0] (by decide +kernel) rfl ?_
  refine i_cv (ci := 10) (t := 169) (na := 2) (ml := 4) (idx := 388) (pc' := 55) (st' := []) (en := [some (.ref a0), some (.int x1), none, none]) (av := [.int x1]) (vo := fun _ => none) (mo := fun m => m) (s2 := fun _ => []) (by decide +kernel) (by decide +kernel) h0 ⟨rfl, rfl, rfl, rfl, rfl, rfl⟩ (fun _ => rfl) (t_169 hN (h0 := h0)) (fun m2 => ?_)
  refine i_bl (pc' := 58) [(.iinc 1 (1), 3)] [some (.ref a0), some (.int (x1 + 1))] [] (by decide +kernel) rfl ?_
  refine i_wb (fun y3 => ev_dn b z 168 58 [some (.ref a0), some (.int y3)] [] (nx, mem L nx m2)) (fun y3 => ?_)
  refine i_go (t := 26) (off := -32) (by decide +kernel) ?_
  exact i_co () rfl

noncomputable def s_168_26 (a0 : Nat) (x1 : Int32) (m : Mm) : Option ((Int32 × Mm) ⊕ (Int32 × Mm)) := if (m (sh_r (sh_r a0 1) 4) 1) ≤ x1 then ((d_168_61 a0 m).map Sum.inr) else (if x1 ≤ 0 then (d_168_50 a0 x1 m) else ((d_171 a0 32 m).bind fun m4 => d_168_50 a0 x1 m4))
noncomputable def d_168_26 (a0 : Nat) (x1 : Int32) (m : Mm) : Option (Int32 × Mm) := it (fun s => s_168_26 a0 s.1 s.2) (x1, m)
theorem e_168_26 (a0 : Nat) (x1 : Int32) (m : Mm) : d_168_26 a0 x1 m = oi (s_168_26 a0 x1 m) (fun s => d_168_26 a0 s.1 s.2) := it_eq _
theorem u_168_26 {L nx : Nat} (hN : okn nx) {b z : Nat} {m : Mm} {a0 : Nat} (h0 : ok nx a0 10) {x1 : Int32}  : Im (s_168_26 a0 x1 m) (kL (wI L nx) (E_168_26 L nx b z a0)) (ev_dn b z 168 26 [some (.ref a0), some (.int x1)] [] (nx, mem L nx m)) := by
  unfold s_168_26
  refine i_bl (pc' := 28) [(.iload_n 1, 1), (.aload_n 0, 1)] [some (.ref a0), some (.int x1)] [.ref a0, .int x1] (by decide +kernel) rfl ?_
  refine i_gr (idx := 19) (ci := 10) (k := 1) (t := 2) (p := 12127) (pc' := 31) (by decide +kernel) h0 ?_
  refine i_gr (idx := 161) (ci := 3) (k := 4) (t := 2) (p := 11184) (pc' := 34) (by decide +kernel) (o_10_1 hN h0) ?_
  refine i_gf (idx := 173) (ci := 5) (k := 1) (t := 0) (p := 11163) (pc' := 37) (by decide +kernel) (o_3_4 hN (o_10_1 hN h0)) ?_
  refine i_ic (c := .ge) (off := 24) (t := 61) (pc' := 40) (p := (m (sh_r (sh_r a0 1) 4) 1) ≤ x1) (by decide +kernel) rfl ?_ ?_
  · exact i_mr (t_168_61 hN (h0 := h0))
  · refine i_bl (pc' := 41) [(.iload_n 1, 1)] [some (.ref a0), some (.int x1)] [.int x1] (by decide +kernel) rfl ?_
    refine i_if (c := .le) (off := 9) (t := 50) (pc' := 44) (p := x1 ≤ 0) (by decide +kernel) rfl ?_ ?_
    · exact t_168_50 hN (h0 := h0)
    · refine i_bl (pc' := 47) [(.aload_n 0, 1), (.bipush (32), 2)] [some (.ref a0), some (.int x1)] [.int 32, .ref a0] (by decide +kernel) rfl ?_
      refine i_cv (ci := 10) (t := 171) (na := 2) (ml := 2) (idx := 384) (pc' := 50) (st' := []) (en := [some (.ref a0), some (.int 32)]) (av := [.int 32]) (vo := fun _ => none) (mo := fun m => m) (s2 := fun _ => []) (by decide +kernel) (by decide +kernel) h0 ⟨rfl, rfl, rfl, rfl, rfl, rfl⟩ (fun _ => rfl) (t_171 hN (h0 := h0)) (fun m4 => ?_)
      exact t_168_50 hN (h0 := h0)

theorem t_168_26 {L nx : Nat} (hN : okn nx) {b z : Nat} {m : Mm} {a0 : Nat} (h0 : ok nx a0 10) {x1 : Int32}  : Im (d_168_26 a0 x1 m) (wI L nx) (ev_dn b z 168 26 [some (.ref a0), some (.int x1)] [] (nx, mem L nx m)) := by
  exact i_it (f := fun s => s_168_26 a0 s.1 s.2) (E := E_168_26 L nx b z a0) (K := (wI L nx)) (fun d s => u_168_26 hN (h0 := h0)) () (x1, m)
noncomputable def d_168 (a0 : Nat) (m : Mm) : Option (Int32 × Mm) := wb (wr m a0 10 0) fun m1 => if ¬ (m1 (sh_r (sh_r a0 1) 4) 1) = 0 then (d_168_26 a0 0 m1) else ((d_171 a0 46 m1).bind fun m5 => d_168_26 a0 0 m5)
theorem t_168 {L nx : Nat} (hN : okn nx) {b z : Nat} {m : Mm} {a0 : Nat} (h0 : ok nx a0 10)   : Im (d_168 a0 m) (wI L nx) (ev_dn b z 168 0 [some (.ref a0), none] [] (nx, mem L nx m)) := by
  unfold d_168
  refine i_bl (pc' := 2) [(.aload_n 0, 1), (.iconst 0, 1)] [some (.ref a0), none] [.int 0, .ref a0] (by decide +kernel) rfl ?_
  refine i_pf (x := 0) (idx := 65) (ci := 10) (k := 10) (p := 12136) (pc' := 5) (by decide +kernel) h0 (fun m1 => ?_)
  refine i_bl (pc' := 6) [(.aload_n 0, 1)] [some (.ref a0), none] [.ref a0] (by decide +kernel) rfl ?_
  refine i_gr (idx := 19) (ci := 10) (k := 1) (t := 2) (p := 12127) (pc' := 9) (by decide +kernel) h0 ?_
  refine i_gr (idx := 161) (ci := 3) (k := 4) (t := 2) (p := 11184) (pc' := 12) (by decide +kernel) (o_10_1 hN h0) ?_
  refine i_gf (idx := 173) (ci := 5) (k := 1) (t := 0) (p := 11163) (pc' := 15) (by decide +kernel) (o_3_4 hN (o_10_1 hN h0)) ?_
  refine i_if (c := .ne) (off := 9) (t := 24) (pc' := 18) (p := ¬ (m1 (sh_r (sh_r a0 1) 4) 1) = 0) (by decide +kernel) rfl ?_ ?_
  · refine i_bl (pc' := 26) [(.iconst 0, 1), (.istore_n 1, 1)] [some (.ref a0), some (.int 0)] [] (by decide +kernel) rfl ?_
    exact t_168_26 hN (h0 := h0)
  · refine i_bl (pc' := 21) [(.aload_n 0, 1), (.bipush (46), 2)] [some (.ref a0), none] [.int 46, .ref a0] (by decide +kernel) rfl ?_
    refine i_cv (ci := 10) (t := 171) (na := 2) (ml := 2) (idx := 384) (pc' := 24) (st' := []) (en := [some (.ref a0), some (.int 46)]) (av := [.int 46]) (vo := fun _ => none) (mo := fun m => m) (s2 := fun _ => []) (by decide +kernel) (by decide +kernel) h0 ⟨rfl, rfl, rfl, rfl, rfl, rfl⟩ (fun _ => rfl) (t_171 hN (h0 := h0)) (fun m5 => ?_)
    refine i_bl (pc' := 26) [(.iconst 0, 1), (.istore_n 1, 1)] [some (.ref a0), some (.int 0)] [] (by decide +kernel) rfl ?_
    exact t_168_26 hN (h0 := h0)

/-! 172 LanternChess.outputByte(I)I -/
noncomputable def d_172 (a0 : Nat) (x1 : Int32) (m : Mm) : Option Int32 := if x1 < 0 then (some (-1)) else (if (m a0 10) ≤ x1 then (some (-1)) else (if x1 < (Int32.ofNat (sh_n (sh_r a0 9))) then (if ev_in x1 (sh_n (sh_r a0 9)) = true then (some (m (sh_r a0 9) (ix x1))) else none) else (some (-1))))
theorem t_172 {L nx : Nat} (hN : okn nx) {b z : Nat} {m : Mm} {a0 : Nat} (h0 : ok nx a0 10) {x1 : Int32}  : Im (d_172 a0 x1 m) (kI L nx m) (ev_dn b z 172 0 [some (.ref a0), some (.int x1)] [] (nx, mem L nx m)) := by
  unfold d_172
  refine i_bl (pc' := 1) [(.iload_n 1, 1)] [some (.ref a0), some (.int x1)] [.int x1] (by decide +kernel) rfl ?_
  refine i_if (c := .lt) (off := 20) (t := 21) (pc' := 4) (p := x1 < 0) (by decide +kernel) rfl ?_ ?_
  · refine i_bl (pc' := 22) [(.iconst (-1), 1)] [some (.ref a0), some (.int x1)] [.int (-1)] (by decide +kernel) rfl ?_
    exact i_ri (by decide +kernel) rfl
  · refine i_bl (pc' := 6) [(.iload_n 1, 1), (.aload_n 0, 1)] [some (.ref a0), some (.int x1)] [.ref a0, .int x1] (by decide +kernel) rfl ?_
    refine i_gf (idx := 65) (ci := 10) (k := 10) (t := 0) (p := 12136) (pc' := 9) (by decide +kernel) h0 ?_
    refine i_ic (c := .ge) (off := 12) (t := 21) (pc' := 12) (p := (m a0 10) ≤ x1) (by decide +kernel) rfl ?_ ?_
    · refine i_bl (pc' := 22) [(.iconst (-1), 1)] [some (.ref a0), some (.int x1)] [.int (-1)] (by decide +kernel) rfl ?_
      exact i_ri (by decide +kernel) rfl
    · refine i_bl (pc' := 14) [(.iload_n 1, 1), (.aload_n 0, 1)] [some (.ref a0), some (.int x1)] [.ref a0, .int x1] (by decide +kernel) rfl ?_
      refine i_gr (idx := 61) (ci := 10) (k := 9) (t := 2) (p := 12135) (pc' := 17) (by decide +kernel) h0 ?_
      refine i_ln (c := 101) (pc' := 18) (by decide +kernel) (o_10_9 hN h0) ?_
      refine i_ic (c := .lt) (off := 5) (t := 23) (pc' := 21) (p := x1 < (Int32.ofNat (sh_n (sh_r a0 9)))) (by decide +kernel) rfl ?_ ?_
      · refine i_bl (pc' := 24) [(.aload_n 0, 1)] [some (.ref a0), some (.int x1)] [.ref a0] (by decide +kernel) rfl ?_
        refine i_gr (idx := 61) (ci := 10) (k := 9) (t := 2) (p := 12135) (pc' := 27) (by decide +kernel) h0 ?_
        refine i_bl (pc' := 28) [(.iload_n 1, 1)] [some (.ref a0), some (.int x1)] [.int x1, .ref (sh_r a0 9)] (by decide +kernel) rfl ?_
        refine i_ba (pc' := 29) (by decide +kernel) (o_10_9 hN h0) ?_
        exact i_ri (by decide +kernel) rfl
      · refine i_bl (pc' := 22) [(.iconst (-1), 1)] [some (.ref a0), some (.int x1)] [.int (-1)] (by decide +kernel) rfl ?_
        exact i_ri (by decide +kernel) rfl

/-! 173 LanternChess.saveState()I -/
noncomputable def d_173 (a0 : Nat) (m : Mm) : Option (Int32 × Mm) := (d_49 (sh_r a0 3) (sh_r a0 1) m).bind fun m1 => wb (wr m1 a0 4 (bi true)) fun m2 => some (m2 (sh_r a0 1) 5, m2)
theorem t_173 {L nx : Nat} (hN : okn nx) {b z : Nat} {m : Mm} {a0 : Nat} (h0 : ok nx a0 10)   : Im (d_173 a0 m) (wI L nx) (ev_dn b z 173 0 [some (.ref a0)] [] (nx, mem L nx m)) := by
  unfold d_173
  refine i_bl (pc' := 1) [(.aload_n 0, 1)] [some (.ref a0)] [.ref a0] (by decide +kernel) rfl ?_
  refine i_gr (idx := 26) (ci := 10) (k := 3) (t := 2) (p := 12129) (pc' := 4) (by decide +kernel) h0 ?_
  refine i_bl (pc' := 5) [(.aload_n 0, 1)] [some (.ref a0)] [.ref a0, .ref (sh_r a0 3)] (by decide +kernel) rfl ?_
  refine i_gr (idx := 19) (ci := 10) (k := 1) (t := 2) (p := 12127) (pc' := 8) (by decide +kernel) h0 ?_
  refine i_cv (ci := 3) (t := 49) (na := 2) (ml := 2) (idx := 100) (pc' := 11) (st' := []) (en := [some (.ref (sh_r a0 3)), some (.ref (sh_r a0 1))]) (av := [.ref (sh_r a0 1)]) (vo := fun _ => none) (mo := fun m => m) (s2 := fun _ => []) (by decide +kernel) (by decide +kernel) (o_10_3 hN h0) ⟨rfl, rfl, rfl, rfl, rfl, rfl⟩ (fun _ => rfl) (t_49 hN (h0 := (o_10_3 hN h0)) (h1 := (o_10_1 hN h0))) (fun m1 => ?_)
  refine i_bl (pc' := 13) [(.aload_n 0, 1), (.iconst 1, 1)] [some (.ref a0)] [.int 1, .ref a0] (by decide +kernel) rfl ?_
  refine i_pz (B := true) (idx := 29) (ci := 10) (k := 4) (p := 12130) (pc' := 16) (by decide +kernel) h0 (fun m2 => ?_)
  refine i_bl (pc' := 17) [(.aload_n 0, 1)] [some (.ref a0)] [.ref a0] (by decide +kernel) rfl ?_
  refine i_gr (idx := 19) (ci := 10) (k := 1) (t := 2) (p := 12127) (pc' := 20) (by decide +kernel) h0 ?_
  refine i_gf (idx := 128) (ci := 3) (k := 5) (t := 0) (p := 11186) (pc' := 23) (by decide +kernel) (o_10_1 hN h0) ?_
  exact i_ri (by decide +kernel) rfl

/-! 174 LanternChess.restoreState()I -/
noncomputable def d_174 (a0 : Nat) (m : Mm) : Option ((Int32 ⊕ Nat) × Mm) := zb (m a0 4) fun B1 => if B1 = true then ((d_49 (sh_r a0 1) (sh_r a0 3) m).bind fun m2 => (d_64 (sh_r a0 5) m2).bind fun m3 => some (.inl (m3 (sh_r a0 1) 5), m3)) else (some (.inr 3, m))
theorem t_174 {L nx : Nat} (hN : okn nx) {b z : Nat} (hb : 1 ≤ b) (hz : 6 ≤ z) {m : Mm} {a0 : Nat} (h0 : ok nx a0 10)   : Im (d_174 a0 m) (eI L nx) (ev_dn b z 174 0 [some (.ref a0)] [] (nx, mem L nx m)) := by
  unfold d_174
  refine i_bl (pc' := 1) [(.aload_n 0, 1)] [some (.ref a0)] [.ref a0] (by decide +kernel) rfl ?_
  refine i_gz (idx := 29) (ci := 10) (k := 4) (t := 1) (p := 12130) (pc' := 4) (by decide +kernel) h0 (fun B1 => ?_)
  refine i_bn (off := 14) (t := 18) (pc' := 7) (by decide +kernel) ?_ ?_
  · refine i_bl (pc' := 19) [(.aload_n 0, 1)] [some (.ref a0)] [.ref a0] (by decide +kernel) rfl ?_
    refine i_gr (idx := 19) (ci := 10) (k := 1) (t := 2) (p := 12127) (pc' := 22) (by decide +kernel) h0 ?_
    refine i_bl (pc' := 23) [(.aload_n 0, 1)] [some (.ref a0)] [.ref a0, .ref (sh_r a0 1)] (by decide +kernel) rfl ?_
    refine i_gr (idx := 26) (ci := 10) (k := 3) (t := 2) (p := 12129) (pc' := 26) (by decide +kernel) h0 ?_
    refine i_cv (ci := 3) (t := 49) (na := 2) (ml := 2) (idx := 100) (pc' := 29) (st' := []) (en := [some (.ref (sh_r a0 1)), some (.ref (sh_r a0 3))]) (av := [.ref (sh_r a0 3)]) (vo := fun _ => none) (mo := fun m => m) (s2 := fun _ => []) (by decide +kernel) (by decide +kernel) (o_10_1 hN h0) ⟨rfl, rfl, rfl, rfl, rfl, rfl⟩ (fun _ => rfl) (t_49 hN (h0 := (o_10_1 hN h0)) (h1 := (o_10_3 hN h0))) (fun m2 => ?_)
    refine i_bl (pc' := 30) [(.aload_n 0, 1)] [some (.ref a0)] [.ref a0] (by decide +kernel) rfl ?_
    refine i_gr (idx := 36) (ci := 10) (k := 5) (t := 2) (p := 12131) (pc' := 33) (by decide +kernel) h0 ?_
    refine i_cv (ci := 4) (t := 64) (na := 1) (ml := 1) (idx := 103) (pc' := 36) (st' := []) (en := [some (.ref (sh_r a0 5))]) (av := []) (vo := fun _ => none) (mo := fun m => m) (s2 := fun _ => []) (by decide +kernel) (by decide +kernel) (o_10_5 hN h0) ⟨rfl, rfl, rfl, rfl, rfl, rfl⟩ (fun _ => rfl) (t_64 hN (h0 := (o_10_5 hN h0))) (fun m3 => ?_)
    refine i_bl (pc' := 37) [(.aload_n 0, 1)] [some (.ref a0)] [.ref a0] (by decide +kernel) rfl ?_
    refine i_gr (idx := 19) (ci := 10) (k := 1) (t := 2) (p := 12127) (pc' := 40) (by decide +kernel) h0 ?_
    refine i_gf (idx := 128) (ci := 3) (k := 5) (t := 0) (p := 11186) (pc' := 43) (by decide +kernel) (o_10_1 hN h0) ?_
    exact i_ri (by decide +kernel) rfl
  · exact i_th (i := .new 366) (k := 3) (by decide +kernel) ⟨by omega, by omega⟩ rfl

/-! 187 LanternChessModel.begins(II)V -/
noncomputable def E_187_2 (L nx b z : Nat) (a0 : Nat) (x1 : Int32) (x2 : Int32) (d : Unit) (s : (Int32 × Mm)) : ev_Q := ev_dn b z 187 2 [some (.ref a0), some (.int x1), some (.int x2), some (.int s.1)] [] (nx, mem L nx s.2)
noncomputable def d_187_22 (a0 : Nat) (x1 : Int32) (x2 : Int32) (m : Mm) : Option Mm := if ev_in 0 (sh_n (sh_r a0 1)) = true then (wb (wr m (sh_r a0 1) (ix 0) x1) fun m1 => if ev_in 1 (sh_n (sh_r a0 1)) = true then (wb (wr m1 (sh_r a0 1) (ix 1) x2) fun m2 => if ev_in 5 (sh_n (sh_r a0 1)) = true then (wb (wr m2 (sh_r a0 1) (ix 5) (2 : Int32)) fun m3 => if ev_in 6 (sh_n (sh_r a0 1)) = true then (wb (wr m3 (sh_r a0 1) (ix 6) (3 : Int32)) fun m4 => if ev_in 7 (sh_n (sh_r a0 1)) = true then (wb (wr m4 (sh_r a0 1) (ix 7) (4 : Int32)) fun m5 => if ev_in 15 (sh_n (sh_r a0 1)) = true then (wb (wr m5 (sh_r a0 1) (ix 15) (1000 : Int32)) fun m6 => if ev_in 16 (sh_n (sh_r a0 1)) = true then (wb (wr m6 (sh_r a0 1) (ix 16) (1000 : Int32)) fun m7 => if ev_in 17 (sh_n (sh_r a0 1)) = true then (wb (wr m7 (sh_r a0 1) (ix 17) ((-1) : Int32)) fun m8 => if ev_in 18 (sh_n (sh_r a0 1)) = true then (wb (wr m8 (sh_r a0 1) (ix 18) ((-1) : Int32)) fun m9 => some m9) else none) else none) else none) else none) else none) else none) else none) else none) else none
theorem t_187_22 {L nx : Nat} (hN : okn nx) {b z : Nat} {m : Mm} {a0 : Nat} (h0 : ok nx a0 11) {x1 : Int32} {x2 : Int32} {o3 : Option Value} : Im (d_187_22 a0 x1 x2 m) (wV L nx) (ev_dn b z 187 22 [some (.ref a0), some (.int x1), some (.int x2), o3] [] (nx, mem L nx m)) := by
  unfold d_187_22
  refine i_bl (pc' := 23) [(.aload_n 0, 1)] [some (.ref a0), some (.int x1), some (.int x2), o3] [.ref a0] (by decide +kernel) rfl ?_
  refine i_gr (idx := 7) (ci := 11) (k := 1) (t := 2) (p := 16234) (pc' := 26) (by decide +kernel) h0 ?_
  refine i_bl (pc' := 28) [(.iconst 0, 1), (.iload_n 1, 1)] [some (.ref a0), some (.int x1), some (.int x2), o3] [.int x1, .int 0, .ref (sh_r a0 1)] (by decide +kernel) rfl ?_
  refine i_as (y := x1) (pc' := 29) (by decide +kernel) (o_11_1 hN h0) (fun m1 => ?_)
  refine i_bl (pc' := 30) [(.aload_n 0, 1)] [some (.ref a0), some (.int x1), some (.int x2), o3] [.ref a0] (by decide +kernel) rfl ?_
  refine i_gr (idx := 7) (ci := 11) (k := 1) (t := 2) (p := 16234) (pc' := 33) (by decide +kernel) h0 ?_
  refine i_bl (pc' := 35) [(.iconst 1, 1), (.iload_n 2, 1)] [some (.ref a0), some (.int x1), some (.int x2), o3] [.int x2, .int 1, .ref (sh_r a0 1)] (by decide +kernel) rfl ?_
  refine i_as (y := x2) (pc' := 36) (by decide +kernel) (o_11_1 hN h0) (fun m2 => ?_)
  refine i_bl (pc' := 37) [(.aload_n 0, 1)] [some (.ref a0), some (.int x1), some (.int x2), o3] [.ref a0] (by decide +kernel) rfl ?_
  refine i_gr (idx := 7) (ci := 11) (k := 1) (t := 2) (p := 16234) (pc' := 40) (by decide +kernel) h0 ?_
  refine i_bl (pc' := 42) [(.iconst 5, 1), (.iconst 2, 1)] [some (.ref a0), some (.int x1), some (.int x2), o3] [.int 2, .int 5, .ref (sh_r a0 1)] (by decide +kernel) rfl ?_
  refine i_as (y := (2 : Int32)) (pc' := 43) (by decide +kernel) (o_11_1 hN h0) (fun m3 => ?_)
  refine i_bl (pc' := 44) [(.aload_n 0, 1)] [some (.ref a0), some (.int x1), some (.int x2), o3] [.ref a0] (by decide +kernel) rfl ?_
  refine i_gr (idx := 7) (ci := 11) (k := 1) (t := 2) (p := 16234) (pc' := 47) (by decide +kernel) h0 ?_
  refine i_bl (pc' := 50) [(.bipush (6), 2), (.iconst 3, 1)] [some (.ref a0), some (.int x1), some (.int x2), o3] [.int 3, .int 6, .ref (sh_r a0 1)] (by decide +kernel) rfl ?_
  refine i_as (y := (3 : Int32)) (pc' := 51) (by decide +kernel) (o_11_1 hN h0) (fun m4 => ?_)
  refine i_bl (pc' := 52) [(.aload_n 0, 1)] [some (.ref a0), some (.int x1), some (.int x2), o3] [.ref a0] (by decide +kernel) rfl ?_
  refine i_gr (idx := 7) (ci := 11) (k := 1) (t := 2) (p := 16234) (pc' := 55) (by decide +kernel) h0 ?_
  refine i_bl (pc' := 58) [(.bipush (7), 2), (.iconst 4, 1)] [some (.ref a0), some (.int x1), some (.int x2), o3] [.int 4, .int 7, .ref (sh_r a0 1)] (by decide +kernel) rfl ?_
  refine i_as (y := (4 : Int32)) (pc' := 59) (by decide +kernel) (o_11_1 hN h0) (fun m5 => ?_)
  refine i_bl (pc' := 60) [(.aload_n 0, 1)] [some (.ref a0), some (.int x1), some (.int x2), o3] [.ref a0] (by decide +kernel) rfl ?_
  refine i_gr (idx := 7) (ci := 11) (k := 1) (t := 2) (p := 16234) (pc' := 63) (by decide +kernel) h0 ?_
  refine i_bl (pc' := 68) [(.bipush (15), 2), (.sipush (1000), 3)] [some (.ref a0), some (.int x1), some (.int x2), o3] [.int 1000, .int 15, .ref (sh_r a0 1)] (by decide +kernel) rfl ?_
  refine i_as (y := (1000 : Int32)) (pc' := 69) (by decide +kernel) (o_11_1 hN h0) (fun m6 => ?_)
  refine i_bl (pc' := 70) [(.aload_n 0, 1)] [some (.ref a0), some (.int x1), some (.int x2), o3] [.ref a0] (by decide +kernel) rfl ?_
  refine i_gr (idx := 7) (ci := 11) (k := 1) (t := 2) (p := 16234) (pc' := 73) (by decide +kernel) h0 ?_
  refine i_bl (pc' := 78) [(.bipush (16), 2), (.sipush (1000), 3)] [some (.ref a0), some (.int x1), some (.int x2), o3] [.int 1000, .int 16, .ref (sh_r a0 1)] (by decide +kernel) rfl ?_
  refine i_as (y := (1000 : Int32)) (pc' := 79) (by decide +kernel) (o_11_1 hN h0) (fun m7 => ?_)
  refine i_bl (pc' := 80) [(.aload_n 0, 1)] [some (.ref a0), some (.int x1), some (.int x2), o3] [.ref a0] (by decide +kernel) rfl ?_
  refine i_gr (idx := 7) (ci := 11) (k := 1) (t := 2) (p := 16234) (pc' := 83) (by decide +kernel) h0 ?_
  refine i_bl (pc' := 86) [(.bipush (17), 2), (.iconst (-1), 1)] [some (.ref a0), some (.int x1), some (.int x2), o3] [.int (-1), .int 17, .ref (sh_r a0 1)] (by decide +kernel) rfl ?_
  refine i_as (y := ((-1) : Int32)) (pc' := 87) (by decide +kernel) (o_11_1 hN h0) (fun m8 => ?_)
  refine i_bl (pc' := 88) [(.aload_n 0, 1)] [some (.ref a0), some (.int x1), some (.int x2), o3] [.ref a0] (by decide +kernel) rfl ?_
  refine i_gr (idx := 7) (ci := 11) (k := 1) (t := 2) (p := 16234) (pc' := 91) (by decide +kernel) h0 ?_
  refine i_bl (pc' := 94) [(.bipush (18), 2), (.iconst (-1), 1)] [some (.ref a0), some (.int x1), some (.int x2), o3] [.int (-1), .int 18, .ref (sh_r a0 1)] (by decide +kernel) rfl ?_
  refine i_as (y := ((-1) : Int32)) (pc' := 95) (by decide +kernel) (o_11_1 hN h0) (fun m9 => ?_)
  exact i_rv (by decide +kernel) rfl

noncomputable def s_187_2 (a0 : Nat) (x1 : Int32) (x2 : Int32) (x3 : Int32) (m : Mm) : Option ((Int32 × Mm) ⊕ Mm) := if 584 ≤ x3 then ((d_187_22 a0 x1 x2 m).map Sum.inr) else (if ev_in x3 (sh_n (sh_r a0 1)) = true then (wb (wr m (sh_r a0 1) (ix x3) (0 : Int32)) fun m10 => wb (x3 + 1) fun y11 => some (.inl (y11, m10))) else none)
noncomputable def d_187_2 (a0 : Nat) (x1 : Int32) (x2 : Int32) (x3 : Int32) (m : Mm) : Option Mm := it (fun s => s_187_2 a0 x1 x2 s.1 s.2) (x3, m)
theorem e_187_2 (a0 : Nat) (x1 : Int32) (x2 : Int32) (x3 : Int32) (m : Mm) : d_187_2 a0 x1 x2 x3 m = oi (s_187_2 a0 x1 x2 x3 m) (fun s => d_187_2 a0 x1 x2 s.1 s.2) := it_eq _
theorem u_187_2 {L nx : Nat} (hN : okn nx) {b z : Nat} {m : Mm} {a0 : Nat} (h0 : ok nx a0 11) {x1 : Int32} {x2 : Int32} {x3 : Int32}  : Im (s_187_2 a0 x1 x2 x3 m) (kL (wV L nx) (E_187_2 L nx b z a0 x1 x2)) (ev_dn b z 187 2 [some (.ref a0), some (.int x1), some (.int x2), some (.int x3)] [] (nx, mem L nx m)) := by
  unfold s_187_2
  refine i_bl (pc' := 6) [(.iload_n 3, 1), (.sipush (584), 3)] [some (.ref a0), some (.int x1), some (.int x2), some (.int x3)] [.int 584, .int x3] (by decide +kernel) rfl ?_
  refine i_ic (c := .ge) (off := 16) (t := 22) (pc' := 9) (p := 584 ≤ x3) (by decide +kernel) rfl ?_ ?_
  · exact i_mr (t_187_22 hN (h0 := h0))
  · refine i_bl (pc' := 10) [(.aload_n 0, 1)] [some (.ref a0), some (.int x1), some (.int x2), some (.int x3)] [.ref a0] (by decide +kernel) rfl ?_
    refine i_gr (idx := 7) (ci := 11) (k := 1) (t := 2) (p := 16234) (pc' := 13) (by decide +kernel) h0 ?_
    refine i_bl (pc' := 15) [(.iload_n 3, 1), (.iconst 0, 1)] [some (.ref a0), some (.int x1), some (.int x2), some (.int x3)] [.int 0, .int x3, .ref (sh_r a0 1)] (by decide +kernel) rfl ?_
    refine i_as (y := (0 : Int32)) (pc' := 16) (by decide +kernel) (o_11_1 hN h0) (fun m10 => ?_)
    refine i_bl (pc' := 19) [(.iinc 3 (1), 3)] [some (.ref a0), some (.int x1), some (.int x2), some (.int (x3 + 1))] [] (by decide +kernel) rfl ?_
    refine i_wb (fun y11 => ev_dn b z 187 19 [some (.ref a0), some (.int x1), some (.int x2), some (.int y11)] [] (nx, mem L nx m10)) (fun y11 => ?_)
    refine i_go (t := 2) (off := -17) (by decide +kernel) ?_
    exact i_co () rfl

theorem t_187_2 {L nx : Nat} (hN : okn nx) {b z : Nat} {m : Mm} {a0 : Nat} (h0 : ok nx a0 11) {x1 : Int32} {x2 : Int32} {x3 : Int32}  : Im (d_187_2 a0 x1 x2 x3 m) (wV L nx) (ev_dn b z 187 2 [some (.ref a0), some (.int x1), some (.int x2), some (.int x3)] [] (nx, mem L nx m)) := by
  exact i_it (f := fun s => s_187_2 a0 x1 x2 s.1 s.2) (E := E_187_2 L nx b z a0 x1 x2) (K := (wV L nx)) (fun d s => u_187_2 hN (h0 := h0)) () (x3, m)
noncomputable def d_187 (a0 : Nat) (x1 : Int32) (x2 : Int32) (m : Mm) : Option Mm := d_187_2 a0 x1 x2 0 m
theorem t_187 {L nx : Nat} (hN : okn nx) {b z : Nat} {m : Mm} {a0 : Nat} (h0 : ok nx a0 11) {x1 : Int32} {x2 : Int32}  : Im (d_187 a0 x1 x2 m) (wV L nx) (ev_dn b z 187 0 [some (.ref a0), some (.int x1), some (.int x2), none] [] (nx, mem L nx m)) := by
  unfold d_187
  refine i_bl (pc' := 2) [(.iconst 0, 1), (.istore_n 3, 1)] [some (.ref a0), some (.int x1), some (.int x2), some (.int 0)] [] (by decide +kernel) rfl ?_
  exact t_187_2 hN (h0 := h0)

/-! 182 LanternChessModel.thrown()I -/
noncomputable def d_182 (a0 : Nat) (m : Mm) : Option Int32 := some (m a0 0)
theorem t_182 {L nx : Nat} (hN : okn nx) {b z : Nat} {m : Mm} {a0 : Nat} (h0 : ok nx a0 11)   : Im (d_182 a0 m) (kI L nx m) (ev_dn b z 182 0 [some (.ref a0)] [] (nx, mem L nx m)) := by
  unfold d_182
  refine i_bl (pc' := 1) [(.aload_n 0, 1)] [some (.ref a0)] [.ref a0] (by decide +kernel) rfl ?_
  refine i_gf (idx := 67) (ci := 11) (k := 0) (t := 0) (p := 16233) (pc' := 4) (by decide +kernel) h0 ?_
  exact i_ri (by decide +kernel) rfl

/-! 183 LanternChessModel.is(Z)Z -/
noncomputable def d_183_10 (x1 : Bool) (s0 : Nat) (s1 : Bool) (m : Mm) : Option (Bool × Mm) := wb (wr m s0 0 (bi s1)) fun m1 => some (x1, m1)
theorem t_183_10 {L nx : Nat} (hN : okn nx) {b z : Nat} {m : Mm} {s0 : Nat} (hs0 : ok nx s0 11) {x1 : Bool} {s1 : Bool} {o0 : Option Value} : Im (d_183_10 x1 s0 s1 m) (wZ L nx) (ev_dn b z 183 10 [o0, some (.int (bi x1))] [.int (bi s1), .ref s0] (nx, mem L nx m)) := by
  unfold d_183_10
  refine i_pf (x := (bi s1)) (idx := 67) (ci := 11) (k := 0) (p := 16233) (pc' := 13) (by decide +kernel) hs0 (fun m1 => ?_)
  refine i_bl (pc' := 14) [(.iload_n 1, 1)] [o0, some (.int (bi x1))] [.int (bi x1)] (by decide +kernel) rfl ?_
  exact i_rz (B := x1) (by decide +kernel) rfl

noncomputable def d_183 (a0 : Nat) (x1 : Bool) (m : Mm) : Option (Bool × Mm) := if x1 = true then (d_183_10 x1 a0 false m) else (d_183_10 x1 a0 true m)
theorem t_183 {L nx : Nat} (hN : okn nx) {b z : Nat} {m : Mm} {a0 : Nat} (h0 : ok nx a0 11) {x1 : Bool}  : Im (d_183 a0 x1 m) (wZ L nx) (ev_dn b z 183 0 [some (.ref a0), some (.int (bi x1))] [] (nx, mem L nx m)) := by
  unfold d_183
  refine i_bl (pc' := 2) [(.aload_n 0, 1), (.iload_n 1, 1)] [some (.ref a0), some (.int (bi x1))] [.int (bi x1), .ref a0] (by decide +kernel) rfl ?_
  refine i_bz (off := 7) (t := 9) (pc' := 5) (by decide +kernel) ?_ ?_
  · refine i_bl (pc' := 6) [(.iconst 0, 1)] [some (.ref a0), some (.int (bi x1))] [.int 0, .ref a0] (by decide +kernel) rfl ?_
    refine i_go (t := 10) (off := 4) (by decide +kernel) ?_
    exact t_183_10 hN (hs0 := h0)
  · refine i_bl (pc' := 10) [(.iconst 1, 1)] [some (.ref a0), some (.int (bi x1))] [.int 1, .ref a0] (by decide +kernel) rfl ?_
    exact t_183_10 hN (hs0 := h0)

/-! 184 LanternChessModel.may(ZI)Z -/
noncomputable def d_184_10 (x1 : Bool) (s0 : Nat) (s1 : Int32) (m : Mm) : Option (Bool × Mm) := wb (wr m s0 0 s1) fun m1 => some (x1, m1)
theorem t_184_10 {L nx : Nat} (hN : okn nx) {b z : Nat} {m : Mm} {s0 : Nat} (hs0 : ok nx s0 11) {x1 : Bool} {s1 : Int32} {o0 : Option Value} {o2 : Option Value} : Im (d_184_10 x1 s0 s1 m) (wZ L nx) (ev_dn b z 184 10 [o0, some (.int (bi x1)), o2] [.int s1, .ref s0] (nx, mem L nx m)) := by
  unfold d_184_10
  refine i_pf (x := s1) (idx := 67) (ci := 11) (k := 0) (p := 16233) (pc' := 13) (by decide +kernel) hs0 (fun m1 => ?_)
  refine i_bl (pc' := 14) [(.iload_n 1, 1)] [o0, some (.int (bi x1)), o2] [.int (bi x1)] (by decide +kernel) rfl ?_
  exact i_rz (B := x1) (by decide +kernel) rfl

noncomputable def d_184 (a0 : Nat) (x1 : Bool) (x2 : Int32) (m : Mm) : Option (Bool × Mm) := if x1 = true then (d_184_10 x1 a0 0 m) else (d_184_10 x1 a0 x2 m)
theorem t_184 {L nx : Nat} (hN : okn nx) {b z : Nat} {m : Mm} {a0 : Nat} (h0 : ok nx a0 11) {x1 : Bool} {x2 : Int32}  : Im (d_184 a0 x1 x2 m) (wZ L nx) (ev_dn b z 184 0 [some (.ref a0), some (.int (bi x1)), some (.int x2)] [] (nx, mem L nx m)) := by
  unfold d_184
  refine i_bl (pc' := 2) [(.aload_n 0, 1), (.iload_n 1, 1)] [some (.ref a0), some (.int (bi x1)), some (.int x2)] [.int (bi x1), .ref a0] (by decide +kernel) rfl ?_
  refine i_bz (off := 7) (t := 9) (pc' := 5) (by decide +kernel) ?_ ?_
  · refine i_bl (pc' := 6) [(.iconst 0, 1)] [some (.ref a0), some (.int (bi x1)), some (.int x2)] [.int 0, .ref a0] (by decide +kernel) rfl ?_
    refine i_go (t := 10) (off := 4) (by decide +kernel) ?_
    exact t_184_10 hN (hs0 := h0)
  · refine i_bl (pc' := 10) [(.iload_n 2, 1)] [some (.ref a0), some (.int (bi x1)), some (.int x2)] [.int x2, .ref a0] (by decide +kernel) rfl ?_
    exact t_184_10 hN (hs0 := h0)

/-! 185 LanternChessModel.isIn(JJJ)Z -/
noncomputable def d_185 (x0 : Int32) (x2 : Int32) (x4 : Int32) : Option Bool := if (ilg x0 x2) < 0 then (some false) else (if 0 < (ilg x0 x4) then (some false) else (some true))
theorem t_185 {L nx : Nat} (hN : okn nx) {b z : Nat} {m : Mm}  {x0 : Int32} {x2 : Int32} {x4 : Int32}  : Im (d_185 x0 x2 x4) (kZ L nx m) (ev_dn b z 185 0 [some (.long x0.toInt64), none, some (.long x2.toInt64), none, some (.long x4.toInt64), none] [] (nx, mem L nx m)) := by
  unfold d_185
  refine i_bl (pc' := 2) [(.lload_n 0, 1), (.lload_n 2, 1)] [some (.long x0.toInt64), none, some (.long x2.toInt64), none, some (.long x4.toInt64), none] [.long x2.toInt64, .long x0.toInt64] (by decide +kernel) rfl ?_
  refine i_lcm (x := x0) (y := x2) (pc' := 3) (by decide +kernel) ?_
  refine i_if (c := .lt) (off := 14) (t := 17) (pc' := 6) (p := (ilg x0 x2) < 0) (by decide +kernel) rfl ?_ ?_
  · refine i_bl (pc' := 18) [(.iconst 0, 1)] [some (.long x0.toInt64), none, some (.long x2.toInt64), none, some (.long x4.toInt64), none] [.int 0] (by decide +kernel) rfl ?_
    exact i_rz (B := false) (by decide +kernel) rfl
  · refine i_bl (pc' := 9) [(.lload_n 0, 1), (.lload 4, 2)] [some (.long x0.toInt64), none, some (.long x2.toInt64), none, some (.long x4.toInt64), none] [.long x4.toInt64, .long x0.toInt64] (by decide +kernel) rfl ?_
    refine i_lcm (x := x0) (y := x4) (pc' := 10) (by decide +kernel) ?_
    refine i_if (c := .gt) (off := 7) (t := 17) (pc' := 13) (p := 0 < (ilg x0 x4)) (by decide +kernel) rfl ?_ ?_
    · refine i_bl (pc' := 18) [(.iconst 0, 1)] [some (.long x0.toInt64), none, some (.long x2.toInt64), none, some (.long x4.toInt64), none] [.int 0] (by decide +kernel) rfl ?_
      exact i_rz (B := false) (by decide +kernel) rfl
    · refine i_bl (pc' := 14) [(.iconst 1, 1)] [some (.long x0.toInt64), none, some (.long x2.toInt64), none, some (.long x4.toInt64), none] [.int 1] (by decide +kernel) rfl ?_
      refine i_go (t := 18) (off := 4) (by decide +kernel) ?_
      exact i_rz (B := true) (by decide +kernel) rfl

/-! 186 LanternChessModel.copies([I[I)V -/
noncomputable def E_186_2 (L nx b z : Nat) (a0 : Nat) (a1 : Nat) (d : Unit) (s : (Int32 × Mm)) : ev_Q := ev_dn b z 186 2 [some (.ref a0), some (.ref a1), some (.int s.1)] [] (nx, mem L nx s.2)
noncomputable def s_186_2 (a0 : Nat) (a1 : Nat) (x2 : Int32) (m : Mm) : Option ((Int32 × Mm) ⊕ Mm) := if 584 ≤ x2 then (some (.inr m)) else (if ev_in x2 (sh_n a0) = true then (if ev_in x2 (sh_n a1) = true then (wb (wr m a1 (ix x2) (m a0 (ix x2))) fun m1 => wb (x2 + 1) fun y2 => some (.inl (y2, m1))) else none) else none)
noncomputable def d_186_2 (a0 : Nat) (a1 : Nat) (x2 : Int32) (m : Mm) : Option Mm := it (fun s => s_186_2 a0 a1 s.1 s.2) (x2, m)
theorem e_186_2 (a0 : Nat) (a1 : Nat) (x2 : Int32) (m : Mm) : d_186_2 a0 a1 x2 m = oi (s_186_2 a0 a1 x2 m) (fun s => d_186_2 a0 a1 s.1 s.2) := it_eq _
theorem u_186_2 {L nx : Nat} (hN : okn nx) {b z : Nat} {m : Mm} {a0 : Nat} (h0 : ok nx a0 100) {a1 : Nat} (h1 : ok nx a1 100) {x2 : Int32}  : Im (s_186_2 a0 a1 x2 m) (kL (wV L nx) (E_186_2 L nx b z a0 a1)) (ev_dn b z 186 2 [some (.ref a0), some (.ref a1), some (.int x2)] [] (nx, mem L nx m)) := by
  unfold s_186_2
  refine i_bl (pc' := 6) [(.iload_n 2, 1), (.sipush (584), 3)] [some (.ref a0), some (.ref a1), some (.int x2)] [.int 584, .int x2] (by decide +kernel) rfl ?_
  refine i_ic (c := .ge) (off := 15) (t := 21) (pc' := 9) (p := 584 ≤ x2) (by decide +kernel) rfl ?_ ?_
  · exact i_ir (i_rv (by decide +kernel) rfl)
  · refine i_bl (pc' := 13) [(.aload_n 1, 1), (.iload_n 2, 1), (.aload_n 0, 1), (.iload_n 2, 1)] [some (.ref a0), some (.ref a1), some (.int x2)] [.int x2, .ref a0, .int x2, .ref a1] (by decide +kernel) rfl ?_
    refine i_al (pc' := 14) (by decide +kernel) h0 ?_
    refine i_as (y := (m a0 (ix x2))) (pc' := 15) (by decide +kernel) h1 (fun m1 => ?_)
    refine i_bl (pc' := 18) [(.iinc 2 (1), 3)] [some (.ref a0), some (.ref a1), some (.int (x2 + 1))] [] (by decide +kernel) rfl ?_
    refine i_wb (fun y2 => ev_dn b z 186 18 [some (.ref a0), some (.ref a1), some (.int y2)] [] (nx, mem L nx m1)) (fun y2 => ?_)
    refine i_go (t := 2) (off := -16) (by decide +kernel) ?_
    exact i_co () rfl

theorem t_186_2 {L nx : Nat} (hN : okn nx) {b z : Nat} {m : Mm} {a0 : Nat} (h0 : ok nx a0 100) {a1 : Nat} (h1 : ok nx a1 100) {x2 : Int32}  : Im (d_186_2 a0 a1 x2 m) (wV L nx) (ev_dn b z 186 2 [some (.ref a0), some (.ref a1), some (.int x2)] [] (nx, mem L nx m)) := by
  exact i_it (f := fun s => s_186_2 a0 a1 s.1 s.2) (E := E_186_2 L nx b z a0 a1) (K := (wV L nx)) (fun d s => u_186_2 hN (h0 := h0) (h1 := h1)) () (x2, m)
noncomputable def d_186 (a0 : Nat) (a1 : Nat) (m : Mm) : Option Mm := d_186_2 a0 a1 0 m
theorem t_186 {L nx : Nat} (hN : okn nx) {b z : Nat} {m : Mm} {a0 : Nat} (h0 : ok nx a0 100) {a1 : Nat} (h1 : ok nx a1 100)   : Im (d_186 a0 a1 m) (wV L nx) (ev_dn b z 186 0 [some (.ref a0), some (.ref a1), none] [] (nx, mem L nx m)) := by
  unfold d_186
  refine i_bl (pc' := 2) [(.iconst 0, 1), (.istore_n 2, 1)] [some (.ref a0), some (.ref a1), some (.int 0)] [] (by decide +kernel) rfl ?_
  exact t_186_2 hN (h0 := h0) (h1 := h1)

/-! 188 LanternChessModel.starts()V -/
noncomputable def d_188 (a0 : Nat) (m : Mm) : Option Mm := (d_186 (sh_r a0 1) (sh_r a0 2) m).bind fun m1 => some m1
theorem t_188 {L nx : Nat} (hN : okn nx) {b z : Nat} {m : Mm} {a0 : Nat} (h0 : ok nx a0 11)   : Im (d_188 a0 m) (wV L nx) (ev_dn b z 188 0 [some (.ref a0)] [] (nx, mem L nx m)) := by
  unfold d_188
  refine i_bl (pc' := 1) [(.aload_n 0, 1)] [some (.ref a0)] [.ref a0] (by decide +kernel) rfl ?_
  refine i_gr (idx := 7) (ci := 11) (k := 1) (t := 2) (p := 16234) (pc' := 4) (by decide +kernel) h0 ?_
  refine i_bl (pc' := 5) [(.aload_n 0, 1)] [some (.ref a0)] [.ref a0, .ref (sh_r a0 1)] (by decide +kernel) rfl ?_
  refine i_gr (idx := 13) (ci := 11) (k := 2) (t := 2) (p := 16235) (pc' := 8) (by decide +kernel) h0 ?_
  refine i_cs (t := 186) (na := 2) (ml := 3) (idx := 70) (pc' := 11) (st' := []) (en := [some (.ref (sh_r a0 1)), some (.ref (sh_r a0 2)), none]) (av := [.ref (sh_r a0 1), .ref (sh_r a0 2)]) (vo := fun _ => none) (mo := fun m => m) (s2 := fun _ => []) (by decide +kernel) ⟨rfl, rfl, rfl, rfl, rfl, rfl⟩ (fun _ => rfl) (t_186 hN (h0 := (o_11_1 hN h0)) (h1 := (o_11_2 hN h0))) (fun m1 => ?_)
  exact i_rv (by decide +kernel) rfl

/-! 189 LanternChessModel.done(I)I -/
noncomputable def E_189_52 (L nx b z : Nat) (a0 : Nat) (x1 : Int32) (d : Unit) (s : (Int32 × Mm)) : ev_Q := ev_dn b z 189 52 [some (.ref a0), some (.int x1), some (.int s.1)] [] (nx, mem L nx s.2)
noncomputable def d_189_86 (a0 : Nat) (x1 : Int32) (m : Mm) : Option (Int32 × Mm) := wb (wr m a0 8 ((m a0 8) + 1)) fun m1 => some (x1, m1)
theorem t_189_86 {L nx : Nat} (hN : okn nx) {b z : Nat} {m : Mm} {a0 : Nat} (h0 : ok nx a0 11) {x1 : Int32} {o2 : Option Value} : Im (d_189_86 a0 x1 m) (wI L nx) (ev_dn b z 189 86 [some (.ref a0), some (.int x1), o2] [] (nx, mem L nx m)) := by
  unfold d_189_86
  refine i_bl (pc' := 88) [(.aload_n 0, 1), (.aload_n 0, 1)] [some (.ref a0), some (.int x1), o2] [.ref a0, .ref a0] (by decide +kernel) rfl ?_
  refine i_gf (idx := 74) (ci := 11) (k := 8) (t := 0) (p := 17001) (pc' := 91) (by decide +kernel) h0 ?_
  refine i_bl (pc' := 93) [(.iconst 1, 1), (.iadd, 1)] [some (.ref a0), some (.int x1), o2] [.int ((m a0 8) + 1), .ref a0] (by decide +kernel) rfl ?_
  refine i_pf (x := ((m a0 8) + 1)) (idx := 74) (ci := 11) (k := 8) (p := 17001) (pc' := 96) (by decide +kernel) h0 (fun m1 => ?_)
  refine i_bl (pc' := 97) [(.iload_n 1, 1)] [some (.ref a0), some (.int x1), o2] [.int x1] (by decide +kernel) rfl ?_
  exact i_ri (by decide +kernel) rfl

noncomputable def s_189_52 (a0 : Nat) (x1 : Int32) (x2 : Int32) (m : Mm) : Option ((Int32 × Mm) ⊕ (Int32 × Mm)) := if 584 ≤ x2 then ((d_189_86 a0 x1 m).map Sum.inr) else (if ev_in x2 (sh_n (sh_r a0 2)) = true then (if ev_in ((584 * (m a0 8)) + x2) (sh_n (sh_r a0 7)) = true then (wb (wr m (sh_r a0 7) (ix ((584 * (m a0 8)) + x2)) (m (sh_r a0 2) (ix x2))) fun m2 => wb (x2 + 1) fun y3 => some (.inl (y3, m2))) else none) else none)
noncomputable def d_189_52 (a0 : Nat) (x1 : Int32) (x2 : Int32) (m : Mm) : Option (Int32 × Mm) := it (fun s => s_189_52 a0 x1 s.1 s.2) (x2, m)
theorem e_189_52 (a0 : Nat) (x1 : Int32) (x2 : Int32) (m : Mm) : d_189_52 a0 x1 x2 m = oi (s_189_52 a0 x1 x2 m) (fun s => d_189_52 a0 x1 s.1 s.2) := it_eq _
theorem u_189_52 {L nx : Nat} (hN : okn nx) {b z : Nat} {m : Mm} {a0 : Nat} (h0 : ok nx a0 11) {x1 : Int32} {x2 : Int32}  : Im (s_189_52 a0 x1 x2 m) (kL (wI L nx) (E_189_52 L nx b z a0 x1)) (ev_dn b z 189 52 [some (.ref a0), some (.int x1), some (.int x2)] [] (nx, mem L nx m)) := by
  unfold s_189_52
  refine i_bl (pc' := 56) [(.iload_n 2, 1), (.sipush (584), 3)] [some (.ref a0), some (.int x1), some (.int x2)] [.int 584, .int x2] (by decide +kernel) rfl ?_
  refine i_ic (c := .ge) (off := 30) (t := 86) (pc' := 59) (p := 584 ≤ x2) (by decide +kernel) rfl ?_ ?_
  · exact i_mr (t_189_86 hN (h0 := h0))
  · refine i_bl (pc' := 60) [(.aload_n 0, 1)] [some (.ref a0), some (.int x1), some (.int x2)] [.ref a0] (by decide +kernel) rfl ?_
    refine i_gr (idx := 28) (ci := 11) (k := 7) (t := 2) (p := 17000) (pc' := 63) (by decide +kernel) h0 ?_
    refine i_bl (pc' := 67) [(.sipush (584), 3), (.aload_n 0, 1)] [some (.ref a0), some (.int x1), some (.int x2)] [.ref a0, .int 584, .ref (sh_r a0 7)] (by decide +kernel) rfl ?_
    refine i_gf (idx := 74) (ci := 11) (k := 8) (t := 0) (p := 17001) (pc' := 70) (by decide +kernel) h0 ?_
    refine i_bl (pc' := 74) [(.imul, 1), (.iload_n 2, 1), (.iadd, 1), (.aload_n 0, 1)] [some (.ref a0), some (.int x1), some (.int x2)] [.ref a0, .int ((584 * (m a0 8)) + x2), .ref (sh_r a0 7)] (by decide +kernel) rfl ?_
    refine i_gr (idx := 13) (ci := 11) (k := 2) (t := 2) (p := 16235) (pc' := 77) (by decide +kernel) h0 ?_
    refine i_bl (pc' := 78) [(.iload_n 2, 1)] [some (.ref a0), some (.int x1), some (.int x2)] [.int x2, .ref (sh_r a0 2), .int ((584 * (m a0 8)) + x2), .ref (sh_r a0 7)] (by decide +kernel) rfl ?_
    refine i_al (pc' := 79) (by decide +kernel) (o_11_2 hN h0) ?_
    refine i_as (y := (m (sh_r a0 2) (ix x2))) (pc' := 80) (by decide +kernel) (o_11_7 hN h0) (fun m2 => ?_)
    refine i_bl (pc' := 83) [(.iinc 2 (1), 3)] [some (.ref a0), some (.int x1), some (.int (x2 + 1))] [] (by decide +kernel) rfl ?_
    refine i_wb (fun y3 => ev_dn b z 189 83 [some (.ref a0), some (.int x1), some (.int y3)] [] (nx, mem L nx m2)) (fun y3 => ?_)
    refine i_go (t := 52) (off := -31) (by decide +kernel) ?_
    exact i_co () rfl

theorem t_189_52 {L nx : Nat} (hN : okn nx) {b z : Nat} {m : Mm} {a0 : Nat} (h0 : ok nx a0 11) {x1 : Int32} {x2 : Int32}  : Im (d_189_52 a0 x1 x2 m) (wI L nx) (ev_dn b z 189 52 [some (.ref a0), some (.int x1), some (.int x2)] [] (nx, mem L nx m)) := by
  exact i_it (f := fun s => s_189_52 a0 x1 s.1 s.2) (E := E_189_52 L nx b z a0 x1) (K := (wI L nx)) (fun d s => u_189_52 hN (h0 := h0)) () (x2, m)
noncomputable def E_189_11 (L nx b z : Nat) (a0 : Nat) (x1 : Int32) (d : Unit) (s : (Int32 × Mm)) : ev_Q := ev_dn b z 189 11 [some (.ref a0), some (.int x1), some (.int s.1)] [] (nx, mem L nx s.2)
noncomputable def d_189_40 (a0 : Nat) (x1 : Int32) (m : Mm) : Option (Int32 × Mm) := wb (wr m a0 8 ((m a0 8) - 1)) fun m4 => d_189_52 a0 x1 0 m4
theorem t_189_40 {L nx : Nat} (hN : okn nx) {b z : Nat} {m : Mm} {a0 : Nat} (h0 : ok nx a0 11) {x1 : Int32} {o2 : Option Value} : Im (d_189_40 a0 x1 m) (wI L nx) (ev_dn b z 189 40 [some (.ref a0), some (.int x1), o2] [] (nx, mem L nx m)) := by
  unfold d_189_40
  refine i_bl (pc' := 42) [(.aload_n 0, 1), (.aload_n 0, 1)] [some (.ref a0), some (.int x1), o2] [.ref a0, .ref a0] (by decide +kernel) rfl ?_
  refine i_gf (idx := 74) (ci := 11) (k := 8) (t := 0) (p := 17001) (pc' := 45) (by decide +kernel) h0 ?_
  refine i_bl (pc' := 47) [(.iconst 1, 1), (.isub, 1)] [some (.ref a0), some (.int x1), o2] [.int ((m a0 8) - 1), .ref a0] (by decide +kernel) rfl ?_
  refine i_pf (x := ((m a0 8) - 1)) (idx := 74) (ci := 11) (k := 8) (p := 17001) (pc' := 50) (by decide +kernel) h0 (fun m4 => ?_)
  refine i_bl (pc' := 52) [(.iconst 0, 1), (.istore_n 2, 1)] [some (.ref a0), some (.int x1), some (.int 0)] [] (by decide +kernel) rfl ?_
  exact t_189_52 hN (h0 := h0)

noncomputable def s_189_11 (a0 : Nat) (x1 : Int32) (x2 : Int32) (m : Mm) : Option ((Int32 × Mm) ⊕ (Int32 × Mm)) := if 4088 ≤ x2 then ((d_189_40 a0 x1 m).map Sum.inr) else (if ev_in (x2 + 584) (sh_n (sh_r a0 7)) = true then (if ev_in x2 (sh_n (sh_r a0 7)) = true then (wb (wr m (sh_r a0 7) (ix x2) (m (sh_r a0 7) (ix (x2 + 584)))) fun m5 => wb (x2 + 1) fun y6 => some (.inl (y6, m5))) else none) else none)
noncomputable def d_189_11 (a0 : Nat) (x1 : Int32) (x2 : Int32) (m : Mm) : Option (Int32 × Mm) := it (fun s => s_189_11 a0 x1 s.1 s.2) (x2, m)
theorem e_189_11 (a0 : Nat) (x1 : Int32) (x2 : Int32) (m : Mm) : d_189_11 a0 x1 x2 m = oi (s_189_11 a0 x1 x2 m) (fun s => d_189_11 a0 x1 s.1 s.2) := it_eq _
theorem u_189_11 {L nx : Nat} (hN : okn nx) {b z : Nat} {m : Mm} {a0 : Nat} (h0 : ok nx a0 11) {x1 : Int32} {x2 : Int32}  : Im (s_189_11 a0 x1 x2 m) (kL (wI L nx) (E_189_11 L nx b z a0 x1)) (ev_dn b z 189 11 [some (.ref a0), some (.int x1), some (.int x2)] [] (nx, mem L nx m)) := by
  unfold s_189_11
  refine i_bl (pc' := 15) [(.iload_n 2, 1), (.sipush (4088), 3)] [some (.ref a0), some (.int x1), some (.int x2)] [.int 4088, .int x2] (by decide +kernel) rfl ?_
  refine i_ic (c := .ge) (off := 25) (t := 40) (pc' := 18) (p := 4088 ≤ x2) (by decide +kernel) rfl ?_ ?_
  · exact i_mr (t_189_40 hN (h0 := h0))
  · refine i_bl (pc' := 19) [(.aload_n 0, 1)] [some (.ref a0), some (.int x1), some (.int x2)] [.ref a0] (by decide +kernel) rfl ?_
    refine i_gr (idx := 28) (ci := 11) (k := 7) (t := 2) (p := 17000) (pc' := 22) (by decide +kernel) h0 ?_
    refine i_bl (pc' := 24) [(.iload_n 2, 1), (.aload_n 0, 1)] [some (.ref a0), some (.int x1), some (.int x2)] [.ref a0, .int x2, .ref (sh_r a0 7)] (by decide +kernel) rfl ?_
    refine i_gr (idx := 28) (ci := 11) (k := 7) (t := 2) (p := 17000) (pc' := 27) (by decide +kernel) h0 ?_
    refine i_bl (pc' := 32) [(.iload_n 2, 1), (.sipush (584), 3), (.iadd, 1)] [some (.ref a0), some (.int x1), some (.int x2)] [.int (x2 + 584), .ref (sh_r a0 7), .int x2, .ref (sh_r a0 7)] (by decide +kernel) rfl ?_
    refine i_al (pc' := 33) (by decide +kernel) (o_11_7 hN h0) ?_
    refine i_as (y := (m (sh_r a0 7) (ix (x2 + 584)))) (pc' := 34) (by decide +kernel) (o_11_7 hN h0) (fun m5 => ?_)
    refine i_bl (pc' := 37) [(.iinc 2 (1), 3)] [some (.ref a0), some (.int x1), some (.int (x2 + 1))] [] (by decide +kernel) rfl ?_
    refine i_wb (fun y6 => ev_dn b z 189 37 [some (.ref a0), some (.int x1), some (.int y6)] [] (nx, mem L nx m5)) (fun y6 => ?_)
    refine i_go (t := 11) (off := -26) (by decide +kernel) ?_
    exact i_co () rfl

theorem t_189_11 {L nx : Nat} (hN : okn nx) {b z : Nat} {m : Mm} {a0 : Nat} (h0 : ok nx a0 11) {x1 : Int32} {x2 : Int32}  : Im (d_189_11 a0 x1 x2 m) (wI L nx) (ev_dn b z 189 11 [some (.ref a0), some (.int x1), some (.int x2)] [] (nx, mem L nx m)) := by
  exact i_it (f := fun s => s_189_11 a0 x1 s.1 s.2) (E := E_189_11 L nx b z a0 x1) (K := (wI L nx)) (fun d s => u_189_11 hN (h0 := h0)) () (x2, m)
noncomputable def d_189 (a0 : Nat) (x1 : Int32) (m : Mm) : Option (Int32 × Mm) := if ¬ (m a0 8) = 8 then (d_189_52 a0 x1 0 m) else (d_189_11 a0 x1 0 m)
theorem t_189 {L nx : Nat} (hN : okn nx) {b z : Nat} {m : Mm} {a0 : Nat} (h0 : ok nx a0 11) {x1 : Int32}  : Im (d_189 a0 x1 m) (wI L nx) (ev_dn b z 189 0 [some (.ref a0), some (.int x1), none] [] (nx, mem L nx m)) := by
  unfold d_189
  refine i_bl (pc' := 1) [(.aload_n 0, 1)] [some (.ref a0), some (.int x1), none] [.ref a0] (by decide +kernel) rfl ?_
  refine i_gf (idx := 74) (ci := 11) (k := 8) (t := 0) (p := 17001) (pc' := 4) (by decide +kernel) h0 ?_
  refine i_bl (pc' := 6) [(.bipush (8), 2)] [some (.ref a0), some (.int x1), none] [.int 8, .int (m a0 8)] (by decide +kernel) rfl ?_
  refine i_ic (c := .ne) (off := 44) (t := 50) (pc' := 9) (p := ¬ (m a0 8) = 8) (by decide +kernel) rfl ?_ ?_
  · refine i_bl (pc' := 52) [(.iconst 0, 1), (.istore_n 2, 1)] [some (.ref a0), some (.int x1), some (.int 0)] [] (by decide +kernel) rfl ?_
    exact t_189_52 hN (h0 := h0)
  · refine i_bl (pc' := 11) [(.iconst 0, 1), (.istore_n 2, 1)] [some (.ref a0), some (.int x1), some (.int 0)] [] (by decide +kernel) rfl ?_
    exact t_189_11 hN (h0 := h0)

/-! 190 LanternChessModel.undo()I -/
noncomputable def E_190_33 (L nx b z : Nat) (a0 : Nat) (d : Unit) (s : (Int32 × Mm)) : ev_Q := ev_dn b z 190 33 [some (.ref a0), some (.int s.1)] [] (nx, mem L nx s.2)
noncomputable def d_190_67 (a0 : Nat) (m : Mm) : Option (Int32 × Mm) := some (m a0 8, m)
theorem t_190_67 {L nx : Nat} (hN : okn nx) {b z : Nat} {m : Mm} {a0 : Nat} (h0 : ok nx a0 11)  {o1 : Option Value} : Im (d_190_67 a0 m) (wI L nx) (ev_dn b z 190 67 [some (.ref a0), o1] [] (nx, mem L nx m)) := by
  unfold d_190_67
  refine i_bl (pc' := 68) [(.aload_n 0, 1)] [some (.ref a0), o1] [.ref a0] (by decide +kernel) rfl ?_
  refine i_gf (idx := 74) (ci := 11) (k := 8) (t := 0) (p := 17001) (pc' := 71) (by decide +kernel) h0 ?_
  exact i_ri (by decide +kernel) rfl

noncomputable def s_190_33 (a0 : Nat) (x1 : Int32) (m : Mm) : Option ((Int32 × Mm) ⊕ (Int32 × Mm)) := if 584 ≤ x1 then ((d_190_67 a0 m).map Sum.inr) else (if ev_in ((584 * (m a0 8)) + x1) (sh_n (sh_r a0 7)) = true then (if ev_in x1 (sh_n (sh_r a0 1)) = true then (wb (wr m (sh_r a0 1) (ix x1) (m (sh_r a0 7) (ix ((584 * (m a0 8)) + x1)))) fun m3 => wb (x1 + 1) fun y4 => some (.inl (y4, m3))) else none) else none)
noncomputable def d_190_33 (a0 : Nat) (x1 : Int32) (m : Mm) : Option (Int32 × Mm) := it (fun s => s_190_33 a0 s.1 s.2) (x1, m)
theorem e_190_33 (a0 : Nat) (x1 : Int32) (m : Mm) : d_190_33 a0 x1 m = oi (s_190_33 a0 x1 m) (fun s => d_190_33 a0 s.1 s.2) := it_eq _
theorem u_190_33 {L nx : Nat} (hN : okn nx) {b z : Nat} {m : Mm} {a0 : Nat} (h0 : ok nx a0 11) {x1 : Int32}  : Im (s_190_33 a0 x1 m) (kL (wI L nx) (E_190_33 L nx b z a0)) (ev_dn b z 190 33 [some (.ref a0), some (.int x1)] [] (nx, mem L nx m)) := by
  unfold s_190_33
  refine i_bl (pc' := 37) [(.iload_n 1, 1), (.sipush (584), 3)] [some (.ref a0), some (.int x1)] [.int 584, .int x1] (by decide +kernel) rfl ?_
  refine i_ic (c := .ge) (off := 30) (t := 67) (pc' := 40) (p := 584 ≤ x1) (by decide +kernel) rfl ?_ ?_
  · exact i_mr (t_190_67 hN (h0 := h0))
  · refine i_bl (pc' := 41) [(.aload_n 0, 1)] [some (.ref a0), some (.int x1)] [.ref a0] (by decide +kernel) rfl ?_
    refine i_gr (idx := 7) (ci := 11) (k := 1) (t := 2) (p := 16234) (pc' := 44) (by decide +kernel) h0 ?_
    refine i_bl (pc' := 46) [(.iload_n 1, 1), (.aload_n 0, 1)] [some (.ref a0), some (.int x1)] [.ref a0, .int x1, .ref (sh_r a0 1)] (by decide +kernel) rfl ?_
    refine i_gr (idx := 28) (ci := 11) (k := 7) (t := 2) (p := 17000) (pc' := 49) (by decide +kernel) h0 ?_
    refine i_bl (pc' := 53) [(.sipush (584), 3), (.aload_n 0, 1)] [some (.ref a0), some (.int x1)] [.ref a0, .int 584, .ref (sh_r a0 7), .int x1, .ref (sh_r a0 1)] (by decide +kernel) rfl ?_
    refine i_gf (idx := 74) (ci := 11) (k := 8) (t := 0) (p := 17001) (pc' := 56) (by decide +kernel) h0 ?_
    refine i_bl (pc' := 59) [(.imul, 1), (.iload_n 1, 1), (.iadd, 1)] [some (.ref a0), some (.int x1)] [.int ((584 * (m a0 8)) + x1), .ref (sh_r a0 7), .int x1, .ref (sh_r a0 1)] (by decide +kernel) rfl ?_
    refine i_al (pc' := 60) (by decide +kernel) (o_11_7 hN h0) ?_
    refine i_as (y := (m (sh_r a0 7) (ix ((584 * (m a0 8)) + x1)))) (pc' := 61) (by decide +kernel) (o_11_1 hN h0) (fun m3 => ?_)
    refine i_bl (pc' := 64) [(.iinc 1 (1), 3)] [some (.ref a0), some (.int (x1 + 1))] [] (by decide +kernel) rfl ?_
    refine i_wb (fun y4 => ev_dn b z 190 64 [some (.ref a0), some (.int y4)] [] (nx, mem L nx m3)) (fun y4 => ?_)
    refine i_go (t := 33) (off := -31) (by decide +kernel) ?_
    exact i_co () rfl

theorem t_190_33 {L nx : Nat} (hN : okn nx) {b z : Nat} {m : Mm} {a0 : Nat} (h0 : ok nx a0 11) {x1 : Int32}  : Im (d_190_33 a0 x1 m) (wI L nx) (ev_dn b z 190 33 [some (.ref a0), some (.int x1)] [] (nx, mem L nx m)) := by
  exact i_it (f := fun s => s_190_33 a0 s.1 s.2) (E := E_190_33 L nx b z a0) (K := (wI L nx)) (fun d s => u_190_33 hN (h0 := h0)) () (x1, m)
noncomputable def d_190_13 (a0 : Nat) (s0 : Nat) (s1 : Bool) (m : Mm) : Option (Int32 × Mm) := (d_183 s0 s1 m).bind fun r1 => if r1.1 = true then (wb (wr r1.2 a0 8 ((r1.2 a0 8) - 1)) fun m2 => d_190_33 a0 0 m2) else (some (0, r1.2))
theorem t_190_13 {L nx : Nat} (hN : okn nx) {b z : Nat} {m : Mm} {a0 : Nat} (h0 : ok nx a0 11) {s0 : Nat} (hs0 : ok nx s0 11) {s1 : Bool}  : Im (d_190_13 a0 s0 s1 m) (wI L nx) (ev_dn b z 190 13 [some (.ref a0), none] [.int (bi s1), .ref s0] (nx, mem L nx m)) := by
  unfold d_190_13
  refine i_cv (ci := 11) (t := 183) (na := 2) (ml := 2) (idx := 77) (pc' := 16) (st' := []) (en := [some (.ref s0), some (.int (bi s1))]) (av := [.int (bi s1)]) (vo := fun v => some (.int (bi v.1))) (mo := fun v => v.2) (s2 := fun v => .int (bi v.1) :: []) (by decide +kernel) (by decide +kernel) hs0 ⟨rfl, rfl, rfl, rfl, rfl, rfl⟩ (fun _ => rfl) (t_183 hN (h0 := hs0)) (fun r1 => ?_)
  refine i_bn (off := 5) (t := 21) (pc' := 19) (by decide +kernel) ?_ ?_
  · refine i_bl (pc' := 23) [(.aload_n 0, 1), (.aload_n 0, 1)] [some (.ref a0), none] [.ref a0, .ref a0] (by decide +kernel) rfl ?_
    refine i_gf (idx := 74) (ci := 11) (k := 8) (t := 0) (p := 17001) (pc' := 26) (by decide +kernel) h0 ?_
    refine i_bl (pc' := 28) [(.iconst 1, 1), (.isub, 1)] [some (.ref a0), none] [.int ((r1.2 a0 8) - 1), .ref a0] (by decide +kernel) rfl ?_
    refine i_pf (x := ((r1.2 a0 8) - 1)) (idx := 74) (ci := 11) (k := 8) (p := 17001) (pc' := 31) (by decide +kernel) h0 (fun m2 => ?_)
    refine i_bl (pc' := 33) [(.iconst 0, 1), (.istore_n 1, 1)] [some (.ref a0), some (.int 0)] [] (by decide +kernel) rfl ?_
    exact t_190_33 hN (h0 := h0)
  · refine i_bl (pc' := 20) [(.iconst 0, 1)] [some (.ref a0), none] [.int 0] (by decide +kernel) rfl ?_
    exact i_ri (by decide +kernel) rfl

noncomputable def d_190 (a0 : Nat) (m : Mm) : Option (Int32 × Mm) := if (m a0 8) ≤ 0 then (d_190_13 a0 a0 false m) else (d_190_13 a0 a0 true m)
theorem t_190 {L nx : Nat} (hN : okn nx) {b z : Nat} {m : Mm} {a0 : Nat} (h0 : ok nx a0 11)   : Im (d_190 a0 m) (wI L nx) (ev_dn b z 190 0 [some (.ref a0), none] [] (nx, mem L nx m)) := by
  unfold d_190
  refine i_bl (pc' := 2) [(.aload_n 0, 1), (.aload_n 0, 1)] [some (.ref a0), none] [.ref a0, .ref a0] (by decide +kernel) rfl ?_
  refine i_gf (idx := 74) (ci := 11) (k := 8) (t := 0) (p := 17001) (pc' := 5) (by decide +kernel) h0 ?_
  refine i_if (c := .le) (off := 7) (t := 12) (pc' := 8) (p := (m a0 8) ≤ 0) (by decide +kernel) rfl ?_ ?_
  · refine i_bl (pc' := 13) [(.iconst 0, 1)] [some (.ref a0), none] [.int 0, .ref a0] (by decide +kernel) rfl ?_
    exact t_190_13 hN (h0 := h0) (hs0 := h0)
  · refine i_bl (pc' := 9) [(.iconst 1, 1)] [some (.ref a0), none] [.int 1, .ref a0] (by decide +kernel) rfl ?_
    refine i_go (t := 13) (off := 4) (by decide +kernel) ?_
    exact t_190_13 hN (h0 := h0) (hs0 := h0)

/-! 191 LanternChessModel.saveState()I -/
noncomputable def d_191 (a0 : Nat) (m : Mm) : Option (Int32 × Mm) := wb (wr m a0 0 0) fun m1 => (d_186 (sh_r a0 1) (sh_r a0 6) m1).bind fun m2 => wb (wr m2 a0 9 (bi true)) fun m3 => if ev_in 2 (sh_n (sh_r a0 1)) = true then (some (m3 (sh_r a0 1) (ix 2), m3)) else none
theorem t_191 {L nx : Nat} (hN : okn nx) {b z : Nat} {m : Mm} {a0 : Nat} (h0 : ok nx a0 11)   : Im (d_191 a0 m) (wI L nx) (ev_dn b z 191 0 [some (.ref a0)] [] (nx, mem L nx m)) := by
  unfold d_191
  refine i_bl (pc' := 2) [(.aload_n 0, 1), (.iconst 0, 1)] [some (.ref a0)] [.int 0, .ref a0] (by decide +kernel) rfl ?_
  refine i_pf (x := 0) (idx := 67) (ci := 11) (k := 0) (p := 16233) (pc' := 5) (by decide +kernel) h0 (fun m1 => ?_)
  refine i_bl (pc' := 6) [(.aload_n 0, 1)] [some (.ref a0)] [.ref a0] (by decide +kernel) rfl ?_
  refine i_gr (idx := 7) (ci := 11) (k := 1) (t := 2) (p := 16234) (pc' := 9) (by decide +kernel) h0 ?_
  refine i_bl (pc' := 10) [(.aload_n 0, 1)] [some (.ref a0)] [.ref a0, .ref (sh_r a0 1)] (by decide +kernel) rfl ?_
  refine i_gr (idx := 25) (ci := 11) (k := 6) (t := 2) (p := 16239) (pc' := 13) (by decide +kernel) h0 ?_
  refine i_cs (t := 186) (na := 2) (ml := 3) (idx := 70) (pc' := 16) (st' := []) (en := [some (.ref (sh_r a0 1)), some (.ref (sh_r a0 6)), none]) (av := [.ref (sh_r a0 1), .ref (sh_r a0 6)]) (vo := fun _ => none) (mo := fun m => m) (s2 := fun _ => []) (by decide +kernel) ⟨rfl, rfl, rfl, rfl, rfl, rfl⟩ (fun _ => rfl) (t_186 hN (h0 := (o_11_1 hN h0)) (h1 := (o_11_6 hN h0))) (fun m2 => ?_)
  refine i_bl (pc' := 18) [(.aload_n 0, 1), (.iconst 1, 1)] [some (.ref a0)] [.int 1, .ref a0] (by decide +kernel) rfl ?_
  refine i_pz (B := true) (idx := 81) (ci := 11) (k := 9) (p := 17002) (pc' := 21) (by decide +kernel) h0 (fun m3 => ?_)
  refine i_bl (pc' := 22) [(.aload_n 0, 1)] [some (.ref a0)] [.ref a0] (by decide +kernel) rfl ?_
  refine i_gr (idx := 7) (ci := 11) (k := 1) (t := 2) (p := 16234) (pc' := 25) (by decide +kernel) h0 ?_
  refine i_bl (pc' := 26) [(.iconst 2, 1)] [some (.ref a0)] [.int 2, .ref (sh_r a0 1)] (by decide +kernel) rfl ?_
  refine i_al (pc' := 27) (by decide +kernel) (o_11_1 hN h0) ?_
  exact i_ri (by decide +kernel) rfl

/-! 192 LanternChessModel.restoreState()I -/
noncomputable def d_192 (a0 : Nat) (m : Mm) : Option (Int32 × Mm) := zb (m a0 9) fun B1 => (d_183 a0 B1 m).bind fun r2 => if r2.1 = true then ((d_186 (sh_r a0 6) (sh_r a0 1) r2.2).bind fun m3 => wb (wr m3 a0 8 0) fun m4 => if ev_in 2 (sh_n (sh_r a0 1)) = true then (some (m4 (sh_r a0 1) (ix 2), m4)) else none) else (some (0, r2.2))
theorem t_192 {L nx : Nat} (hN : okn nx) {b z : Nat} {m : Mm} {a0 : Nat} (h0 : ok nx a0 11)   : Im (d_192 a0 m) (wI L nx) (ev_dn b z 192 0 [some (.ref a0)] [] (nx, mem L nx m)) := by
  unfold d_192
  refine i_bl (pc' := 2) [(.aload_n 0, 1), (.aload_n 0, 1)] [some (.ref a0)] [.ref a0, .ref a0] (by decide +kernel) rfl ?_
  refine i_gz (idx := 81) (ci := 11) (k := 9) (t := 1) (p := 17002) (pc' := 5) (by decide +kernel) h0 (fun B1 => ?_)
  refine i_cv (ci := 11) (t := 183) (na := 2) (ml := 2) (idx := 77) (pc' := 8) (st' := []) (en := [some (.ref a0), some (.int (bi B1))]) (av := [.int (bi B1)]) (vo := fun v => some (.int (bi v.1))) (mo := fun v => v.2) (s2 := fun v => .int (bi v.1) :: []) (by decide +kernel) (by decide +kernel) h0 ⟨rfl, rfl, rfl, rfl, rfl, rfl⟩ (fun _ => rfl) (t_183 hN (h0 := h0)) (fun r2 => ?_)
  refine i_bn (off := 5) (t := 13) (pc' := 11) (by decide +kernel) ?_ ?_
  · refine i_bl (pc' := 14) [(.aload_n 0, 1)] [some (.ref a0)] [.ref a0] (by decide +kernel) rfl ?_
    refine i_gr (idx := 25) (ci := 11) (k := 6) (t := 2) (p := 16239) (pc' := 17) (by decide +kernel) h0 ?_
    refine i_bl (pc' := 18) [(.aload_n 0, 1)] [some (.ref a0)] [.ref a0, .ref (sh_r a0 6)] (by decide +kernel) rfl ?_
    refine i_gr (idx := 7) (ci := 11) (k := 1) (t := 2) (p := 16234) (pc' := 21) (by decide +kernel) h0 ?_
    refine i_cs (t := 186) (na := 2) (ml := 3) (idx := 70) (pc' := 24) (st' := []) (en := [some (.ref (sh_r a0 6)), some (.ref (sh_r a0 1)), none]) (av := [.ref (sh_r a0 6), .ref (sh_r a0 1)]) (vo := fun _ => none) (mo := fun m => m) (s2 := fun _ => []) (by decide +kernel) ⟨rfl, rfl, rfl, rfl, rfl, rfl⟩ (fun _ => rfl) (t_186 hN (h0 := (o_11_6 hN h0)) (h1 := (o_11_1 hN h0))) (fun m3 => ?_)
    refine i_bl (pc' := 26) [(.aload_n 0, 1), (.iconst 0, 1)] [some (.ref a0)] [.int 0, .ref a0] (by decide +kernel) rfl ?_
    refine i_pf (x := 0) (idx := 74) (ci := 11) (k := 8) (p := 17001) (pc' := 29) (by decide +kernel) h0 (fun m4 => ?_)
    refine i_bl (pc' := 30) [(.aload_n 0, 1)] [some (.ref a0)] [.ref a0] (by decide +kernel) rfl ?_
    refine i_gr (idx := 7) (ci := 11) (k := 1) (t := 2) (p := 16234) (pc' := 33) (by decide +kernel) h0 ?_
    refine i_bl (pc' := 34) [(.iconst 2, 1)] [some (.ref a0)] [.int 2, .ref (sh_r a0 1)] (by decide +kernel) rfl ?_
    refine i_al (pc' := 35) (by decide +kernel) (o_11_1 hN h0) ?_
    exact i_ri (by decide +kernel) rfl
  · refine i_bl (pc' := 12) [(.iconst 0, 1)] [some (.ref a0)] [.int 0] (by decide +kernel) rfl ?_
    exact i_ri (by decide +kernel) rfl

/-! 193 LanternChessModel.cells()I -/
noncomputable def d_193 (a0 : Nat) (m : Mm) : Option Int32 := if ev_in 0 (sh_n (sh_r a0 1)) = true then (if ev_in 1 (sh_n (sh_r a0 1)) = true then (some ((m (sh_r a0 1) (ix 0)) * (m (sh_r a0 1) (ix 1)))) else none) else none
theorem t_193 {L nx : Nat} (hN : okn nx) {b z : Nat} {m : Mm} {a0 : Nat} (h0 : ok nx a0 11)   : Im (d_193 a0 m) (kI L nx m) (ev_dn b z 193 0 [some (.ref a0)] [] (nx, mem L nx m)) := by
  unfold d_193
  refine i_bl (pc' := 1) [(.aload_n 0, 1)] [some (.ref a0)] [.ref a0] (by decide +kernel) rfl ?_
  refine i_gr (idx := 7) (ci := 11) (k := 1) (t := 2) (p := 16234) (pc' := 4) (by decide +kernel) h0 ?_
  refine i_bl (pc' := 5) [(.iconst 0, 1)] [some (.ref a0)] [.int 0, .ref (sh_r a0 1)] (by decide +kernel) rfl ?_
  refine i_al (pc' := 6) (by decide +kernel) (o_11_1 hN h0) ?_
  refine i_bl (pc' := 7) [(.aload_n 0, 1)] [some (.ref a0)] [.ref a0, .int (m (sh_r a0 1) (ix 0))] (by decide +kernel) rfl ?_
  refine i_gr (idx := 7) (ci := 11) (k := 1) (t := 2) (p := 16234) (pc' := 10) (by decide +kernel) h0 ?_
  refine i_bl (pc' := 11) [(.iconst 1, 1)] [some (.ref a0)] [.int 1, .ref (sh_r a0 1), .int (m (sh_r a0 1) (ix 0))] (by decide +kernel) rfl ?_
  refine i_al (pc' := 12) (by decide +kernel) (o_11_1 hN h0) ?_
  refine i_bl (pc' := 13) [(.imul, 1)] [some (.ref a0)] [.int ((m (sh_r a0 1) (ix 0)) * (m (sh_r a0 1) (ix 1)))] (by decide +kernel) rfl ?_
  exact i_ri (by decide +kernel) rfl

/-! 194 LanternChessModel.boardAt(I)I -/
noncomputable def d_194 (x0 : Int32) : Option Int32 := some (24 + (64 * x0))
theorem t_194 {L nx : Nat} (hN : okn nx) {b z : Nat} {m : Mm}  {x0 : Int32}  : Im (d_194 x0) (kI L nx m) (ev_dn b z 194 0 [some (.int x0)] [] (nx, mem L nx m)) := by
  unfold d_194
  refine i_bl (pc' := 7) [(.bipush (24), 2), (.bipush (64), 2), (.iload_n 0, 1), (.imul, 1), (.iadd, 1)] [some (.int x0)] [.int (24 + (64 * x0))] (by decide +kernel) rfl ?_
  exact i_ri (by decide +kernel) rfl

/-! 195 LanternChessModel.aheadAt(I)I -/
noncomputable def d_195 (x0 : Int32) : Option Int32 := some (152 + (64 * x0))
theorem t_195 {L nx : Nat} (hN : okn nx) {b z : Nat} {m : Mm}  {x0 : Int32}  : Im (d_195 x0) (kI L nx m) (ev_dn b z 195 0 [some (.int x0)] [] (nx, mem L nx m)) := by
  unfold d_195
  refine i_bl (pc' := 8) [(.sipush (152), 3), (.bipush (64), 2), (.iload_n 0, 1), (.imul, 1), (.iadd, 1)] [some (.int x0)] [.int (152 + (64 * x0))] (by decide +kernel) rfl ?_
  exact i_ri (by decide +kernel) rfl

/-! 196 LanternChessModel.sideOf(I)I -/
noncomputable def d_196 (x0 : Int32) : Option Int32 := if ¬ x0 = 0 then (if x0 ≤ 6 then (some 0) else (some 1)) else (some (-1))
theorem t_196 {L nx : Nat} (hN : okn nx) {b z : Nat} {m : Mm}  {x0 : Int32}  : Im (d_196 x0) (kI L nx m) (ev_dn b z 196 0 [some (.int x0)] [] (nx, mem L nx m)) := by
  unfold d_196
  refine i_bl (pc' := 1) [(.iload_n 0, 1)] [some (.int x0)] [.int x0] (by decide +kernel) rfl ?_
  refine i_if (c := .ne) (off := 7) (t := 8) (pc' := 4) (p := ¬ x0 = 0) (by decide +kernel) rfl ?_ ?_
  · refine i_bl (pc' := 11) [(.iload_n 0, 1), (.bipush (6), 2)] [some (.int x0)] [.int 6, .int x0] (by decide +kernel) rfl ?_
    refine i_ic (c := .le) (off := 7) (t := 18) (pc' := 14) (p := x0 ≤ 6) (by decide +kernel) rfl ?_ ?_
    · refine i_bl (pc' := 19) [(.iconst 0, 1)] [some (.int x0)] [.int 0] (by decide +kernel) rfl ?_
      exact i_ri (by decide +kernel) rfl
    · refine i_bl (pc' := 15) [(.iconst 1, 1)] [some (.int x0)] [.int 1] (by decide +kernel) rfl ?_
      refine i_go (t := 19) (off := 4) (by decide +kernel) ?_
      exact i_ri (by decide +kernel) rfl
  · refine i_bl (pc' := 5) [(.iconst (-1), 1)] [some (.int x0)] [.int (-1)] (by decide +kernel) rfl ?_
    refine i_go (t := 19) (off := 14) (by decide +kernel) ?_
    exact i_ri (by decide +kernel) rfl

/-! 197 LanternChessModel.kindOf(I)I -/
noncomputable def d_197 (x0 : Int32) : Option Int32 := if x0 ≤ 6 then (some x0) else (some (x0 - 6))
theorem t_197 {L nx : Nat} (hN : okn nx) {b z : Nat} {m : Mm}  {x0 : Int32}  : Im (d_197 x0) (kI L nx m) (ev_dn b z 197 0 [some (.int x0)] [] (nx, mem L nx m)) := by
  unfold d_197
  refine i_bl (pc' := 3) [(.iload_n 0, 1), (.bipush (6), 2)] [some (.int x0)] [.int 6, .int x0] (by decide +kernel) rfl ?_
  refine i_ic (c := .le) (off := 10) (t := 13) (pc' := 6) (p := x0 ≤ 6) (by decide +kernel) rfl ?_ ?_
  · refine i_bl (pc' := 14) [(.iload_n 0, 1)] [some (.int x0)] [.int x0] (by decide +kernel) rfl ?_
    exact i_ri (by decide +kernel) rfl
  · refine i_bl (pc' := 10) [(.iload_n 0, 1), (.bipush (6), 2), (.isub, 1)] [some (.int x0)] [.int (x0 - 6)] (by decide +kernel) rfl ?_
    refine i_go (t := 14) (off := 4) (by decide +kernel) ?_
    exact i_ri (by decide +kernel) rfl

/-! 198 LanternChessModel.columnOf(I)I -/
noncomputable def d_198 (a0 : Nat) (x1 : Int32) (m : Mm) : Option Int32 := if ev_in 0 (sh_n (sh_r a0 1)) = true then (if (m (sh_r a0 1) (ix 0)) = 0 then none else (some (x1 - x1 / (m (sh_r a0 1) (ix 0)) * (m (sh_r a0 1) (ix 0))))) else none
theorem t_198 {L nx : Nat} (hN : okn nx) {b z : Nat} {m : Mm} {a0 : Nat} (h0 : ok nx a0 11) {x1 : Int32}  : Im (d_198 a0 x1 m) (kI L nx m) (ev_dn b z 198 0 [some (.ref a0), some (.int x1)] [] (nx, mem L nx m)) := by
  unfold d_198
  refine i_bl (pc' := 2) [(.iload_n 1, 1), (.aload_n 0, 1)] [some (.ref a0), some (.int x1)] [.ref a0, .int x1] (by decide +kernel) rfl ?_
  refine i_gr (idx := 7) (ci := 11) (k := 1) (t := 2) (p := 16234) (pc' := 5) (by decide +kernel) h0 ?_
  refine i_bl (pc' := 6) [(.iconst 0, 1)] [some (.ref a0), some (.int x1)] [.int 0, .ref (sh_r a0 1), .int x1] (by decide +kernel) rfl ?_
  refine i_al (pc' := 7) (by decide +kernel) (o_11_1 hN h0) ?_
  refine i_rem (pc' := 8) (by decide +kernel) ?_
  exact i_ri (by decide +kernel) rfl

/-! 199 LanternChessModel.rowOf(I)I -/
noncomputable def d_199 (a0 : Nat) (x1 : Int32) (m : Mm) : Option Int32 := if ev_in 0 (sh_n (sh_r a0 1)) = true then (if (m (sh_r a0 1) (ix 0)) = 0 then none else (some (x1 / (m (sh_r a0 1) (ix 0))))) else none
theorem t_199 {L nx : Nat} (hN : okn nx) {b z : Nat} {m : Mm} {a0 : Nat} (h0 : ok nx a0 11) {x1 : Int32}  : Im (d_199 a0 x1 m) (kI L nx m) (ev_dn b z 199 0 [some (.ref a0), some (.int x1)] [] (nx, mem L nx m)) := by
  unfold d_199
  refine i_bl (pc' := 2) [(.iload_n 1, 1), (.aload_n 0, 1)] [some (.ref a0), some (.int x1)] [.ref a0, .int x1] (by decide +kernel) rfl ?_
  refine i_gr (idx := 7) (ci := 11) (k := 1) (t := 2) (p := 16234) (pc' := 5) (by decide +kernel) h0 ?_
  refine i_bl (pc' := 6) [(.iconst 0, 1)] [some (.ref a0), some (.int x1)] [.int 0, .ref (sh_r a0 1), .int x1] (by decide +kernel) rfl ?_
  refine i_al (pc' := 7) (by decide +kernel) (o_11_1 hN h0) ?_
  refine i_div (pc' := 8) (by decide +kernel) ?_
  exact i_ri (by decide +kernel) rfl

/-! 200 LanternChessModel.sign(I)I -/
noncomputable def d_200 (x0 : Int32) : Option Int32 := if x0 ≤ 0 then (if 0 ≤ x0 then (some 0) else (some (-1))) else (some 1)
theorem t_200 {L nx : Nat} (hN : okn nx) {b z : Nat} {m : Mm}  {x0 : Int32}  : Im (d_200 x0) (kI L nx m) (ev_dn b z 200 0 [some (.int x0)] [] (nx, mem L nx m)) := by
  unfold d_200
  refine i_bl (pc' := 1) [(.iload_n 0, 1)] [some (.int x0)] [.int x0] (by decide +kernel) rfl ?_
  refine i_if (c := .le) (off := 7) (t := 8) (pc' := 4) (p := x0 ≤ 0) (by decide +kernel) rfl ?_ ?_
  · refine i_bl (pc' := 9) [(.iload_n 0, 1)] [some (.int x0)] [.int x0] (by decide +kernel) rfl ?_
    refine i_if (c := .ge) (off := 7) (t := 16) (pc' := 12) (p := 0 ≤ x0) (by decide +kernel) rfl ?_ ?_
    · refine i_bl (pc' := 17) [(.iconst 0, 1)] [some (.int x0)] [.int 0] (by decide +kernel) rfl ?_
      exact i_ri (by decide +kernel) rfl
    · refine i_bl (pc' := 13) [(.iconst (-1), 1)] [some (.int x0)] [.int (-1)] (by decide +kernel) rfl ?_
      refine i_go (t := 17) (off := 4) (by decide +kernel) ?_
      exact i_ri (by decide +kernel) rfl
  · refine i_bl (pc' := 5) [(.iconst 1, 1)] [some (.int x0)] [.int 1] (by decide +kernel) rfl ?_
    refine i_go (t := 17) (off := 12) (by decide +kernel) ?_
    exact i_ri (by decide +kernel) rfl

/-! 201 LanternChessModel.isOpen(III)Z -/
noncomputable def E_201_44 (L nx b z : Nat) (a0 : Nat) (x1 : Int32) (x3 : Int32) (x4 : Int32) (m : Mm) (d : Option Value) (s : (Int32)) : ev_Q := ev_dn b z 201 44 [some (.ref a0), some (.int x1), d, some (.int x3), some (.int x4), some (.int s)] [] (nx, mem L nx m)
noncomputable def s_201_44 (a0 : Nat) (x1 : Int32) (x3 : Int32) (x4 : Int32) (m : Mm) (x5 : Int32) : Option ((Int32) ⊕ Bool) := if x5 = x3 then (some (.inr true)) else (if ev_in (x1 + x5) (sh_n (sh_r a0 1)) = true then (if (m (sh_r a0 1) (ix (x1 + x5))) = 0 then (wb (x5 + x4) fun y8 => some (.inl (y8))) else (some (.inr false))) else none)
noncomputable def d_201_44 (a0 : Nat) (x1 : Int32) (x3 : Int32) (x4 : Int32) (m : Mm) (x5 : Int32) : Option Bool := it (fun s => s_201_44 a0 x1 x3 x4 m s) (x5)
theorem e_201_44 (a0 : Nat) (x1 : Int32) (x3 : Int32) (x4 : Int32) (m : Mm) (x5 : Int32) : d_201_44 a0 x1 x3 x4 m x5 = oi (s_201_44 a0 x1 x3 x4 m x5) (fun s => d_201_44 a0 x1 x3 x4 m s) := it_eq _
theorem u_201_44 {L nx : Nat} (hN : okn nx) {b z : Nat} {m : Mm} {a0 : Nat} (h0 : ok nx a0 11) {x1 : Int32} {x3 : Int32} {x4 : Int32} {x5 : Int32} {o2 : Option Value} : Im (s_201_44 a0 x1 x3 x4 m x5) (kL (kZ L nx m) (E_201_44 L nx b z a0 x1 x3 x4 m)) (ev_dn b z 201 44 [some (.ref a0), some (.int x1), o2, some (.int x3), some (.int x4), some (.int x5)] [] (nx, mem L nx m)) := by
  unfold s_201_44
  refine i_bl (pc' := 47) [(.iload 5, 2), (.iload_n 3, 1)] [some (.ref a0), some (.int x1), o2, some (.int x3), some (.int x4), some (.int x5)] [.int x3, .int x5] (by decide +kernel) rfl ?_
  refine i_ic (c := .eq) (off := 27) (t := 74) (pc' := 50) (p := x5 = x3) (by decide +kernel) rfl ?_ ?_
  · refine i_bl (pc' := 75) [(.iconst 1, 1)] [some (.ref a0), some (.int x1), o2, some (.int x3), some (.int x4), some (.int x5)] [.int 1] (by decide +kernel) rfl ?_
    exact i_ir (i_rz (B := true) (by decide +kernel) rfl)
  · refine i_bl (pc' := 51) [(.aload_n 0, 1)] [some (.ref a0), some (.int x1), o2, some (.int x3), some (.int x4), some (.int x5)] [.ref a0] (by decide +kernel) rfl ?_
    refine i_gr (idx := 7) (ci := 11) (k := 1) (t := 2) (p := 16234) (pc' := 54) (by decide +kernel) h0 ?_
    refine i_bl (pc' := 58) [(.iload_n 1, 1), (.iload 5, 2), (.iadd, 1)] [some (.ref a0), some (.int x1), o2, some (.int x3), some (.int x4), some (.int x5)] [.int (x1 + x5), .ref (sh_r a0 1)] (by decide +kernel) rfl ?_
    refine i_al (pc' := 59) (by decide +kernel) (o_11_1 hN h0) ?_
    refine i_if (c := .eq) (off := 5) (t := 64) (pc' := 62) (p := (m (sh_r a0 1) (ix (x1 + x5))) = 0) (by decide +kernel) rfl ?_ ?_
    · refine i_bl (pc' := 71) [(.iload 5, 2), (.iload 4, 2), (.iadd, 1), (.istore 5, 2)] [some (.ref a0), some (.int x1), o2, some (.int x3), some (.int x4), some (.int (x5 + x4))] [] (by decide +kernel) rfl ?_
      refine i_wb (fun y8 => ev_dn b z 201 71 [some (.ref a0), some (.int x1), o2, some (.int x3), some (.int x4), some (.int y8)] [] (nx, mem L nx m)) (fun y8 => ?_)
      refine i_go (t := 44) (off := -27) (by decide +kernel) ?_
      exact i_co (o2) rfl
    · refine i_bl (pc' := 63) [(.iconst 0, 1)] [some (.ref a0), some (.int x1), o2, some (.int x3), some (.int x4), some (.int x5)] [.int 0] (by decide +kernel) rfl ?_
      exact i_ir (i_rz (B := false) (by decide +kernel) rfl)

theorem t_201_44 {L nx : Nat} (hN : okn nx) {b z : Nat} {m : Mm} {a0 : Nat} (h0 : ok nx a0 11) {x1 : Int32} {x3 : Int32} {x4 : Int32} {x5 : Int32} {o2 : Option Value} : Im (d_201_44 a0 x1 x3 x4 m x5) (kZ L nx m) (ev_dn b z 201 44 [some (.ref a0), some (.int x1), o2, some (.int x3), some (.int x4), some (.int x5)] [] (nx, mem L nx m)) := by
  exact i_it (f := fun s => s_201_44 a0 x1 x3 x4 m s) (E := E_201_44 L nx b z a0 x1 x3 x4 m) (K := (kZ L nx m)) (fun d s => u_201_44 hN (h0 := h0)) (o2) (x5)
noncomputable def d_201 (a0 : Nat) (x1 : Int32) (x2 : Int32) (x3 : Int32) (m : Mm) : Option Bool := (d_198 a0 x3 m).bind fun v1 => (d_198 a0 x2 m).bind fun v2 => (d_200 (v1 - v2)).bind fun v3 => if ev_in 0 (sh_n (sh_r a0 1)) = true then ((d_199 a0 x3 m).bind fun v4 => (d_199 a0 x2 m).bind fun v5 => (d_200 (v4 - v5)).bind fun v6 => wb (v3 + ((m (sh_r a0 1) (ix 0)) * v6)) fun y7 => d_201_44 a0 x1 x3 y7 m (x2 + y7)) else none
theorem t_201 {L nx : Nat} (hN : okn nx) {b z : Nat} {m : Mm} {a0 : Nat} (h0 : ok nx a0 11) {x1 : Int32} {x2 : Int32} {x3 : Int32}  : Im (d_201 a0 x1 x2 x3 m) (kZ L nx m) (ev_dn b z 201 0 [some (.ref a0), some (.int x1), some (.int x2), some (.int x3), none, none] [] (nx, mem L nx m)) := by
  unfold d_201
  refine i_bl (pc' := 2) [(.aload_n 0, 1), (.iload_n 3, 1)] [some (.ref a0), some (.int x1), some (.int x2), some (.int x3), none, none] [.int x3, .ref a0] (by decide +kernel) rfl ?_
  refine i_cv (ci := 11) (t := 198) (na := 2) (ml := 2) (idx := 85) (pc' := 5) (st' := []) (en := [some (.ref a0), some (.int x3)]) (av := [.int x3]) (vo := fun v => some (.int v)) (mo := fun _ => m) (s2 := fun v => .int v :: []) (by decide +kernel) (by decide +kernel) h0 ⟨rfl, rfl, rfl, rfl, rfl, rfl⟩ (fun _ => rfl) (t_198 hN (h0 := h0)) (fun v1 => ?_)
  refine i_bl (pc' := 7) [(.aload_n 0, 1), (.iload_n 2, 1)] [some (.ref a0), some (.int x1), some (.int x2), some (.int x3), none, none] [.int x2, .ref a0, .int v1] (by decide +kernel) rfl ?_
  refine i_cv (ci := 11) (t := 198) (na := 2) (ml := 2) (idx := 85) (pc' := 10) (st' := [.int v1]) (en := [some (.ref a0), some (.int x2)]) (av := [.int x2]) (vo := fun v => some (.int v)) (mo := fun _ => m) (s2 := fun v => .int v :: [.int v1]) (by decide +kernel) (by decide +kernel) h0 ⟨rfl, rfl, rfl, rfl, rfl, rfl⟩ (fun _ => rfl) (t_198 hN (h0 := h0)) (fun v2 => ?_)
  refine i_bl (pc' := 11) [(.isub, 1)] [some (.ref a0), some (.int x1), some (.int x2), some (.int x3), none, none] [.int (v1 - v2)] (by decide +kernel) rfl ?_
  refine i_cs (t := 200) (na := 1) (ml := 1) (idx := 89) (pc' := 14) (st' := []) (en := [some (.int (v1 - v2))]) (av := [.int (v1 - v2)]) (vo := fun v => some (.int v)) (mo := fun _ => m) (s2 := fun v => .int v :: []) (by decide +kernel) ⟨rfl, rfl, rfl, rfl, rfl, rfl⟩ (fun _ => rfl) (t_200 hN ) (fun v3 => ?_)
  refine i_bl (pc' := 15) [(.aload_n 0, 1)] [some (.ref a0), some (.int x1), some (.int x2), some (.int x3), none, none] [.ref a0, .int v3] (by decide +kernel) rfl ?_
  refine i_gr (idx := 7) (ci := 11) (k := 1) (t := 2) (p := 16234) (pc' := 18) (by decide +kernel) h0 ?_
  refine i_bl (pc' := 19) [(.iconst 0, 1)] [some (.ref a0), some (.int x1), some (.int x2), some (.int x3), none, none] [.int 0, .ref (sh_r a0 1), .int v3] (by decide +kernel) rfl ?_
  refine i_al (pc' := 20) (by decide +kernel) (o_11_1 hN h0) ?_
  refine i_bl (pc' := 22) [(.aload_n 0, 1), (.iload_n 3, 1)] [some (.ref a0), some (.int x1), some (.int x2), some (.int x3), none, none] [.int x3, .ref a0, .int (m (sh_r a0 1) (ix 0)), .int v3] (by decide +kernel) rfl ?_
  refine i_cv (ci := 11) (t := 199) (na := 2) (ml := 2) (idx := 92) (pc' := 25) (st' := [.int (m (sh_r a0 1) (ix 0)), .int v3]) (en := [some (.ref a0), some (.int x3)]) (av := [.int x3]) (vo := fun v => some (.int v)) (mo := fun _ => m) (s2 := fun v => .int v :: [.int (m (sh_r a0 1) (ix 0)), .int v3]) (by decide +kernel) (by decide +kernel) h0 ⟨rfl, rfl, rfl, rfl, rfl, rfl⟩ (fun _ => rfl) (t_199 hN (h0 := h0)) (fun v4 => ?_)
  refine i_bl (pc' := 27) [(.aload_n 0, 1), (.iload_n 2, 1)] [some (.ref a0), some (.int x1), some (.int x2), some (.int x3), none, none] [.int x2, .ref a0, .int v4, .int (m (sh_r a0 1) (ix 0)), .int v3] (by decide +kernel) rfl ?_
  refine i_cv (ci := 11) (t := 199) (na := 2) (ml := 2) (idx := 92) (pc' := 30) (st' := [.int v4, .int (m (sh_r a0 1) (ix 0)), .int v3]) (en := [some (.ref a0), some (.int x2)]) (av := [.int x2]) (vo := fun v => some (.int v)) (mo := fun _ => m) (s2 := fun v => .int v :: [.int v4, .int (m (sh_r a0 1) (ix 0)), .int v3]) (by decide +kernel) (by decide +kernel) h0 ⟨rfl, rfl, rfl, rfl, rfl, rfl⟩ (fun _ => rfl) (t_199 hN (h0 := h0)) (fun v5 => ?_)
  refine i_bl (pc' := 31) [(.isub, 1)] [some (.ref a0), some (.int x1), some (.int x2), some (.int x3), none, none] [.int (v4 - v5), .int (m (sh_r a0 1) (ix 0)), .int v3] (by decide +kernel) rfl ?_
  refine i_cs (t := 200) (na := 1) (ml := 1) (idx := 89) (pc' := 34) (st' := [.int (m (sh_r a0 1) (ix 0)), .int v3]) (en := [some (.int (v4 - v5))]) (av := [.int (v4 - v5)]) (vo := fun v => some (.int v)) (mo := fun _ => m) (s2 := fun v => .int v :: [.int (m (sh_r a0 1) (ix 0)), .int v3]) (by decide +kernel) ⟨rfl, rfl, rfl, rfl, rfl, rfl⟩ (fun _ => rfl) (t_200 hN ) (fun v6 => ?_)
  refine i_bl (pc' := 38) [(.imul, 1), (.iadd, 1), (.istore 4, 2)] [some (.ref a0), some (.int x1), some (.int x2), some (.int x3), some (.int (v3 + ((m (sh_r a0 1) (ix 0)) * v6))), none] [] (by decide +kernel) rfl ?_
  refine i_wb (fun y7 => ev_dn b z 201 38 [some (.ref a0), some (.int x1), some (.int x2), some (.int x3), some (.int y7), none] [] (nx, mem L nx m)) (fun y7 => ?_)
  refine i_bl (pc' := 44) [(.iload_n 2, 1), (.iload 4, 2), (.iadd, 1), (.istore 5, 2)] [some (.ref a0), some (.int x1), some (.int x2), some (.int x3), some (.int y7), some (.int (x2 + y7))] [] (by decide +kernel) rfl ?_
  exact t_201_44 hN (h0 := h0)

/-! 202 LanternChessModel.reaches(IIIIZ)Z -/
noncomputable def d_202_155 (a0 : Nat) (x1 : Int32) (x3 : Int32) (x4 : Int32) (m : Mm) : Option Bool := (d_201 a0 x1 x3 x4 m).bind fun v10 => if v10 = true then (some true) else (some false)
theorem t_202_155 {L nx : Nat} (hN : okn nx) {b z : Nat} {m : Mm} {a0 : Nat} (h0 : ok nx a0 11) {x1 : Int32} {x3 : Int32} {x4 : Int32} {o2 : Option Value} {o5 : Option Value} {o6 : Option Value} {o7 : Option Value} {o8 : Option Value} {o9 : Option Value} {o10 : Option Value} {o11 : Option Value} : Im (d_202_155 a0 x1 x3 x4 m) (kZ L nx m) (ev_dn b z 202 155 [some (.ref a0), some (.int x1), o2, some (.int x3), some (.int x4), o5, o6, o7, o8, o9, o10, o11] [] (nx, mem L nx m)) := by
  unfold d_202_155
  refine i_bl (pc' := 160) [(.aload_n 0, 1), (.iload_n 1, 1), (.iload_n 3, 1), (.iload 4, 2)] [some (.ref a0), some (.int x1), o2, some (.int x3), some (.int x4), o5, o6, o7, o8, o9, o10, o11] [.int x4, .int x3, .int x1, .ref a0] (by decide +kernel) rfl ?_
  refine i_cv (ci := 11) (t := 201) (na := 4) (ml := 6) (idx := 107) (pc' := 163) (st' := []) (en := [some (.ref a0), some (.int x1), some (.int x3), some (.int x4), none, none]) (av := [.int x1, .int x3, .int x4]) (vo := fun v => some (.int (bi v))) (mo := fun _ => m) (s2 := fun v => .int (bi v) :: []) (by decide +kernel) (by decide +kernel) h0 ⟨rfl, rfl, rfl, rfl, rfl, rfl⟩ (fun _ => rfl) (t_201 hN (h0 := h0)) (fun v10 => ?_)
  refine i_bz (off := 7) (t := 170) (pc' := 166) (by decide +kernel) ?_ ?_
  · refine i_bl (pc' := 167) [(.iconst 1, 1)] [some (.ref a0), some (.int x1), o2, some (.int x3), some (.int x4), o5, o6, o7, o8, o9, o10, o11] [.int 1] (by decide +kernel) rfl ?_
    refine i_go (t := 171) (off := 4) (by decide +kernel) ?_
    exact i_rz (B := true) (by decide +kernel) rfl
  · refine i_bl (pc' := 171) [(.iconst 0, 1)] [some (.ref a0), some (.int x1), o2, some (.int x3), some (.int x4), o5, o6, o7, o8, o9, o10, o11] [.int 0] (by decide +kernel) rfl ?_
    exact i_rz (B := false) (by decide +kernel) rfl

noncomputable def d_202_245 (x5 : Bool) (x8 : Int32) (s0 : Int32) (s1 : Int32) (m : Mm) : Option Bool := if ¬ s0 = s1 then (some false) else (if x5 = true then (if ¬ x8 = 1 then (some false) else (some true)) else (if ¬ x8 = 0 then (some false) else (some true)))
theorem t_202_245 {L nx : Nat} (hN : okn nx) {b z : Nat} {m : Mm}  {x5 : Bool} {x8 : Int32} {s0 : Int32} {s1 : Int32} {o0 : Option Value} {o1 : Option Value} {o2 : Option Value} {o3 : Option Value} {o4 : Option Value} {o6 : Option Value} {o7 : Option Value} {o9 : Option Value} {o10 : Option Value} {o11 : Option Value} : Im (d_202_245 x5 x8 s0 s1 m) (kZ L nx m) (ev_dn b z 202 245 [o0, o1, o2, o3, o4, some (.int (bi x5)), o6, o7, some (.int x8), o9, o10, o11] [.int s1, .int s0] (nx, mem L nx m)) := by
  unfold d_202_245
  refine i_ic (c := .ne) (off := 26) (t := 271) (pc' := 248) (p := ¬ s0 = s1) (by decide +kernel) rfl ?_ ?_
  · refine i_bl (pc' := 272) [(.iconst 0, 1)] [o0, o1, o2, o3, o4, some (.int (bi x5)), o6, o7, some (.int x8), o9, o10, o11] [.int 0] (by decide +kernel) rfl ?_
    exact i_rz (B := false) (by decide +kernel) rfl
  · refine i_bl (pc' := 250) [(.iload 5, 2)] [o0, o1, o2, o3, o4, some (.int (bi x5)), o6, o7, some (.int x8), o9, o10, o11] [.int (bi x5)] (by decide +kernel) rfl ?_
    refine i_bz (off := 12) (t := 262) (pc' := 253) (by decide +kernel) ?_ ?_
    · refine i_bl (pc' := 256) [(.iload 8, 2), (.iconst 1, 1)] [o0, o1, o2, o3, o4, some (.int (bi x5)), o6, o7, some (.int x8), o9, o10, o11] [.int 1, .int x8] (by decide +kernel) rfl ?_
      refine i_ic (c := .ne) (off := 15) (t := 271) (pc' := 259) (p := ¬ x8 = 1) (by decide +kernel) rfl ?_ ?_
      · refine i_bl (pc' := 272) [(.iconst 0, 1)] [o0, o1, o2, o3, o4, some (.int (bi x5)), o6, o7, some (.int x8), o9, o10, o11] [.int 0] (by decide +kernel) rfl ?_
        exact i_rz (B := false) (by decide +kernel) rfl
      · refine i_go (t := 267) (off := 8) (by decide +kernel) ?_
        refine i_bl (pc' := 268) [(.iconst 1, 1)] [o0, o1, o2, o3, o4, some (.int (bi x5)), o6, o7, some (.int x8), o9, o10, o11] [.int 1] (by decide +kernel) rfl ?_
        refine i_go (t := 272) (off := 4) (by decide +kernel) ?_
        exact i_rz (B := true) (by decide +kernel) rfl
    · refine i_bl (pc' := 264) [(.iload 8, 2)] [o0, o1, o2, o3, o4, some (.int (bi x5)), o6, o7, some (.int x8), o9, o10, o11] [.int x8] (by decide +kernel) rfl ?_
      refine i_if (c := .ne) (off := 7) (t := 271) (pc' := 267) (p := ¬ x8 = 0) (by decide +kernel) rfl ?_ ?_
      · refine i_bl (pc' := 272) [(.iconst 0, 1)] [o0, o1, o2, o3, o4, some (.int (bi x5)), o6, o7, some (.int x8), o9, o10, o11] [.int 0] (by decide +kernel) rfl ?_
        exact i_rz (B := false) (by decide +kernel) rfl
      · refine i_bl (pc' := 268) [(.iconst 1, 1)] [o0, o1, o2, o3, o4, some (.int (bi x5)), o6, o7, some (.int x8), o9, o10, o11] [.int 1] (by decide +kernel) rfl ?_
        refine i_go (t := 272) (off := 4) (by decide +kernel) ?_
        exact i_rz (B := true) (by decide +kernel) rfl

noncomputable def d_202_89 (a0 : Nat) (x1 : Int32) (x2 : Int32) (x3 : Int32) (x4 : Int32) (x5 : Bool) (x7 : Int32) (x8 : Int32) (x9 : Int32) (x10 : Bool) (s0 : Bool) (m : Mm) : Option Bool := (d_197 x2).bind fun v9 => (if v9 = 1 then (if ¬ (jmax x8 x9) = 1 then (some false) else (some true)) else if v9 = 2 then (if x10 = true then (d_202_155 a0 x1 x3 x4 m) else (if s0 = true then (d_202_155 a0 x1 x3 x4 m) else (some false))) else if v9 = 3 then (if x10 = true then ((d_201 a0 x1 x3 x4 m).bind fun v11 => if v11 = true then (some true) else (some false)) else (some false)) else if v9 = 4 then (if s0 = true then ((d_201 a0 x1 x3 x4 m).bind fun v12 => if v12 = true then (some true) else (some false)) else (some false)) else if v9 = 5 then (if ¬ (x8 * x9) = 2 then (some false) else (some true)) else ((d_196 x2).bind fun v13 => if ¬ v13 = 0 then (d_202_245 x5 x8 x7 (-1) m) else (d_202_245 x5 x8 x7 1 m)))
theorem t_202_89 {L nx : Nat} (hN : okn nx) {b z : Nat} {m : Mm} {a0 : Nat} (h0 : ok nx a0 11) {x1 : Int32} {x2 : Int32} {x3 : Int32} {x4 : Int32} {x5 : Bool} {x7 : Int32} {x8 : Int32} {x9 : Int32} {x10 : Bool} {s0 : Bool} {o6 : Option Value} : Im (d_202_89 a0 x1 x2 x3 x4 x5 x7 x8 x9 x10 s0 m) (kZ L nx m) (ev_dn b z 202 89 [some (.ref a0), some (.int x1), some (.int x2), some (.int x3), some (.int x4), some (.int (bi x5)), o6, some (.int x7), some (.int x8), some (.int x9), some (.int (bi x10)), none] [.int (bi s0)] (nx, mem L nx m)) := by
  unfold d_202_89
  refine i_bl (pc' := 92) [(.istore 11, 2), (.iload_n 2, 1)] [some (.ref a0), some (.int x1), some (.int x2), some (.int x3), some (.int x4), some (.int (bi x5)), o6, some (.int x7), some (.int x8), some (.int x9), some (.int (bi x10)), some (.int (bi s0))] [.int x2] (by decide +kernel) rfl ?_
  refine i_cs (t := 197) (na := 1) (ml := 1) (idx := 100) (pc' := 95) (st' := []) (en := [some (.int x2)]) (av := [.int x2]) (vo := fun v => some (.int v)) (mo := fun _ => m) (s2 := fun v => .int v :: []) (by decide +kernel) ⟨rfl, rfl, rfl, rfl, rfl, rfl⟩ (fun _ => rfl) (t_197 hN ) (fun v9 => ?_)
  refine i_sw (n := 33) (dd := (136)) (lo0 := (1)) (hi0 := (5)) (offs := #[(33), (50), (77), (99), (121)]) (d := 231) (ts := [128, 145, 172, 194, 216]) (cs := [(1, 128), (2, 145), (3, 172), (4, 194), (5, 216)]) (by decide +kernel) ?_
  refine i_sc (c := 1) (by decide +kernel) ?_ ?_
  · refine i_bl (pc' := 132) [(.iload 8, 2), (.iload 9, 2)] [some (.ref a0), some (.int x1), some (.int x2), some (.int x3), some (.int x4), some (.int (bi x5)), o6, some (.int x7), some (.int x8), some (.int x9), some (.int (bi x10)), some (.int (bi s0))] [.int x9, .int x8] (by decide +kernel) rfl ?_
    refine i_max (x := x8) (y := x9) (idx := 103) (pc' := 135) (by decide +kernel) rfl ?_
    refine i_bl (pc' := 136) [(.iconst 1, 1)] [some (.ref a0), some (.int x1), some (.int x2), some (.int x3), some (.int x4), some (.int (bi x5)), o6, some (.int x7), some (.int x8), some (.int x9), some (.int (bi x10)), some (.int (bi s0))] [.int 1, .int (jmax x8 x9)] (by decide +kernel) rfl ?_
    refine i_ic (c := .ne) (off := 7) (t := 143) (pc' := 139) (p := ¬ (jmax x8 x9) = 1) (by decide +kernel) rfl ?_ ?_
    · refine i_bl (pc' := 144) [(.iconst 0, 1)] [some (.ref a0), some (.int x1), some (.int x2), some (.int x3), some (.int x4), some (.int (bi x5)), o6, some (.int x7), some (.int x8), some (.int x9), some (.int (bi x10)), some (.int (bi s0))] [.int 0] (by decide +kernel) rfl ?_
      exact i_rz (B := false) (by decide +kernel) rfl
    · refine i_bl (pc' := 140) [(.iconst 1, 1)] [some (.ref a0), some (.int x1), some (.int x2), some (.int x3), some (.int x4), some (.int (bi x5)), o6, some (.int x7), some (.int x8), some (.int x9), some (.int (bi x10)), some (.int (bi s0))] [.int 1] (by decide +kernel) rfl ?_
      refine i_go (t := 144) (off := 4) (by decide +kernel) ?_
      exact i_rz (B := true) (by decide +kernel) rfl
  refine i_sc (c := 2) (by decide +kernel) ?_ ?_
  · refine i_bl (pc' := 147) [(.iload 10, 2)] [some (.ref a0), some (.int x1), some (.int x2), some (.int x3), some (.int x4), some (.int (bi x5)), o6, some (.int x7), some (.int x8), some (.int x9), some (.int (bi x10)), some (.int (bi s0))] [.int (bi x10)] (by decide +kernel) rfl ?_
    refine i_bn (off := 8) (t := 155) (pc' := 150) (by decide +kernel) ?_ ?_
    · exact t_202_155 hN (h0 := h0)
    · refine i_bl (pc' := 152) [(.iload 11, 2)] [some (.ref a0), some (.int x1), some (.int x2), some (.int x3), some (.int x4), some (.int (bi x5)), o6, some (.int x7), some (.int x8), some (.int x9), some (.int (bi x10)), some (.int (bi s0))] [.int (bi s0)] (by decide +kernel) rfl ?_
      refine i_bz (off := 18) (t := 170) (pc' := 155) (by decide +kernel) ?_ ?_
      · exact t_202_155 hN (h0 := h0)
      · refine i_bl (pc' := 171) [(.iconst 0, 1)] [some (.ref a0), some (.int x1), some (.int x2), some (.int x3), some (.int x4), some (.int (bi x5)), o6, some (.int x7), some (.int x8), some (.int x9), some (.int (bi x10)), some (.int (bi s0))] [.int 0] (by decide +kernel) rfl ?_
        exact i_rz (B := false) (by decide +kernel) rfl
  refine i_sc (c := 3) (by decide +kernel) ?_ ?_
  · refine i_bl (pc' := 174) [(.iload 10, 2)] [some (.ref a0), some (.int x1), some (.int x2), some (.int x3), some (.int x4), some (.int (bi x5)), o6, some (.int x7), some (.int x8), some (.int x9), some (.int (bi x10)), some (.int (bi s0))] [.int (bi x10)] (by decide +kernel) rfl ?_
    refine i_bz (off := 18) (t := 192) (pc' := 177) (by decide +kernel) ?_ ?_
    · refine i_bl (pc' := 182) [(.aload_n 0, 1), (.iload_n 1, 1), (.iload_n 3, 1), (.iload 4, 2)] [some (.ref a0), some (.int x1), some (.int x2), some (.int x3), some (.int x4), some (.int (bi x5)), o6, some (.int x7), some (.int x8), some (.int x9), some (.int (bi x10)), some (.int (bi s0))] [.int x4, .int x3, .int x1, .ref a0] (by decide +kernel) rfl ?_
      refine i_cv (ci := 11) (t := 201) (na := 4) (ml := 6) (idx := 107) (pc' := 185) (st' := []) (en := [some (.ref a0), some (.int x1), some (.int x3), some (.int x4), none, none]) (av := [.int x1, .int x3, .int x4]) (vo := fun v => some (.int (bi v))) (mo := fun _ => m) (s2 := fun v => .int (bi v) :: []) (by decide +kernel) (by decide +kernel) h0 ⟨rfl, rfl, rfl, rfl, rfl, rfl⟩ (fun _ => rfl) (t_201 hN (h0 := h0)) (fun v11 => ?_)
      refine i_bz (off := 7) (t := 192) (pc' := 188) (by decide +kernel) ?_ ?_
      · refine i_bl (pc' := 189) [(.iconst 1, 1)] [some (.ref a0), some (.int x1), some (.int x2), some (.int x3), some (.int x4), some (.int (bi x5)), o6, some (.int x7), some (.int x8), some (.int x9), some (.int (bi x10)), some (.int (bi s0))] [.int 1] (by decide +kernel) rfl ?_
        refine i_go (t := 193) (off := 4) (by decide +kernel) ?_
        exact i_rz (B := true) (by decide +kernel) rfl
      · refine i_bl (pc' := 193) [(.iconst 0, 1)] [some (.ref a0), some (.int x1), some (.int x2), some (.int x3), some (.int x4), some (.int (bi x5)), o6, some (.int x7), some (.int x8), some (.int x9), some (.int (bi x10)), some (.int (bi s0))] [.int 0] (by decide +kernel) rfl ?_
        exact i_rz (B := false) (by decide +kernel) rfl
    · refine i_bl (pc' := 193) [(.iconst 0, 1)] [some (.ref a0), some (.int x1), some (.int x2), some (.int x3), some (.int x4), some (.int (bi x5)), o6, some (.int x7), some (.int x8), some (.int x9), some (.int (bi x10)), some (.int (bi s0))] [.int 0] (by decide +kernel) rfl ?_
      exact i_rz (B := false) (by decide +kernel) rfl
  refine i_sc (c := 4) (by decide +kernel) ?_ ?_
  · refine i_bl (pc' := 196) [(.iload 11, 2)] [some (.ref a0), some (.int x1), some (.int x2), some (.int x3), some (.int x4), some (.int (bi x5)), o6, some (.int x7), some (.int x8), some (.int x9), some (.int (bi x10)), some (.int (bi s0))] [.int (bi s0)] (by decide +kernel) rfl ?_
    refine i_bz (off := 18) (t := 214) (pc' := 199) (by decide +kernel) ?_ ?_
    · refine i_bl (pc' := 204) [(.aload_n 0, 1), (.iload_n 1, 1), (.iload_n 3, 1), (.iload 4, 2)] [some (.ref a0), some (.int x1), some (.int x2), some (.int x3), some (.int x4), some (.int (bi x5)), o6, some (.int x7), some (.int x8), some (.int x9), some (.int (bi x10)), some (.int (bi s0))] [.int x4, .int x3, .int x1, .ref a0] (by decide +kernel) rfl ?_
      refine i_cv (ci := 11) (t := 201) (na := 4) (ml := 6) (idx := 107) (pc' := 207) (st' := []) (en := [some (.ref a0), some (.int x1), some (.int x3), some (.int x4), none, none]) (av := [.int x1, .int x3, .int x4]) (vo := fun v => some (.int (bi v))) (mo := fun _ => m) (s2 := fun v => .int (bi v) :: []) (by decide +kernel) (by decide +kernel) h0 ⟨rfl, rfl, rfl, rfl, rfl, rfl⟩ (fun _ => rfl) (t_201 hN (h0 := h0)) (fun v12 => ?_)
      refine i_bz (off := 7) (t := 214) (pc' := 210) (by decide +kernel) ?_ ?_
      · refine i_bl (pc' := 211) [(.iconst 1, 1)] [some (.ref a0), some (.int x1), some (.int x2), some (.int x3), some (.int x4), some (.int (bi x5)), o6, some (.int x7), some (.int x8), some (.int x9), some (.int (bi x10)), some (.int (bi s0))] [.int 1] (by decide +kernel) rfl ?_
        refine i_go (t := 215) (off := 4) (by decide +kernel) ?_
        exact i_rz (B := true) (by decide +kernel) rfl
      · refine i_bl (pc' := 215) [(.iconst 0, 1)] [some (.ref a0), some (.int x1), some (.int x2), some (.int x3), some (.int x4), some (.int (bi x5)), o6, some (.int x7), some (.int x8), some (.int x9), some (.int (bi x10)), some (.int (bi s0))] [.int 0] (by decide +kernel) rfl ?_
        exact i_rz (B := false) (by decide +kernel) rfl
    · refine i_bl (pc' := 215) [(.iconst 0, 1)] [some (.ref a0), some (.int x1), some (.int x2), some (.int x3), some (.int x4), some (.int (bi x5)), o6, some (.int x7), some (.int x8), some (.int x9), some (.int (bi x10)), some (.int (bi s0))] [.int 0] (by decide +kernel) rfl ?_
      exact i_rz (B := false) (by decide +kernel) rfl
  refine i_sc (c := 5) (by decide +kernel) ?_ ?_
  · refine i_bl (pc' := 222) [(.iload 8, 2), (.iload 9, 2), (.imul, 1), (.iconst 2, 1)] [some (.ref a0), some (.int x1), some (.int x2), some (.int x3), some (.int x4), some (.int (bi x5)), o6, some (.int x7), some (.int x8), some (.int x9), some (.int (bi x10)), some (.int (bi s0))] [.int 2, .int (x8 * x9)] (by decide +kernel) rfl ?_
    refine i_ic (c := .ne) (off := 7) (t := 229) (pc' := 225) (p := ¬ (x8 * x9) = 2) (by decide +kernel) rfl ?_ ?_
    · refine i_bl (pc' := 230) [(.iconst 0, 1)] [some (.ref a0), some (.int x1), some (.int x2), some (.int x3), some (.int x4), some (.int (bi x5)), o6, some (.int x7), some (.int x8), some (.int x9), some (.int (bi x10)), some (.int (bi s0))] [.int 0] (by decide +kernel) rfl ?_
      exact i_rz (B := false) (by decide +kernel) rfl
    · refine i_bl (pc' := 226) [(.iconst 1, 1)] [some (.ref a0), some (.int x1), some (.int x2), some (.int x3), some (.int x4), some (.int (bi x5)), o6, some (.int x7), some (.int x8), some (.int x9), some (.int (bi x10)), some (.int (bi s0))] [.int 1] (by decide +kernel) rfl ?_
      refine i_go (t := 230) (off := 4) (by decide +kernel) ?_
      exact i_rz (B := true) (by decide +kernel) rfl
  refine i_s0 ?_
  refine i_bl (pc' := 234) [(.iload 7, 2), (.iload_n 2, 1)] [some (.ref a0), some (.int x1), some (.int x2), some (.int x3), some (.int x4), some (.int (bi x5)), o6, some (.int x7), some (.int x8), some (.int x9), some (.int (bi x10)), some (.int (bi s0))] [.int x2, .int x7] (by decide +kernel) rfl ?_
  refine i_cs (t := 196) (na := 1) (ml := 1) (idx := 111) (pc' := 237) (st' := [.int x7]) (en := [some (.int x2)]) (av := [.int x2]) (vo := fun v => some (.int v)) (mo := fun _ => m) (s2 := fun v => .int v :: [.int x7]) (by decide +kernel) ⟨rfl, rfl, rfl, rfl, rfl, rfl⟩ (fun _ => rfl) (t_196 hN ) (fun v13 => ?_)
  refine i_if (c := .ne) (off := 7) (t := 244) (pc' := 240) (p := ¬ v13 = 0) (by decide +kernel) rfl ?_ ?_
  · refine i_bl (pc' := 245) [(.iconst (-1), 1)] [some (.ref a0), some (.int x1), some (.int x2), some (.int x3), some (.int x4), some (.int (bi x5)), o6, some (.int x7), some (.int x8), some (.int x9), some (.int (bi x10)), some (.int (bi s0))] [.int (-1), .int x7] (by decide +kernel) rfl ?_
    exact t_202_245 hN 
  · refine i_bl (pc' := 241) [(.iconst 1, 1)] [some (.ref a0), some (.int x1), some (.int x2), some (.int x3), some (.int x4), some (.int (bi x5)), o6, some (.int x7), some (.int x8), some (.int x9), some (.int (bi x10)), some (.int (bi s0))] [.int 1, .int x7] (by decide +kernel) rfl ?_
    refine i_go (t := 245) (off := 4) (by decide +kernel) ?_
    exact t_202_245 hN 

noncomputable def d_202_70 (a0 : Nat) (x1 : Int32) (x2 : Int32) (x3 : Int32) (x4 : Int32) (x5 : Bool) (x7 : Int32) (x8 : Int32) (x9 : Int32) (s0 : Bool) (m : Mm) : Option Bool := if ¬ x8 = x9 then (d_202_89 a0 x1 x2 x3 x4 x5 x7 x8 x9 s0 false m) else (if x8 ≤ 0 then (d_202_89 a0 x1 x2 x3 x4 x5 x7 x8 x9 s0 false m) else (d_202_89 a0 x1 x2 x3 x4 x5 x7 x8 x9 s0 true m))
theorem t_202_70 {L nx : Nat} (hN : okn nx) {b z : Nat} {m : Mm} {a0 : Nat} (h0 : ok nx a0 11) {x1 : Int32} {x2 : Int32} {x3 : Int32} {x4 : Int32} {x5 : Bool} {x7 : Int32} {x8 : Int32} {x9 : Int32} {s0 : Bool} {o6 : Option Value} : Im (d_202_70 a0 x1 x2 x3 x4 x5 x7 x8 x9 s0 m) (kZ L nx m) (ev_dn b z 202 70 [some (.ref a0), some (.int x1), some (.int x2), some (.int x3), some (.int x4), some (.int (bi x5)), o6, some (.int x7), some (.int x8), some (.int x9), none, none] [.int (bi s0)] (nx, mem L nx m)) := by
  unfold d_202_70
  refine i_bl (pc' := 76) [(.istore 10, 2), (.iload 8, 2), (.iload 9, 2)] [some (.ref a0), some (.int x1), some (.int x2), some (.int x3), some (.int x4), some (.int (bi x5)), o6, some (.int x7), some (.int x8), some (.int x9), some (.int (bi s0)), none] [.int x9, .int x8] (by decide +kernel) rfl ?_
  refine i_ic (c := .ne) (off := 12) (t := 88) (pc' := 79) (p := ¬ x8 = x9) (by decide +kernel) rfl ?_ ?_
  · refine i_bl (pc' := 89) [(.iconst 0, 1)] [some (.ref a0), some (.int x1), some (.int x2), some (.int x3), some (.int x4), some (.int (bi x5)), o6, some (.int x7), some (.int x8), some (.int x9), some (.int (bi s0)), none] [.int 0] (by decide +kernel) rfl ?_
    exact t_202_89 hN (h0 := h0)
  · refine i_bl (pc' := 81) [(.iload 8, 2)] [some (.ref a0), some (.int x1), some (.int x2), some (.int x3), some (.int x4), some (.int (bi x5)), o6, some (.int x7), some (.int x8), some (.int x9), some (.int (bi s0)), none] [.int x8] (by decide +kernel) rfl ?_
    refine i_if (c := .le) (off := 7) (t := 88) (pc' := 84) (p := x8 ≤ 0) (by decide +kernel) rfl ?_ ?_
    · refine i_bl (pc' := 89) [(.iconst 0, 1)] [some (.ref a0), some (.int x1), some (.int x2), some (.int x3), some (.int x4), some (.int (bi x5)), o6, some (.int x7), some (.int x8), some (.int x9), some (.int (bi s0)), none] [.int 0] (by decide +kernel) rfl ?_
      exact t_202_89 hN (h0 := h0)
    · refine i_bl (pc' := 85) [(.iconst 1, 1)] [some (.ref a0), some (.int x1), some (.int x2), some (.int x3), some (.int x4), some (.int (bi x5)), o6, some (.int x7), some (.int x8), some (.int x9), some (.int (bi s0)), none] [.int 1] (by decide +kernel) rfl ?_
      refine i_go (t := 89) (off := 4) (by decide +kernel) ?_
      exact t_202_89 hN (h0 := h0)

noncomputable def d_202_62 (a0 : Nat) (x1 : Int32) (x2 : Int32) (x3 : Int32) (x4 : Int32) (x5 : Bool) (x7 : Int32) (x8 : Int32) (x9 : Int32) (s0 : Bool) (s1 : Bool) (m : Mm) : Option Bool := if (bi s0) = (bi s1) then (d_202_70 a0 x1 x2 x3 x4 x5 x7 x8 x9 false m) else (d_202_70 a0 x1 x2 x3 x4 x5 x7 x8 x9 true m)
theorem t_202_62 {L nx : Nat} (hN : okn nx) {b z : Nat} {m : Mm} {a0 : Nat} (h0 : ok nx a0 11) {x1 : Int32} {x2 : Int32} {x3 : Int32} {x4 : Int32} {x5 : Bool} {x7 : Int32} {x8 : Int32} {x9 : Int32} {s0 : Bool} {s1 : Bool} {o6 : Option Value} : Im (d_202_62 a0 x1 x2 x3 x4 x5 x7 x8 x9 s0 s1 m) (kZ L nx m) (ev_dn b z 202 62 [some (.ref a0), some (.int x1), some (.int x2), some (.int x3), some (.int x4), some (.int (bi x5)), o6, some (.int x7), some (.int x8), some (.int x9), none, none] [.int (bi s1), .int (bi s0)] (nx, mem L nx m)) := by
  unfold d_202_62
  refine i_ic (c := .eq) (off := 7) (t := 69) (pc' := 65) (p := (bi s0) = (bi s1)) (by decide +kernel) rfl ?_ ?_
  · refine i_bl (pc' := 70) [(.iconst 0, 1)] [some (.ref a0), some (.int x1), some (.int x2), some (.int x3), some (.int x4), some (.int (bi x5)), o6, some (.int x7), some (.int x8), some (.int x9), none, none] [.int 0] (by decide +kernel) rfl ?_
    exact t_202_70 hN (h0 := h0)
  · refine i_bl (pc' := 66) [(.iconst 1, 1)] [some (.ref a0), some (.int x1), some (.int x2), some (.int x3), some (.int x4), some (.int (bi x5)), o6, some (.int x7), some (.int x8), some (.int x9), none, none] [.int 1] (by decide +kernel) rfl ?_
    refine i_go (t := 70) (off := 4) (by decide +kernel) ?_
    exact t_202_70 hN (h0 := h0)

noncomputable def d_202_52 (a0 : Nat) (x1 : Int32) (x2 : Int32) (x3 : Int32) (x4 : Int32) (x5 : Bool) (x7 : Int32) (x8 : Int32) (x9 : Int32) (s0 : Bool) (m : Mm) : Option Bool := if ¬ x9 = 0 then (d_202_62 a0 x1 x2 x3 x4 x5 x7 x8 x9 s0 false m) else (d_202_62 a0 x1 x2 x3 x4 x5 x7 x8 x9 s0 true m)
theorem t_202_52 {L nx : Nat} (hN : okn nx) {b z : Nat} {m : Mm} {a0 : Nat} (h0 : ok nx a0 11) {x1 : Int32} {x2 : Int32} {x3 : Int32} {x4 : Int32} {x5 : Bool} {x7 : Int32} {x8 : Int32} {x9 : Int32} {s0 : Bool} {o6 : Option Value} : Im (d_202_52 a0 x1 x2 x3 x4 x5 x7 x8 x9 s0 m) (kZ L nx m) (ev_dn b z 202 52 [some (.ref a0), some (.int x1), some (.int x2), some (.int x3), some (.int x4), some (.int (bi x5)), o6, some (.int x7), some (.int x8), some (.int x9), none, none] [.int (bi s0)] (nx, mem L nx m)) := by
  unfold d_202_52
  refine i_bl (pc' := 54) [(.iload 9, 2)] [some (.ref a0), some (.int x1), some (.int x2), some (.int x3), some (.int x4), some (.int (bi x5)), o6, some (.int x7), some (.int x8), some (.int x9), none, none] [.int x9, .int (bi s0)] (by decide +kernel) rfl ?_
  refine i_if (c := .ne) (off := 7) (t := 61) (pc' := 57) (p := ¬ x9 = 0) (by decide +kernel) rfl ?_ ?_
  · refine i_bl (pc' := 62) [(.iconst 0, 1)] [some (.ref a0), some (.int x1), some (.int x2), some (.int x3), some (.int x4), some (.int (bi x5)), o6, some (.int x7), some (.int x8), some (.int x9), none, none] [.int 0, .int (bi s0)] (by decide +kernel) rfl ?_
    exact t_202_62 hN (h0 := h0)
  · refine i_bl (pc' := 58) [(.iconst 1, 1)] [some (.ref a0), some (.int x1), some (.int x2), some (.int x3), some (.int x4), some (.int (bi x5)), o6, some (.int x7), some (.int x8), some (.int x9), none, none] [.int 1, .int (bi s0)] (by decide +kernel) rfl ?_
    refine i_go (t := 62) (off := 4) (by decide +kernel) ?_
    exact t_202_62 hN (h0 := h0)

noncomputable def d_202 (a0 : Nat) (x1 : Int32) (x2 : Int32) (x3 : Int32) (x4 : Int32) (x5 : Bool) (m : Mm) : Option Bool := (d_198 a0 x4 m).bind fun v1 => (d_198 a0 x3 m).bind fun v2 => wb (v1 - v2) fun y3 => (d_199 a0 x4 m).bind fun v4 => (d_199 a0 x3 m).bind fun v5 => wb (v4 - v5) fun y6 => wb (jabs y3) fun y7 => wb (jabs y6) fun y8 => if ¬ y7 = 0 then (d_202_52 a0 x1 x2 x3 x4 x5 y6 y7 y8 false m) else (d_202_52 a0 x1 x2 x3 x4 x5 y6 y7 y8 true m)
theorem t_202 {L nx : Nat} (hN : okn nx) {b z : Nat} {m : Mm} {a0 : Nat} (h0 : ok nx a0 11) {x1 : Int32} {x2 : Int32} {x3 : Int32} {x4 : Int32} {x5 : Bool}  : Im (d_202 a0 x1 x2 x3 x4 x5 m) (kZ L nx m) (ev_dn b z 202 0 [some (.ref a0), some (.int x1), some (.int x2), some (.int x3), some (.int x4), some (.int (bi x5)), none, none, none, none, none, none] [] (nx, mem L nx m)) := by
  unfold d_202
  refine i_bl (pc' := 3) [(.aload_n 0, 1), (.iload 4, 2)] [some (.ref a0), some (.int x1), some (.int x2), some (.int x3), some (.int x4), some (.int (bi x5)), none, none, none, none, none, none] [.int x4, .ref a0] (by decide +kernel) rfl ?_
  refine i_cv (ci := 11) (t := 198) (na := 2) (ml := 2) (idx := 85) (pc' := 6) (st' := []) (en := [some (.ref a0), some (.int x4)]) (av := [.int x4]) (vo := fun v => some (.int v)) (mo := fun _ => m) (s2 := fun v => .int v :: []) (by decide +kernel) (by decide +kernel) h0 ⟨rfl, rfl, rfl, rfl, rfl, rfl⟩ (fun _ => rfl) (t_198 hN (h0 := h0)) (fun v1 => ?_)
  refine i_bl (pc' := 8) [(.aload_n 0, 1), (.iload_n 3, 1)] [some (.ref a0), some (.int x1), some (.int x2), some (.int x3), some (.int x4), some (.int (bi x5)), none, none, none, none, none, none] [.int x3, .ref a0, .int v1] (by decide +kernel) rfl ?_
  refine i_cv (ci := 11) (t := 198) (na := 2) (ml := 2) (idx := 85) (pc' := 11) (st' := [.int v1]) (en := [some (.ref a0), some (.int x3)]) (av := [.int x3]) (vo := fun v => some (.int v)) (mo := fun _ => m) (s2 := fun v => .int v :: [.int v1]) (by decide +kernel) (by decide +kernel) h0 ⟨rfl, rfl, rfl, rfl, rfl, rfl⟩ (fun _ => rfl) (t_198 hN (h0 := h0)) (fun v2 => ?_)
  refine i_bl (pc' := 14) [(.isub, 1), (.istore 6, 2)] [some (.ref a0), some (.int x1), some (.int x2), some (.int x3), some (.int x4), some (.int (bi x5)), some (.int (v1 - v2)), none, none, none, none, none] [] (by decide +kernel) rfl ?_
  refine i_wb (fun y3 => ev_dn b z 202 14 [some (.ref a0), some (.int x1), some (.int x2), some (.int x3), some (.int x4), some (.int (bi x5)), some (.int y3), none, none, none, none, none] [] (nx, mem L nx m)) (fun y3 => ?_)
  refine i_bl (pc' := 17) [(.aload_n 0, 1), (.iload 4, 2)] [some (.ref a0), some (.int x1), some (.int x2), some (.int x3), some (.int x4), some (.int (bi x5)), some (.int y3), none, none, none, none, none] [.int x4, .ref a0] (by decide +kernel) rfl ?_
  refine i_cv (ci := 11) (t := 199) (na := 2) (ml := 2) (idx := 92) (pc' := 20) (st' := []) (en := [some (.ref a0), some (.int x4)]) (av := [.int x4]) (vo := fun v => some (.int v)) (mo := fun _ => m) (s2 := fun v => .int v :: []) (by decide +kernel) (by decide +kernel) h0 ⟨rfl, rfl, rfl, rfl, rfl, rfl⟩ (fun _ => rfl) (t_199 hN (h0 := h0)) (fun v4 => ?_)
  refine i_bl (pc' := 22) [(.aload_n 0, 1), (.iload_n 3, 1)] [some (.ref a0), some (.int x1), some (.int x2), some (.int x3), some (.int x4), some (.int (bi x5)), some (.int y3), none, none, none, none, none] [.int x3, .ref a0, .int v4] (by decide +kernel) rfl ?_
  refine i_cv (ci := 11) (t := 199) (na := 2) (ml := 2) (idx := 92) (pc' := 25) (st' := [.int v4]) (en := [some (.ref a0), some (.int x3)]) (av := [.int x3]) (vo := fun v => some (.int v)) (mo := fun _ => m) (s2 := fun v => .int v :: [.int v4]) (by decide +kernel) (by decide +kernel) h0 ⟨rfl, rfl, rfl, rfl, rfl, rfl⟩ (fun _ => rfl) (t_199 hN (h0 := h0)) (fun v5 => ?_)
  refine i_bl (pc' := 28) [(.isub, 1), (.istore 7, 2)] [some (.ref a0), some (.int x1), some (.int x2), some (.int x3), some (.int x4), some (.int (bi x5)), some (.int y3), some (.int (v4 - v5)), none, none, none, none] [] (by decide +kernel) rfl ?_
  refine i_wb (fun y6 => ev_dn b z 202 28 [some (.ref a0), some (.int x1), some (.int x2), some (.int x3), some (.int x4), some (.int (bi x5)), some (.int y3), some (.int y6), none, none, none, none] [] (nx, mem L nx m)) (fun y6 => ?_)
  refine i_bl (pc' := 30) [(.iload 6, 2)] [some (.ref a0), some (.int x1), some (.int x2), some (.int x3), some (.int x4), some (.int (bi x5)), some (.int y3), some (.int y6), none, none, none, none] [.int y3] (by decide +kernel) rfl ?_
  refine i_abs (x := y3) (idx := 95) (pc' := 33) (by decide +kernel) rfl ?_
  refine i_bl (pc' := 35) [(.istore 8, 2)] [some (.ref a0), some (.int x1), some (.int x2), some (.int x3), some (.int x4), some (.int (bi x5)), some (.int y3), some (.int y6), some (.int (jabs y3)), none, none, none] [] (by decide +kernel) rfl ?_
  refine i_wb (fun y7 => ev_dn b z 202 35 [some (.ref a0), some (.int x1), some (.int x2), some (.int x3), some (.int x4), some (.int (bi x5)), some (.int y3), some (.int y6), some (.int y7), none, none, none] [] (nx, mem L nx m)) (fun y7 => ?_)
  refine i_bl (pc' := 37) [(.iload 7, 2)] [some (.ref a0), some (.int x1), some (.int x2), some (.int x3), some (.int x4), some (.int (bi x5)), some (.int y3), some (.int y6), some (.int y7), none, none, none] [.int y6] (by decide +kernel) rfl ?_
  refine i_abs (x := y6) (idx := 95) (pc' := 40) (by decide +kernel) rfl ?_
  refine i_bl (pc' := 42) [(.istore 9, 2)] [some (.ref a0), some (.int x1), some (.int x2), some (.int x3), some (.int x4), some (.int (bi x5)), some (.int y3), some (.int y6), some (.int y7), some (.int (jabs y6)), none, none] [] (by decide +kernel) rfl ?_
  refine i_wb (fun y8 => ev_dn b z 202 42 [some (.ref a0), some (.int x1), some (.int x2), some (.int x3), some (.int x4), some (.int (bi x5)), some (.int y3), some (.int y6), some (.int y7), some (.int y8), none, none] [] (nx, mem L nx m)) (fun y8 => ?_)
  refine i_bl (pc' := 44) [(.iload 8, 2)] [some (.ref a0), some (.int x1), some (.int x2), some (.int x3), some (.int x4), some (.int (bi x5)), some (.int y3), some (.int y6), some (.int y7), some (.int y8), none, none] [.int y7] (by decide +kernel) rfl ?_
  refine i_if (c := .ne) (off := 7) (t := 51) (pc' := 47) (p := ¬ y7 = 0) (by decide +kernel) rfl ?_ ?_
  · refine i_bl (pc' := 52) [(.iconst 0, 1)] [some (.ref a0), some (.int x1), some (.int x2), some (.int x3), some (.int x4), some (.int (bi x5)), some (.int y3), some (.int y6), some (.int y7), some (.int y8), none, none] [.int 0] (by decide +kernel) rfl ?_
    exact t_202_52 hN (h0 := h0)
  · refine i_bl (pc' := 48) [(.iconst 1, 1)] [some (.ref a0), some (.int x1), some (.int x2), some (.int x3), some (.int x4), some (.int (bi x5)), some (.int y3), some (.int y6), some (.int y7), some (.int y8), none, none] [.int 1] (by decide +kernel) rfl ?_
    refine i_go (t := 52) (off := 4) (by decide +kernel) ?_
    exact t_202_52 hN (h0 := h0)

