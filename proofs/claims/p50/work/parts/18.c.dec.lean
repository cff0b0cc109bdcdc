/-! Programs in numbers, and that the evaluator answers what they answer. -/
/-! 101 LanternChess$SetupText.readFog(LLanternChess$Game;)V -/
noncomputable def d_101_52 (a0 : Nat) (a1 : Nat) (x2 : Int32) (m : Mm) : Option Mm := (d_107 a0 1 999 m).bind fun r5 => (d_107 a0 1 9 r5.2).bind fun r6 => (d_41 (sh_r a1 2) x2 r5.1 r6.1 r6.2).bind fun r7 => some r7.2
theorem t_101_52 {L nx : Nat} (hN : okn nx) {b z : Nat} {m : Mm} {a0 : Nat} (h0 : ok nx a0 8) {a1 : Nat} (h1 : ok nx a1 3) {x2 : Int32}  : Im (d_101_52 a0 a1 x2 m) (wV L nx) (ev_dn b z 101 52 [some (.ref a0), some (.ref a1), some (.int x2), none, none] [] (nx, mem L nx m)) := by
  unfold d_101_52
  refine i_bl (pc' := 57) [(.aload_n 0, 1), (.iconst 1, 1), (.sipush (999), 3)] [some (.ref a0), some (.ref a1), some (.int x2), none, none] [.int 999, .int 1, .ref a0] (by decide +kernel) rfl ?_
  refine i_cv (ci := 8) (t := 107) (na := 3) (ml := 4) (idx := 52) (pc' := 60) (st' := []) (en := [some (.ref a0), some (.int 1), some (.int 999), none]) (av := [.int 1, .int 999]) (vo := fun v => some (.int v.1)) (mo := fun v => v.2) (s2 := fun v => .int v.1 :: []) (by decide +kernel) (by decide +kernel) h0 ⟨rfl, rfl, rfl, rfl, rfl, rfl⟩ (fun _ => rfl) (t_107 hN (h0 := h0)) (fun r5 => ?_)
  refine i_bl (pc' := 65) [(.istore_n 3, 1), (.aload_n 0, 1), (.iconst 1, 1), (.bipush (9), 2)] [some (.ref a0), some (.ref a1), some (.int x2), some (.int r5.1), none] [.int 9, .int 1, .ref a0] (by decide +kernel) rfl ?_
  refine i_cv (ci := 8) (t := 107) (na := 3) (ml := 4) (idx := 52) (pc' := 68) (st' := []) (en := [some (.ref a0), some (.int 1), some (.int 9), none]) (av := [.int 1, .int 9]) (vo := fun v => some (.int v.1)) (mo := fun v => v.2) (s2 := fun v => .int v.1 :: []) (by decide +kernel) (by decide +kernel) h0 ⟨rfl, rfl, rfl, rfl, rfl, rfl⟩ (fun _ => rfl) (t_107 hN (h0 := h0)) (fun r6 => ?_)
  refine i_bl (pc' := 71) [(.istore 4, 2), (.aload_n 1, 1)] [some (.ref a0), some (.ref a1), some (.int x2), some (.int r5.1), some (.int r6.1)] [.ref a1] (by decide +kernel) rfl ?_
  refine i_gr (idx := 141) (ci := 3) (k := 2) (t := 2) (p := 11181) (pc' := 74) (by decide +kernel) h1 ?_
  refine i_bl (pc' := 78) [(.iload_n 2, 1), (.iload_n 3, 1), (.iload 4, 2)] [some (.ref a0), some (.ref a1), some (.int x2), some (.int r5.1), some (.int r6.1)] [.int r6.1, .int r5.1, .int x2, .ref (sh_r a1 2)] (by decide +kernel) rfl ?_
  refine i_cv (ci := 2) (t := 41) (na := 4) (ml := 6) (idx := 155) (pc' := 81) (st' := []) (en := [some (.ref (sh_r a1 2)), some (.int x2), some (.int r5.1), some (.int r6.1), none, none]) (av := [.int x2, .int r5.1, .int r6.1]) (vo := fun v => some (.int v.1)) (mo := fun v => v.2) (s2 := fun v => .int v.1 :: []) (by decide +kernel) (by decide +kernel) (o_3_2 hN h1) ⟨rfl, rfl, rfl, rfl, rfl, rfl⟩ (fun _ => rfl) (t_41 hN (h0 := (o_3_2 hN h1))) (fun r7 => ?_)
  refine i_bl (pc' := 82) [(.pop, 1)] [some (.ref a0), some (.ref a1), some (.int x2), some (.int r5.1), some (.int r6.1)] [] (by decide +kernel) rfl ?_
  exact i_rv (by decide +kernel) rfl

noncomputable def d_101_19 (a0 : Nat) (a1 : Nat) (m : Mm) : Option Mm := (d_111 a0 m).bind fun m2 => (d_107 a0 0 9999 m2).bind fun r3 => (d_40 (sh_r a1 2) r3.1 r3.2).bind fun v4 => if v4 = true then ((d_110 a0 3 (r3.2 a0 9) r3.2).bind fun m8 => d_101_52 a0 a1 r3.1 m8) else (d_101_52 a0 a1 r3.1 r3.2)
theorem t_101_19 {L nx : Nat} (hN : okn nx) {b z : Nat} {m : Mm} {a0 : Nat} (h0 : ok nx a0 8) {a1 : Nat} (h1 : ok nx a1 3)   : Im (d_101_19 a0 a1 m) (wV L nx) (ev_dn b z 101 19 [some (.ref a0), some (.ref a1), none, none, none] [] (nx, mem L nx m)) := by
  unfold d_101_19
  refine i_bl (pc' := 20) [(.aload_n 0, 1)] [some (.ref a0), some (.ref a1), none, none, none] [.ref a0] (by decide +kernel) rfl ?_
  refine i_cv (ci := 8) (t := 111) (na := 1) (ml := 1) (idx := 43) (pc' := 23) (st' := []) (en := [some (.ref a0)]) (av := []) (vo := fun _ => none) (mo := fun m => m) (s2 := fun _ => []) (by decide +kernel) (by decide +kernel) h0 ⟨rfl, rfl, rfl, rfl, rfl, rfl⟩ (fun _ => rfl) (t_111 hN (h0 := h0)) (fun m2 => ?_)
  refine i_bl (pc' := 28) [(.aload_n 0, 1), (.iconst 0, 1), (.sipush (9999), 3)] [some (.ref a0), some (.ref a1), none, none, none] [.int 9999, .int 0, .ref a0] (by decide +kernel) rfl ?_
  refine i_cv (ci := 8) (t := 107) (na := 3) (ml := 4) (idx := 52) (pc' := 31) (st' := []) (en := [some (.ref a0), some (.int 0), some (.int 9999), none]) (av := [.int 0, .int 9999]) (vo := fun v => some (.int v.1)) (mo := fun v => v.2) (s2 := fun v => .int v.1 :: []) (by decide +kernel) (by decide +kernel) h0 ⟨rfl, rfl, rfl, rfl, rfl, rfl⟩ (fun _ => rfl) (t_107 hN (h0 := h0)) (fun r3 => ?_)
  refine i_bl (pc' := 33) [(.istore_n 2, 1), (.aload_n 1, 1)] [some (.ref a0), some (.ref a1), some (.int r3.1), none, none] [.ref a1] (by decide +kernel) rfl ?_
  refine i_gr (idx := 141) (ci := 3) (k := 2) (t := 2) (p := 11181) (pc' := 36) (by decide +kernel) h1 ?_
  refine i_bl (pc' := 37) [(.iload_n 2, 1)] [some (.ref a0), some (.ref a1), some (.int r3.1), none, none] [.int r3.1, .ref (sh_r a1 2)] (by decide +kernel) rfl ?_
  refine i_cv (ci := 2) (t := 40) (na := 2) (ml := 3) (idx := 151) (pc' := 40) (st' := []) (en := [some (.ref (sh_r a1 2)), some (.int r3.1), none]) (av := [.int r3.1]) (vo := fun v => some (.int (bi v))) (mo := fun _ => r3.2) (s2 := fun v => .int (bi v) :: []) (by decide +kernel) (by decide +kernel) (o_3_2 hN h1) ⟨rfl, rfl, rfl, rfl, rfl, rfl⟩ (fun _ => rfl) (t_40 hN (h0 := (o_3_2 hN h1))) (fun v4 => ?_)
  refine i_bz (off := 12) (t := 52) (pc' := 43) (by decide +kernel) ?_ ?_
  · refine i_bl (pc' := 46) [(.aload_n 0, 1), (.iconst 3, 1), (.aload_n 0, 1)] [some (.ref a0), some (.ref a1), some (.int r3.1), none, none] [.ref a0, .int 3, .ref a0] (by decide +kernel) rfl ?_
    refine i_gf (idx := 40) (ci := 8) (k := 9) (t := 0) (p := 11057) (pc' := 49) (by decide +kernel) h0 ?_
    refine i_cv (ci := 8) (t := 110) (na := 3) (ml := 3) (idx := 69) (pc' := 52) (st' := []) (en := [some (.ref a0), some (.int 3), some (.int (r3.2 a0 9))]) (av := [.int 3, .int (r3.2 a0 9)]) (vo := fun _ => none) (mo := fun m => m) (s2 := fun _ => []) (by decide +kernel) (by decide +kernel) h0 ⟨rfl, rfl, rfl, rfl, rfl, rfl⟩ (fun _ => rfl) (t_110 hN (h0 := h0)) (fun m8 => ?_)
    exact t_101_52 hN (h0 := h0) (h1 := h1)
  · exact t_101_52 hN (h0 := h0) (h1 := h1)

noncomputable def d_101 (a0 : Nat) (a1 : Nat) (m : Mm) : Option Mm := (d_39 (sh_r a1 2) m).bind fun v1 => if v1 = true then ((d_110 a0 4 (m a0 8) m).bind fun m9 => d_101_19 a0 a1 m9) else (d_101_19 a0 a1 m)
theorem t_101 {L nx : Nat} (hN : okn nx) {b z : Nat} {m : Mm} {a0 : Nat} (h0 : ok nx a0 8) {a1 : Nat} (h1 : ok nx a1 3)   : Im (d_101 a0 a1 m) (wV L nx) (ev_dn b z 101 0 [some (.ref a0), some (.ref a1), none, none, none] [] (nx, mem L nx m)) := by
  unfold d_101
  refine i_bl (pc' := 1) [(.aload_n 1, 1)] [some (.ref a0), some (.ref a1), none, none, none] [.ref a1] (by decide +kernel) rfl ?_
  refine i_gr (idx := 141) (ci := 3) (k := 2) (t := 2) (p := 11181) (pc' := 4) (by decide +kernel) h1 ?_
  refine i_cv (ci := 2) (t := 39) (na := 1) (ml := 1) (idx := 145) (pc' := 7) (st' := []) (en := [some (.ref (sh_r a1 2))]) (av := []) (vo := fun v => some (.int (bi v))) (mo := fun _ => m) (s2 := fun v => .int (bi v) :: []) (by decide +kernel) (by decide +kernel) (o_3_2 hN h1) ⟨rfl, rfl, rfl, rfl, rfl, rfl⟩ (fun _ => rfl) (t_39 hN (h0 := (o_3_2 hN h1))) (fun v1 => ?_)
  refine i_bz (off := 12) (t := 19) (pc' := 10) (by decide +kernel) ?_ ?_
  · refine i_bl (pc' := 13) [(.aload_n 0, 1), (.iconst 4, 1), (.aload_n 0, 1)] [some (.ref a0), some (.ref a1), none, none, none] [.ref a0, .int 4, .ref a0] (by decide +kernel) rfl ?_
    refine i_gf (idx := 37) (ci := 8) (k := 8) (t := 0) (p := 11056) (pc' := 16) (by decide +kernel) h0 ?_
    refine i_cv (ci := 8) (t := 110) (na := 3) (ml := 3) (idx := 69) (pc' := 19) (st' := []) (en := [some (.ref a0), some (.int 4), some (.int (m a0 8))]) (av := [.int 4, .int (m a0 8)]) (vo := fun _ => none) (mo := fun m => m) (s2 := fun _ => []) (by decide +kernel) (by decide +kernel) h0 ⟨rfl, rfl, rfl, rfl, rfl, rfl⟩ (fun _ => rfl) (t_110 hN (h0 := h0)) (fun m9 => ?_)
    exact t_101_19 hN (h0 := h0) (h1 := h1)
  · exact t_101_19 hN (h0 := h0) (h1 := h1)

/-! 99 LanternChess$SetupText.readStatement(LLanternChess$Game;)V -/
noncomputable def d_99 (a0 : Nat) (a1 : Nat) (m : Mm) : Option Mm := (d_109 a0 4 m).bind fun v1 => if v1 = true then ((d_104 a0 1 m).bind fun m21 => (d_107 a0 1 9999 m21).bind fun r22 => (d_53 a1 0 r22.1 r22.2).bind fun m23 => (d_107 a0 1 9999 m23).bind fun r24 => (d_53 a1 1 r24.1 r24.2).bind fun m25 => some m25) else ((d_109 a0 5 m).bind fun v2 => if v2 = true then ((d_104 a0 2 m).bind fun m18 => (d_107 a0 1 5 m18).bind fun r19 => wb (wr r19.2 a1 8 r19.1) fun m20 => some m20) else ((d_109 a0 6 m).bind fun v3 => if v3 = true then ((d_104 a0 4 m).bind fun m15 => (d_107 a0 0 9 m15).bind fun r16 => wb (wr r16.2 a1 9 r16.1) fun m17 => some m17) else ((d_109 a0 7 m).bind fun v4 => if v4 = true then ((d_104 a0 8 m).bind fun m12 => (d_107 a0 1 9 m12).bind fun r13 => wb (wr r13.2 a1 10 r13.1) fun m14 => some m14) else ((d_109 a0 8 m).bind fun v5 => if v5 = true then ((d_100 a0 a1 0 m).bind fun m11 => some m11) else ((d_109 a0 15 m).bind fun v6 => if v6 = true then ((d_100 a0 a1 1 m).bind fun m10 => some m10) else ((d_109 a0 16 m).bind fun v7 => if v7 = true then ((d_101 a0 a1 m).bind fun m9 => some m9) else ((d_110 a0 1 (m a0 8) m).bind fun m8 => some m8)))))))
theorem t_99 {L nx : Nat} (hN : okn nx) {b z : Nat} {m : Mm} {a0 : Nat} (h0 : ok nx a0 8) {a1 : Nat} (h1 : ok nx a1 3)   : Im (d_99 a0 a1 m) (wV L nx) (ev_dn b z 99 0 [some (.ref a0), some (.ref a1)] [] (nx, mem L nx m)) := by
  unfold d_99
  refine i_bl (pc' := 1) [(.aload_n 0, 1)] [some (.ref a0), some (.ref a1)] [.ref a0] (by decide +kernel) rfl ?_
  refine i_lt (idx := 72) (p := 14085) (w := 4) (tx := "clock") (pc' := 3) (by decide +kernel) ?_
  refine i_cv (ci := 8) (t := 109) (na := 2) (ml := 3) (idx := 74) (pc' := 6) (st' := []) (en := [some (.ref a0), some (.ref 4), none]) (av := [.ref 4]) (vo := fun v => some (.int (bi v))) (mo := fun _ => m) (s2 := fun v => .int (bi v) :: []) (by decide +kernel) (by decide +kernel) h0 ⟨rfl, rfl, rfl, rfl, rfl, rfl⟩ (fun _ => rfl) (t_109 hN (h0 := h0) (h1 := (o_lo hN (by decide +kernel)))) (fun v1 => ?_)
  refine i_bz (off := 37) (t := 43) (pc' := 9) (by decide +kernel) ?_ ?_
  · refine i_bl (pc' := 11) [(.aload_n 0, 1), (.iconst 1, 1)] [some (.ref a0), some (.ref a1)] [.int 1, .ref a0] (by decide +kernel) rfl ?_
    refine i_cv (ci := 8) (t := 104) (na := 2) (ml := 2) (idx := 78) (pc' := 14) (st' := []) (en := [some (.ref a0), some (.int 1)]) (av := [.int 1]) (vo := fun _ => none) (mo := fun m => m) (s2 := fun _ => []) (by decide +kernel) (by decide +kernel) h0 ⟨rfl, rfl, rfl, rfl, rfl, rfl⟩ (fun _ => rfl) (t_104 hN (h0 := h0)) (fun m21 => ?_)
    refine i_bl (pc' := 21) [(.aload_n 1, 1), (.iconst 0, 1), (.aload_n 0, 1), (.iconst 1, 1), (.sipush (9999), 3)] [some (.ref a0), some (.ref a1)] [.int 9999, .int 1, .ref a0, .int 0, .ref a1] (by decide +kernel) rfl ?_
    refine i_cv (ci := 8) (t := 107) (na := 3) (ml := 4) (idx := 52) (pc' := 24) (st' := [.int 0, .ref a1]) (en := [some (.ref a0), some (.int 1), some (.int 9999), none]) (av := [.int 1, .int 9999]) (vo := fun v => some (.int v.1)) (mo := fun v => v.2) (s2 := fun v => .int v.1 :: [.int 0, .ref a1]) (by decide +kernel) (by decide +kernel) h0 ⟨rfl, rfl, rfl, rfl, rfl, rfl⟩ (fun _ => rfl) (t_107 hN (h0 := h0)) (fun r22 => ?_)
    refine i_cv (ci := 3) (t := 53) (na := 3) (ml := 3) (idx := 82) (pc' := 27) (st' := []) (en := [some (.ref a1), some (.int 0), some (.int r22.1)]) (av := [.int 0, .int r22.1]) (vo := fun _ => none) (mo := fun m => m) (s2 := fun _ => []) (by decide +kernel) (by decide +kernel) h1 ⟨rfl, rfl, rfl, rfl, rfl, rfl⟩ (fun _ => rfl) (t_53 hN (h0 := h1)) (fun m23 => ?_)
    refine i_bl (pc' := 34) [(.aload_n 1, 1), (.iconst 1, 1), (.aload_n 0, 1), (.iconst 1, 1), (.sipush (9999), 3)] [some (.ref a0), some (.ref a1)] [.int 9999, .int 1, .ref a0, .int 1, .ref a1] (by decide +kernel) rfl ?_
    refine i_cv (ci := 8) (t := 107) (na := 3) (ml := 4) (idx := 52) (pc' := 37) (st' := [.int 1, .ref a1]) (en := [some (.ref a0), some (.int 1), some (.int 9999), none]) (av := [.int 1, .int 9999]) (vo := fun v => some (.int v.1)) (mo := fun v => v.2) (s2 := fun v => .int v.1 :: [.int 1, .ref a1]) (by decide +kernel) (by decide +kernel) h0 ⟨rfl, rfl, rfl, rfl, rfl, rfl⟩ (fun _ => rfl) (t_107 hN (h0 := h0)) (fun r24 => ?_)
    refine i_cv (ci := 3) (t := 53) (na := 3) (ml := 3) (idx := 82) (pc' := 40) (st' := []) (en := [some (.ref a1), some (.int 1), some (.int r24.1)]) (av := [.int 1, .int r24.1]) (vo := fun _ => none) (mo := fun m => m) (s2 := fun _ => []) (by decide +kernel) (by decide +kernel) h1 ⟨rfl, rfl, rfl, rfl, rfl, rfl⟩ (fun _ => rfl) (t_53 hN (h0 := h1)) (fun m25 => ?_)
    refine i_go (t := 189) (off := 149) (by decide +kernel) ?_
    exact i_rv (by decide +kernel) rfl
  · refine i_bl (pc' := 44) [(.aload_n 0, 1)] [some (.ref a0), some (.ref a1)] [.ref a0] (by decide +kernel) rfl ?_
    refine i_lt (idx := 85) (p := 14091) (w := 5) (tx := "pause") (pc' := 46) (by decide +kernel) ?_
    refine i_cv (ci := 8) (t := 109) (na := 2) (ml := 3) (idx := 74) (pc' := 49) (st' := []) (en := [some (.ref a0), some (.ref 5), none]) (av := [.ref 5]) (vo := fun v => some (.int (bi v))) (mo := fun _ => m) (s2 := fun v => .int (bi v) :: []) (by decide +kernel) (by decide +kernel) h0 ⟨rfl, rfl, rfl, rfl, rfl, rfl⟩ (fun _ => rfl) (t_109 hN (h0 := h0) (h1 := (o_lo hN (by decide +kernel)))) (fun v2 => ?_)
    refine i_bz (off := 21) (t := 70) (pc' := 52) (by decide +kernel) ?_ ?_
    · refine i_bl (pc' := 54) [(.aload_n 0, 1), (.iconst 2, 1)] [some (.ref a0), some (.ref a1)] [.int 2, .ref a0] (by decide +kernel) rfl ?_
      refine i_cv (ci := 8) (t := 104) (na := 2) (ml := 2) (idx := 78) (pc' := 57) (st' := []) (en := [some (.ref a0), some (.int 2)]) (av := [.int 2]) (vo := fun _ => none) (mo := fun m => m) (s2 := fun _ => []) (by decide +kernel) (by decide +kernel) h0 ⟨rfl, rfl, rfl, rfl, rfl, rfl⟩ (fun _ => rfl) (t_104 hN (h0 := h0)) (fun m18 => ?_)
      refine i_bl (pc' := 61) [(.aload_n 1, 1), (.aload_n 0, 1), (.iconst 1, 1), (.iconst 5, 1)] [some (.ref a0), some (.ref a1)] [.int 5, .int 1, .ref a0, .ref a1] (by decide +kernel) rfl ?_
      refine i_cv (ci := 8) (t := 107) (na := 3) (ml := 4) (idx := 52) (pc' := 64) (st' := [.ref a1]) (en := [some (.ref a0), some (.int 1), some (.int 5), none]) (av := [.int 1, .int 5]) (vo := fun v => some (.int v.1)) (mo := fun v => v.2) (s2 := fun v => .int v.1 :: [.ref a1]) (by decide +kernel) (by decide +kernel) h0 ⟨rfl, rfl, rfl, rfl, rfl, rfl⟩ (fun _ => rfl) (t_107 hN (h0 := h0)) (fun r19 => ?_)
      refine i_pf (x := r19.1) (idx := 87) (ci := 3) (k := 8) (p := 11194) (pc' := 67) (by decide +kernel) h1 (fun m20 => ?_)
      refine i_go (t := 189) (off := 122) (by decide +kernel) ?_
      exact i_rv (by decide +kernel) rfl
    · refine i_bl (pc' := 71) [(.aload_n 0, 1)] [some (.ref a0), some (.ref a1)] [.ref a0] (by decide +kernel) rfl ?_
      refine i_lt (idx := 89) (p := 14092) (w := 6) (tx := "wait") (pc' := 73) (by decide +kernel) ?_
      refine i_cv (ci := 8) (t := 109) (na := 2) (ml := 3) (idx := 74) (pc' := 76) (st' := []) (en := [some (.ref a0), some (.ref 6), none]) (av := [.ref 6]) (vo := fun v => some (.int (bi v))) (mo := fun _ => m) (s2 := fun v => .int (bi v) :: []) (by decide +kernel) (by decide +kernel) h0 ⟨rfl, rfl, rfl, rfl, rfl, rfl⟩ (fun _ => rfl) (t_109 hN (h0 := h0) (h1 := (o_lo hN (by decide +kernel)))) (fun v3 => ?_)
      refine i_bz (off := 22) (t := 98) (pc' := 79) (by decide +kernel) ?_ ?_
      · refine i_bl (pc' := 81) [(.aload_n 0, 1), (.iconst 4, 1)] [some (.ref a0), some (.ref a1)] [.int 4, .ref a0] (by decide +kernel) rfl ?_
        refine i_cv (ci := 8) (t := 104) (na := 2) (ml := 2) (idx := 78) (pc' := 84) (st' := []) (en := [some (.ref a0), some (.int 4)]) (av := [.int 4]) (vo := fun _ => none) (mo := fun m => m) (s2 := fun _ => []) (by decide +kernel) (by decide +kernel) h0 ⟨rfl, rfl, rfl, rfl, rfl, rfl⟩ (fun _ => rfl) (t_104 hN (h0 := h0)) (fun m15 => ?_)
        refine i_bl (pc' := 89) [(.aload_n 1, 1), (.aload_n 0, 1), (.iconst 0, 1), (.bipush (9), 2)] [some (.ref a0), some (.ref a1)] [.int 9, .int 0, .ref a0, .ref a1] (by decide +kernel) rfl ?_
        refine i_cv (ci := 8) (t := 107) (na := 3) (ml := 4) (idx := 52) (pc' := 92) (st' := [.ref a1]) (en := [some (.ref a0), some (.int 0), some (.int 9), none]) (av := [.int 0, .int 9]) (vo := fun v => some (.int v.1)) (mo := fun v => v.2) (s2 := fun v => .int v.1 :: [.ref a1]) (by decide +kernel) (by decide +kernel) h0 ⟨rfl, rfl, rfl, rfl, rfl, rfl⟩ (fun _ => rfl) (t_107 hN (h0 := h0)) (fun r16 => ?_)
        refine i_pf (x := r16.1) (idx := 91) (ci := 3) (k := 9) (p := 11197) (pc' := 95) (by decide +kernel) h1 (fun m17 => ?_)
        refine i_go (t := 189) (off := 94) (by decide +kernel) ?_
        exact i_rv (by decide +kernel) rfl
      · refine i_bl (pc' := 99) [(.aload_n 0, 1)] [some (.ref a0), some (.ref a1)] [.ref a0] (by decide +kernel) rfl ?_
        refine i_lt (idx := 94) (p := 14093) (w := 7) (tx := "tries") (pc' := 101) (by decide +kernel) ?_
        refine i_cv (ci := 8) (t := 109) (na := 2) (ml := 3) (idx := 74) (pc' := 104) (st' := []) (en := [some (.ref a0), some (.ref 7), none]) (av := [.ref 7]) (vo := fun v => some (.int (bi v))) (mo := fun _ => m) (s2 := fun v => .int (bi v) :: []) (by decide +kernel) (by decide +kernel) h0 ⟨rfl, rfl, rfl, rfl, rfl, rfl⟩ (fun _ => rfl) (t_109 hN (h0 := h0) (h1 := (o_lo hN (by decide +kernel)))) (fun v4 => ?_)
        refine i_bz (off := 23) (t := 127) (pc' := 107) (by decide +kernel) ?_ ?_
        · refine i_bl (pc' := 110) [(.aload_n 0, 1), (.bipush (8), 2)] [some (.ref a0), some (.ref a1)] [.int 8, .ref a0] (by decide +kernel) rfl ?_
          refine i_cv (ci := 8) (t := 104) (na := 2) (ml := 2) (idx := 78) (pc' := 113) (st' := []) (en := [some (.ref a0), some (.int 8)]) (av := [.int 8]) (vo := fun _ => none) (mo := fun m => m) (s2 := fun _ => []) (by decide +kernel) (by decide +kernel) h0 ⟨rfl, rfl, rfl, rfl, rfl, rfl⟩ (fun _ => rfl) (t_104 hN (h0 := h0)) (fun m12 => ?_)
          refine i_bl (pc' := 118) [(.aload_n 1, 1), (.aload_n 0, 1), (.iconst 1, 1), (.bipush (9), 2)] [some (.ref a0), some (.ref a1)] [.int 9, .int 1, .ref a0, .ref a1] (by decide +kernel) rfl ?_
          refine i_cv (ci := 8) (t := 107) (na := 3) (ml := 4) (idx := 52) (pc' := 121) (st' := [.ref a1]) (en := [some (.ref a0), some (.int 1), some (.int 9), none]) (av := [.int 1, .int 9]) (vo := fun v => some (.int v.1)) (mo := fun v => v.2) (s2 := fun v => .int v.1 :: [.ref a1]) (by decide +kernel) (by decide +kernel) h0 ⟨rfl, rfl, rfl, rfl, rfl, rfl⟩ (fun _ => rfl) (t_107 hN (h0 := h0)) (fun r13 => ?_)
          refine i_pf (x := r13.1) (idx := 96) (ci := 3) (k := 10) (p := 11200) (pc' := 124) (by decide +kernel) h1 (fun m14 => ?_)
          refine i_go (t := 189) (off := 65) (by decide +kernel) ?_
          exact i_rv (by decide +kernel) rfl
        · refine i_bl (pc' := 128) [(.aload_n 0, 1)] [some (.ref a0), some (.ref a1)] [.ref a0] (by decide +kernel) rfl ?_
          refine i_lt (idx := 98) (p := 14094) (w := 8) (tx := "white") (pc' := 130) (by decide +kernel) ?_
          refine i_cv (ci := 8) (t := 109) (na := 2) (ml := 3) (idx := 74) (pc' := 133) (st' := []) (en := [some (.ref a0), some (.ref 8), none]) (av := [.ref 8]) (vo := fun v => some (.int (bi v))) (mo := fun _ => m) (s2 := fun v => .int (bi v) :: []) (by decide +kernel) (by decide +kernel) h0 ⟨rfl, rfl, rfl, rfl, rfl, rfl⟩ (fun _ => rfl) (t_109 hN (h0 := h0) (h1 := (o_lo hN (by decide +kernel)))) (fun v5 => ?_)
          refine i_bz (off := 12) (t := 145) (pc' := 136) (by decide +kernel) ?_ ?_
          · refine i_bl (pc' := 139) [(.aload_n 0, 1), (.aload_n 1, 1), (.iconst 0, 1)] [some (.ref a0), some (.ref a1)] [.int 0, .ref a1, .ref a0] (by decide +kernel) rfl ?_
            refine i_cv (ci := 8) (t := 100) (na := 3) (ml := 7) (idx := 100) (pc' := 142) (st' := []) (en := [some (.ref a0), some (.ref a1), some (.int 0), none, none, none, none]) (av := [.ref a1, .int 0]) (vo := fun _ => none) (mo := fun m => m) (s2 := fun _ => []) (by decide +kernel) (by decide +kernel) h0 ⟨rfl, rfl, rfl, rfl, rfl, rfl⟩ (fun _ => rfl) (t_100 hN (h0 := h0) (h1 := h1)) (fun m11 => ?_)
            refine i_go (t := 189) (off := 47) (by decide +kernel) ?_
            exact i_rv (by decide +kernel) rfl
          · refine i_bl (pc' := 146) [(.aload_n 0, 1)] [some (.ref a0), some (.ref a1)] [.ref a0] (by decide +kernel) rfl ?_
            refine i_lt (idx := 104) (p := 14119) (w := 15) (tx := "black") (pc' := 148) (by decide +kernel) ?_
            refine i_cv (ci := 8) (t := 109) (na := 2) (ml := 3) (idx := 74) (pc' := 151) (st' := []) (en := [some (.ref a0), some (.ref 15), none]) (av := [.ref 15]) (vo := fun v => some (.int (bi v))) (mo := fun _ => m) (s2 := fun v => .int (bi v) :: []) (by decide +kernel) (by decide +kernel) h0 ⟨rfl, rfl, rfl, rfl, rfl, rfl⟩ (fun _ => rfl) (t_109 hN (h0 := h0) (h1 := (o_lo hN (by decide +kernel)))) (fun v6 => ?_)
            refine i_bz (off := 12) (t := 163) (pc' := 154) (by decide +kernel) ?_ ?_
            · refine i_bl (pc' := 157) [(.aload_n 0, 1), (.aload_n 1, 1), (.iconst 1, 1)] [some (.ref a0), some (.ref a1)] [.int 1, .ref a1, .ref a0] (by decide +kernel) rfl ?_
              refine i_cv (ci := 8) (t := 100) (na := 3) (ml := 7) (idx := 100) (pc' := 160) (st' := []) (en := [some (.ref a0), some (.ref a1), some (.int 1), none, none, none, none]) (av := [.ref a1, .int 1]) (vo := fun _ => none) (mo := fun m => m) (s2 := fun _ => []) (by decide +kernel) (by decide +kernel) h0 ⟨rfl, rfl, rfl, rfl, rfl, rfl⟩ (fun _ => rfl) (t_100 hN (h0 := h0) (h1 := h1)) (fun m10 => ?_)
              refine i_go (t := 189) (off := 29) (by decide +kernel) ?_
              exact i_rv (by decide +kernel) rfl
            · refine i_bl (pc' := 164) [(.aload_n 0, 1)] [some (.ref a0), some (.ref a1)] [.ref a0] (by decide +kernel) rfl ?_
              refine i_lt (idx := 106) (p := 14120) (w := 16) (tx := "fog") (pc' := 166) (by decide +kernel) ?_
              refine i_cv (ci := 8) (t := 109) (na := 2) (ml := 3) (idx := 74) (pc' := 169) (st' := []) (en := [some (.ref a0), some (.ref 16), none]) (av := [.ref 16]) (vo := fun v => some (.int (bi v))) (mo := fun _ => m) (s2 := fun v => .int (bi v) :: []) (by decide +kernel) (by decide +kernel) h0 ⟨rfl, rfl, rfl, rfl, rfl, rfl⟩ (fun _ => rfl) (t_109 hN (h0 := h0) (h1 := (o_lo hN (by decide +kernel)))) (fun v7 => ?_)
              refine i_bz (off := 11) (t := 180) (pc' := 172) (by decide +kernel) ?_ ?_
              · refine i_bl (pc' := 174) [(.aload_n 0, 1), (.aload_n 1, 1)] [some (.ref a0), some (.ref a1)] [.ref a1, .ref a0] (by decide +kernel) rfl ?_
                refine i_cv (ci := 8) (t := 101) (na := 2) (ml := 5) (idx := 108) (pc' := 177) (st' := []) (en := [some (.ref a0), some (.ref a1), none, none, none]) (av := [.ref a1]) (vo := fun _ => none) (mo := fun m => m) (s2 := fun _ => []) (by decide +kernel) (by decide +kernel) h0 ⟨rfl, rfl, rfl, rfl, rfl, rfl⟩ (fun _ => rfl) (t_101 hN (h0 := h0) (h1 := h1)) (fun m9 => ?_)
                refine i_go (t := 189) (off := 12) (by decide +kernel) ?_
                exact i_rv (by decide +kernel) rfl
              · refine i_bl (pc' := 183) [(.aload_n 0, 1), (.iconst 1, 1), (.aload_n 0, 1)] [some (.ref a0), some (.ref a1)] [.ref a0, .int 1, .ref a0] (by decide +kernel) rfl ?_
                refine i_gf (idx := 37) (ci := 8) (k := 8) (t := 0) (p := 11056) (pc' := 186) (by decide +kernel) h0 ?_
                refine i_cv (ci := 8) (t := 110) (na := 3) (ml := 3) (idx := 69) (pc' := 189) (st' := []) (en := [some (.ref a0), some (.int 1), some (.int (m a0 8))]) (av := [.int 1, .int (m a0 8)]) (vo := fun _ => none) (mo := fun m => m) (s2 := fun _ => []) (by decide +kernel) (by decide +kernel) h0 ⟨rfl, rfl, rfl, rfl, rfl, rfl⟩ (fun _ => rfl) (t_110 hN (h0 := h0)) (fun m8 => ?_)
                exact i_rv (by decide +kernel) rfl

/-! 98 LanternChess$SetupText.read(LLanternChess$Game;)V -/
noncomputable def E_98_64 (L nx b z : Nat) (a0 : Nat) (a1 : Nat) (d : Option Value × Option Value) (s : (Int32 × Mm)) : ev_Q := ev_dn b z 98 64 [some (.ref a0), some (.ref a1), d.1, d.2, some (.int s.1)] [] (nx, mem L nx s.2)
noncomputable def d_98_101 (a0 : Nat) (m : Mm) : Option Mm := if ((m a0 5) &&& (48 : Int32)) = 48 then (some m) else ((d_110 a0 5 (m a0 1) m).bind fun m12 => some m12)
theorem t_98_101 {L nx : Nat} (hN : okn nx) {b z : Nat} {m : Mm} {a0 : Nat} (h0 : ok nx a0 8)  {o1 : Option Value} {o2 : Option Value} {o3 : Option Value} {o4 : Option Value} : Im (d_98_101 a0 m) (wV L nx) (ev_dn b z 98 101 [some (.ref a0), o1, o2, o3, o4] [] (nx, mem L nx m)) := by
  unfold d_98_101
  refine i_bl (pc' := 106) [(.bipush (48), 2), (.istore 4, 2), (.aload_n 0, 1)] [some (.ref a0), o1, o2, (ev_kl o3), some (.int 48)] [.ref a0] (by decide +kernel) rfl ?_
  refine i_gf (idx := 28) (ci := 8) (k := 5) (t := 0) (p := 11053) (pc' := 109) (by decide +kernel) h0 ?_
  refine i_bl (pc' := 114) [(.iload 4, 2), (.iand, 1), (.iload 4, 2)] [some (.ref a0), o1, o2, (ev_kl o3), some (.int 48)] [.int 48, .int ((m a0 5) &&& (48 : Int32))] (by decide +kernel) rfl ?_
  refine i_ic (c := .eq) (off := 12) (t := 126) (pc' := 117) (p := ((m a0 5) &&& (48 : Int32)) = 48) (by decide +kernel) rfl ?_ ?_
  · exact i_rv (by decide +kernel) rfl
  · refine i_bl (pc' := 120) [(.aload_n 0, 1), (.iconst 5, 1), (.aload_n 0, 1)] [some (.ref a0), o1, o2, (ev_kl o3), some (.int 48)] [.ref a0, .int 5, .ref a0] (by decide +kernel) rfl ?_
    refine i_gf (idx := 15) (ci := 8) (k := 1) (t := 0) (p := 11046) (pc' := 123) (by decide +kernel) h0 ?_
    refine i_cv (ci := 8) (t := 110) (na := 3) (ml := 3) (idx := 69) (pc' := 126) (st' := []) (en := [some (.ref a0), some (.int 5), some (.int (m a0 1))]) (av := [.int 5, .int (m a0 1)]) (vo := fun _ => none) (mo := fun m => m) (s2 := fun _ => []) (by decide +kernel) (by decide +kernel) h0 ⟨rfl, rfl, rfl, rfl, rfl, rfl⟩ (fun _ => rfl) (t_110 hN (h0 := h0)) (fun m12 => ?_)
    exact i_rv (by decide +kernel) rfl

noncomputable def s_98_64 (a0 : Nat) (a1 : Nat) (x4 : Int32) (m : Mm) : Option ((Int32 × Mm) ⊕ Mm) := if 600 ≤ x4 then ((d_98_101 a0 m).map Sum.inr) else (if ¬ (m a0 2) = 0 then ((d_98_101 a0 m).map Sum.inr) else (if (m a0 7) = 0 then ((d_98_101 a0 m).map Sum.inr) else ((d_99 a0 a1 m).bind fun m13 => (d_106 a0 m13).bind fun m14 => wb (x4 + 1) fun y15 => some (.inl (y15, m14)))))
noncomputable def d_98_64 (a0 : Nat) (a1 : Nat) (x4 : Int32) (m : Mm) : Option Mm := it (fun s => s_98_64 a0 a1 s.1 s.2) (x4, m)
theorem e_98_64 (a0 : Nat) (a1 : Nat) (x4 : Int32) (m : Mm) : d_98_64 a0 a1 x4 m = oi (s_98_64 a0 a1 x4 m) (fun s => d_98_64 a0 a1 s.1 s.2) := it_eq _
theorem u_98_64 {L nx : Nat} (hN : okn nx) {b z : Nat} {m : Mm} {a0 : Nat} (h0 : ok nx a0 8) {a1 : Nat} (h1 : ok nx a1 3) {x4 : Int32} {o2 : Option Value} {o3 : Option Value} : Im (s_98_64 a0 a1 x4 m) (kL (wV L nx) (E_98_64 L nx b z a0 a1)) (ev_dn b z 98 64 [some (.ref a0), some (.ref a1), o2, o3, some (.int x4)] [] (nx, mem L nx m)) := by
  unfold s_98_64
  refine i_bl (pc' := 69) [(.iload 4, 2), (.sipush (600), 3)] [some (.ref a0), some (.ref a1), o2, o3, some (.int x4)] [.int 600, .int x4] (by decide +kernel) rfl ?_
  refine i_ic (c := .ge) (off := 32) (t := 101) (pc' := 72) (p := 600 ≤ x4) (by decide +kernel) rfl ?_ ?_
  · exact i_mr (t_98_101 hN (h0 := h0))
  · refine i_bl (pc' := 73) [(.aload_n 0, 1)] [some (.ref a0), some (.ref a1), o2, o3, some (.int x4)] [.ref a0] (by decide +kernel) rfl ?_
    refine i_gf (idx := 19) (ci := 8) (k := 2) (t := 0) (p := 11048) (pc' := 76) (by decide +kernel) h0 ?_
    refine i_if (c := .ne) (off := 25) (t := 101) (pc' := 79) (p := ¬ (m a0 2) = 0) (by decide +kernel) rfl ?_ ?_
    · exact i_mr (t_98_101 hN (h0 := h0))
    · refine i_bl (pc' := 80) [(.aload_n 0, 1)] [some (.ref a0), some (.ref a1), o2, o3, some (.int x4)] [.ref a0] (by decide +kernel) rfl ?_
      refine i_gf (idx := 34) (ci := 8) (k := 7) (t := 0) (p := 11055) (pc' := 83) (by decide +kernel) h0 ?_
      refine i_if (c := .eq) (off := 18) (t := 101) (pc' := 86) (p := (m a0 7) = 0) (by decide +kernel) rfl ?_ ?_
      · exact i_mr (t_98_101 hN (h0 := h0))
      · refine i_bl (pc' := 88) [(.aload_n 0, 1), (.aload_n 1, 1)] [some (.ref a0), some (.ref a1), o2, o3, some (.int x4)] [.ref a1, .ref a0] (by decide +kernel) rfl ?_
        refine i_cv (ci := 8) (t := 99) (na := 2) (ml := 2) (idx := 65) (pc' := 91) (st' := []) (en := [some (.ref a0), some (.ref a1)]) (av := [.ref a1]) (vo := fun _ => none) (mo := fun m => m) (s2 := fun _ => []) (by decide +kernel) (by decide +kernel) h0 ⟨rfl, rfl, rfl, rfl, rfl, rfl⟩ (fun _ => rfl) (t_99 hN (h0 := h0) (h1 := h1)) (fun m13 => ?_)
        refine i_bl (pc' := 92) [(.aload_n 0, 1)] [some (.ref a0), some (.ref a1), o2, o3, some (.int x4)] [.ref a0] (by decide +kernel) rfl ?_
        refine i_cv (ci := 8) (t := 106) (na := 1) (ml := 1) (idx := 56) (pc' := 95) (st' := []) (en := [some (.ref a0)]) (av := []) (vo := fun _ => none) (mo := fun m => m) (s2 := fun _ => []) (by decide +kernel) (by decide +kernel) h0 ⟨rfl, rfl, rfl, rfl, rfl, rfl⟩ (fun _ => rfl) (t_106 hN (h0 := h0)) (fun m14 => ?_)
        refine i_bl (pc' := 98) [(.iinc 4 (1), 3)] [some (.ref a0), some (.ref a1), o2, (ev_kl o3), some (.int (x4 + 1))] [] (by decide +kernel) rfl ?_
        refine i_wb (fun y15 => ev_dn b z 98 98 [some (.ref a0), some (.ref a1), o2, (ev_kl o3), some (.int y15)] [] (nx, mem L nx m14)) (fun y15 => ?_)
        refine i_go (t := 64) (off := -34) (by decide +kernel) ?_
        exact i_co (o2, (ev_kl o3)) rfl

theorem t_98_64 {L nx : Nat} (hN : okn nx) {b z : Nat} {m : Mm} {a0 : Nat} (h0 : ok nx a0 8) {a1 : Nat} (h1 : ok nx a1 3) {x4 : Int32} {o2 : Option Value} {o3 : Option Value} : Im (d_98_64 a0 a1 x4 m) (wV L nx) (ev_dn b z 98 64 [some (.ref a0), some (.ref a1), o2, o3, some (.int x4)] [] (nx, mem L nx m)) := by
  exact i_it (f := fun s => s_98_64 a0 a1 s.1 s.2) (E := E_98_64 L nx b z a0 a1) (K := (wV L nx)) (fun d s => u_98_64 hN (h0 := h0) (h1 := h1)) (o2, o3) (x4, m)
noncomputable def d_98 (a0 : Nat) (a1 : Nat) (m : Mm) : Option Mm := wb (wr m a0 2 0) fun m1 => wb (wr m1 a0 3 (-1)) fun m2 => wb (wr m2 a0 4 0) fun m3 => wb (wr m3 a0 5 0) fun m4 => wb (wr m4 a0 6 0) fun m5 => (d_111 a0 m5).bind fun m6 => (d_105 a0 3 m6).bind fun m7 => (d_107 a0 4 8 m7).bind fun r8 => (d_107 a0 4 8 r8.2).bind fun r9 => (d_106 a0 r9.2).bind fun m10 => (d_48 a1 r8.1 r9.1 m10).bind fun m11 => d_98_64 a0 a1 0 m11
theorem t_98 {L nx : Nat} (hN : okn nx) {b z : Nat} {m : Mm} {a0 : Nat} (h0 : ok nx a0 8) {a1 : Nat} (h1 : ok nx a1 3)   : Im (d_98 a0 a1 m) (wV L nx) (ev_dn b z 98 0 [some (.ref a0), some (.ref a1), none, none, none] [] (nx, mem L nx m)) := by
  unfold d_98
  refine i_bl (pc' := 2) [(.aload_n 0, 1), (.iconst 0, 1)] [some (.ref a0), some (.ref a1), none, none, none] [.int 0, .ref a0] (by decide +kernel) rfl ?_
  refine i_pf (x := 0) (idx := 19) (ci := 8) (k := 2) (p := 11048) (pc' := 5) (by decide +kernel) h0 (fun m1 => ?_)
  refine i_bl (pc' := 7) [(.aload_n 0, 1), (.iconst (-1), 1)] [some (.ref a0), some (.ref a1), none, none, none] [.int (-1), .ref a0] (by decide +kernel) rfl ?_
  refine i_pf (x := (-1)) (idx := 22) (ci := 8) (k := 3) (p := 11050) (pc' := 10) (by decide +kernel) h0 (fun m2 => ?_)
  refine i_bl (pc' := 12) [(.aload_n 0, 1), (.iconst 0, 1)] [some (.ref a0), some (.ref a1), none, none, none] [.int 0, .ref a0] (by decide +kernel) rfl ?_
  refine i_pf (x := 0) (idx := 25) (ci := 8) (k := 4) (p := 11051) (pc' := 15) (by decide +kernel) h0 (fun m3 => ?_)
  refine i_bl (pc' := 17) [(.aload_n 0, 1), (.iconst 0, 1)] [some (.ref a0), some (.ref a1), none, none, none] [.int 0, .ref a0] (by decide +kernel) rfl ?_
  refine i_pf (x := 0) (idx := 28) (ci := 8) (k := 5) (p := 11053) (pc' := 20) (by decide +kernel) h0 (fun m4 => ?_)
  refine i_bl (pc' := 22) [(.aload_n 0, 1), (.iconst 0, 1)] [some (.ref a0), some (.ref a1), none, none, none] [.int 0, .ref a0] (by decide +kernel) rfl ?_
  refine i_pf (x := 0) (idx := 31) (ci := 8) (k := 6) (p := 11054) (pc' := 25) (by decide +kernel) h0 (fun m5 => ?_)
  refine i_bl (pc' := 26) [(.aload_n 0, 1)] [some (.ref a0), some (.ref a1), none, none, none] [.ref a0] (by decide +kernel) rfl ?_
  refine i_cv (ci := 8) (t := 111) (na := 1) (ml := 1) (idx := 43) (pc' := 29) (st' := []) (en := [some (.ref a0)]) (av := []) (vo := fun _ => none) (mo := fun m => m) (s2 := fun _ => []) (by decide +kernel) (by decide +kernel) h0 ⟨rfl, rfl, rfl, rfl, rfl, rfl⟩ (fun _ => rfl) (t_111 hN (h0 := h0)) (fun m6 => ?_)
  refine i_bl (pc' := 30) [(.aload_n 0, 1)] [some (.ref a0), some (.ref a1), none, none, none] [.ref a0] (by decide +kernel) rfl ?_
  refine i_lt (idx := 46) (p := 14053) (w := 3) (tx := "game") (pc' := 32) (by decide +kernel) ?_
  refine i_cv (ci := 8) (t := 105) (na := 2) (ml := 2) (idx := 48) (pc' := 35) (st' := []) (en := [some (.ref a0), some (.ref 3)]) (av := [.ref 3]) (vo := fun _ => none) (mo := fun m => m) (s2 := fun _ => []) (by decide +kernel) (by decide +kernel) h0 ⟨rfl, rfl, rfl, rfl, rfl, rfl⟩ (fun _ => rfl) (t_105 hN (h0 := h0) (h1 := (o_lo hN (by decide +kernel)))) (fun m7 => ?_)
  refine i_bl (pc' := 39) [(.aload_n 0, 1), (.iconst 4, 1), (.bipush (8), 2)] [some (.ref a0), some (.ref a1), none, none, none] [.int 8, .int 4, .ref a0] (by decide +kernel) rfl ?_
  refine i_cv (ci := 8) (t := 107) (na := 3) (ml := 4) (idx := 52) (pc' := 42) (st' := []) (en := [some (.ref a0), some (.int 4), some (.int 8), none]) (av := [.int 4, .int 8]) (vo := fun v => some (.int v.1)) (mo := fun v => v.2) (s2 := fun v => .int v.1 :: []) (by decide +kernel) (by decide +kernel) h0 ⟨rfl, rfl, rfl, rfl, rfl, rfl⟩ (fun _ => rfl) (t_107 hN (h0 := h0)) (fun r8 => ?_)
  refine i_bl (pc' := 47) [(.istore_n 2, 1), (.aload_n 0, 1), (.iconst 4, 1), (.bipush (8), 2)] [some (.ref a0), some (.ref a1), some (.int r8.1), none, none] [.int 8, .int 4, .ref a0] (by decide +kernel) rfl ?_
  refine i_cv (ci := 8) (t := 107) (na := 3) (ml := 4) (idx := 52) (pc' := 50) (st' := []) (en := [some (.ref a0), some (.int 4), some (.int 8), none]) (av := [.int 4, .int 8]) (vo := fun v => some (.int v.1)) (mo := fun v => v.2) (s2 := fun v => .int v.1 :: []) (by decide +kernel) (by decide +kernel) h0 ⟨rfl, rfl, rfl, rfl, rfl, rfl⟩ (fun _ => rfl) (t_107 hN (h0 := h0)) (fun r9 => ?_)
  refine i_bl (pc' := 52) [(.istore_n 3, 1), (.aload_n 0, 1)] [some (.ref a0), some (.ref a1), some (.int r8.1), some (.int r9.1), none] [.ref a0] (by decide +kernel) rfl ?_
  refine i_cv (ci := 8) (t := 106) (na := 1) (ml := 1) (idx := 56) (pc' := 55) (st' := []) (en := [some (.ref a0)]) (av := []) (vo := fun _ => none) (mo := fun m => m) (s2 := fun _ => []) (by decide +kernel) (by decide +kernel) h0 ⟨rfl, rfl, rfl, rfl, rfl, rfl⟩ (fun _ => rfl) (t_106 hN (h0 := h0)) (fun m10 => ?_)
  refine i_bl (pc' := 58) [(.aload_n 1, 1), (.iload_n 2, 1), (.iload_n 3, 1)] [some (.ref a0), some (.ref a1), some (.int r8.1), some (.int r9.1), none] [.int r9.1, .int r8.1, .ref a1] (by decide +kernel) rfl ?_
  refine i_cv (ci := 3) (t := 48) (na := 3) (ml := 3) (idx := 59) (pc' := 61) (st' := []) (en := [some (.ref a1), some (.int r8.1), some (.int r9.1)]) (av := [.int r8.1, .int r9.1]) (vo := fun _ => none) (mo := fun m => m) (s2 := fun _ => []) (by decide +kernel) (by decide +kernel) h1 ⟨rfl, rfl, rfl, rfl, rfl, rfl⟩ (fun _ => rfl) (t_48 hN (h0 := h1)) (fun m11 => ?_)
  refine i_bl (pc' := 64) [(.iconst 0, 1), (.istore 4, 2)] [some (.ref a0), some (.ref a1), some (.int r8.1), some (.int r9.1), some (.int 0)] [] (by decide +kernel) rfl ?_
  exact t_98_64 hN (h0 := h0) (h1 := h1)

/-! 117 LanternChess$Walk.enter(II)V -/
noncomputable def d_117 (a0 : Nat) (x1 : Int32) (x2 : Int32) (m : Mm) : Option Mm := if x1 < 0 then (some m) else (if 64 ≤ x1 then (some m) else (if ev_in x1 (sh_n (sh_r a0 1)) = true then (if (m (sh_r a0 1) (ix x1)) = (-1) then (if ev_in x1 (sh_n (sh_r a0 1)) = true then (wb (wr m (sh_r a0 1) (ix x1) x2) fun m1 => (d_17 (sh_r a0 0) x1 m1).bind fun v2 => if ¬ v2 = (-1) then (some m1) else (if 64 ≤ (m1 a0 3) then (some m1) else (if ev_in (m1 a0 3) (sh_n (sh_r a0 2)) = true then (wb (wr m1 (sh_r a0 2) (ix (m1 a0 3)) x1) fun m3 => wb (wr m3 a0 3 ((m3 a0 3) + 1)) fun m4 => some m4) else none))) else none) else (some m)) else none))
theorem t_117 {L nx : Nat} (hN : okn nx) {b z : Nat} {m : Mm} {a0 : Nat} (h0 : ok nx a0 9) {x1 : Int32} {x2 : Int32}  : Im (d_117 a0 x1 x2 m) (wV L nx) (ev_dn b z 117 0 [some (.ref a0), some (.int x1), some (.int x2)] [] (nx, mem L nx m)) := by
  unfold d_117
  refine i_bl (pc' := 1) [(.iload_n 1, 1)] [some (.ref a0), some (.int x1), some (.int x2)] [.int x1] (by decide +kernel) rfl ?_
  refine i_if (c := .lt) (off := 19) (t := 20) (pc' := 4) (p := x1 < 0) (by decide +kernel) rfl ?_ ?_
  · exact i_rv (by decide +kernel) rfl
  · refine i_bl (pc' := 7) [(.iload_n 1, 1), (.bipush (64), 2)] [some (.ref a0), some (.int x1), some (.int x2)] [.int 64, .int x1] (by decide +kernel) rfl ?_
    refine i_ic (c := .ge) (off := 13) (t := 20) (pc' := 10) (p := 64 ≤ x1) (by decide +kernel) rfl ?_ ?_
    · exact i_rv (by decide +kernel) rfl
    · refine i_bl (pc' := 11) [(.aload_n 0, 1)] [some (.ref a0), some (.int x1), some (.int x2)] [.ref a0] (by decide +kernel) rfl ?_
      refine i_gr (idx := 18) (ci := 9) (k := 1) (t := 2) (p := 12086) (pc' := 14) (by decide +kernel) h0 ?_
      refine i_bl (pc' := 15) [(.iload_n 1, 1)] [some (.ref a0), some (.int x1), some (.int x2)] [.int x1, .ref (sh_r a0 1)] (by decide +kernel) rfl ?_
      refine i_al (pc' := 16) (by decide +kernel) (o_9_1 hN h0) ?_
      refine i_bl (pc' := 17) [(.iconst (-1), 1)] [some (.ref a0), some (.int x1), some (.int x2)] [.int (-1), .int (m (sh_r a0 1) (ix x1))] (by decide +kernel) rfl ?_
      refine i_ic (c := .eq) (off := 4) (t := 21) (pc' := 20) (p := (m (sh_r a0 1) (ix x1)) = (-1)) (by decide +kernel) rfl ?_ ?_
      · refine i_bl (pc' := 22) [(.aload_n 0, 1)] [some (.ref a0), some (.int x1), some (.int x2)] [.ref a0] (by decide +kernel) rfl ?_
        refine i_gr (idx := 18) (ci := 9) (k := 1) (t := 2) (p := 12086) (pc' := 25) (by decide +kernel) h0 ?_
        refine i_bl (pc' := 27) [(.iload_n 1, 1), (.iload_n 2, 1)] [some (.ref a0), some (.int x1), some (.int x2)] [.int x2, .int x1, .ref (sh_r a0 1)] (by decide +kernel) rfl ?_
        refine i_as (y := x2) (pc' := 28) (by decide +kernel) (o_9_1 hN h0) (fun m1 => ?_)
        refine i_bl (pc' := 29) [(.aload_n 0, 1)] [some (.ref a0), some (.int x1), some (.int x2)] [.ref a0] (by decide +kernel) rfl ?_
        refine i_gr (idx := 12) (ci := 9) (k := 0) (t := 2) (p := 12085) (pc' := 32) (by decide +kernel) h0 ?_
        refine i_bl (pc' := 33) [(.iload_n 1, 1)] [some (.ref a0), some (.int x1), some (.int x2)] [.int x1, .ref (sh_r a0 0)] (by decide +kernel) rfl ?_
        refine i_cv (ci := 1) (t := 17) (na := 2) (ml := 2) (idx := 29) (pc' := 36) (st' := []) (en := [some (.ref (sh_r a0 0)), some (.int x1)]) (av := [.int x1]) (vo := fun v => some (.int v)) (mo := fun _ => m1) (s2 := fun v => .int v :: []) (by decide +kernel) (by decide +kernel) (o_9_0 hN h0) ⟨rfl, rfl, rfl, rfl, rfl, rfl⟩ (fun _ => rfl) (t_17 hN (h0 := (o_9_0 hN h0))) (fun v2 => ?_)
        refine i_bl (pc' := 37) [(.iconst (-1), 1)] [some (.ref a0), some (.int x1), some (.int x2)] [.int (-1), .int v2] (by decide +kernel) rfl ?_
        refine i_ic (c := .ne) (off := 32) (t := 69) (pc' := 40) (p := ¬ v2 = (-1)) (by decide +kernel) rfl ?_ ?_
        · exact i_rv (by decide +kernel) rfl
        · refine i_bl (pc' := 41) [(.aload_n 0, 1)] [some (.ref a0), some (.int x1), some (.int x2)] [.ref a0] (by decide +kernel) rfl ?_
          refine i_gf (idx := 25) (ci := 9) (k := 3) (t := 0) (p := 12088) (pc' := 44) (by decide +kernel) h0 ?_
          refine i_bl (pc' := 46) [(.bipush (64), 2)] [some (.ref a0), some (.int x1), some (.int x2)] [.int 64, .int (m1 a0 3)] (by decide +kernel) rfl ?_
          refine i_ic (c := .ge) (off := 23) (t := 69) (pc' := 49) (p := 64 ≤ (m1 a0 3)) (by decide +kernel) rfl ?_ ?_
          · exact i_rv (by decide +kernel) rfl
          · refine i_bl (pc' := 50) [(.aload_n 0, 1)] [some (.ref a0), some (.int x1), some (.int x2)] [.ref a0] (by decide +kernel) rfl ?_
            refine i_gr (idx := 22) (ci := 9) (k := 2) (t := 2) (p := 12087) (pc' := 53) (by decide +kernel) h0 ?_
            refine i_bl (pc' := 54) [(.aload_n 0, 1)] [some (.ref a0), some (.int x1), some (.int x2)] [.ref a0, .ref (sh_r a0 2)] (by decide +kernel) rfl ?_
            refine i_gf (idx := 25) (ci := 9) (k := 3) (t := 0) (p := 12088) (pc' := 57) (by decide +kernel) h0 ?_
            refine i_bl (pc' := 58) [(.iload_n 1, 1)] [some (.ref a0), some (.int x1), some (.int x2)] [.int x1, .int (m1 a0 3), .ref (sh_r a0 2)] (by decide +kernel) rfl ?_
            refine i_as (y := x1) (pc' := 59) (by decide +kernel) (o_9_2 hN h0) (fun m3 => ?_)
            refine i_bl (pc' := 61) [(.aload_n 0, 1), (.dup, 1)] [some (.ref a0), some (.int x1), some (.int x2)] [.ref a0, .ref a0] (by decide +kernel) rfl ?_
            refine i_gf (idx := 25) (ci := 9) (k := 3) (t := 0) (p := 12088) (pc' := 64) (by decide +kernel) h0 ?_
            refine i_bl (pc' := 66) [(.iconst 1, 1), (.iadd, 1)] [some (.ref a0), some (.int x1), some (.int x2)] [.int ((m3 a0 3) + 1), .ref a0] (by decide +kernel) rfl ?_
            refine i_pf (x := ((m3 a0 3) + 1)) (idx := 25) (ci := 9) (k := 3) (p := 12088) (pc' := 69) (by decide +kernel) h0 (fun m4 => ?_)
            exact i_rv (by decide +kernel) rfl
      · exact i_rv (by decide +kernel) rfl

/-! 118 LanternChess$Walk.goOnFrom(III)V -/
noncomputable def E_118_27 (L nx b z : Nat) (a0 : Nat) (x1 : Int32) (x2 : Int32) (x3 : Int32) (x4 : Bool) (d : Option Value × Option Value × Option Value) (s : (Int32 × Mm)) : ev_Q := ev_dn b z 118 27 [some (.ref a0), some (.int x1), some (.int x2), some (.int x3), some (.int (bi x4)), some (.int s.1), d.1, d.2.1, d.2.2] [] (nx, mem L nx s.2)
noncomputable def d_118_133 (a0 : Nat) (x1 : Int32) (x2 : Int32) (x3 : Int32) (x4 : Bool) (x5 : Int32) (s0 : Nat) (s1 : Int32) (s2 : Int32) (s3 : Int32) (s4 : Bool) (m : Mm) : Option ((Int32 × Mm) ⊕ Mm) := (d_22 s0 s1 s2 s3 s4 m).bind fun v8 => if v8 = true then (if ev_in x2 (sh_n (sh_r a0 1)) = true then ((d_117 a0 x5 ((m (sh_r a0 1) (ix x2)) + 1) m).bind fun m10 => wb (x5 + 1) fun y11 => some (.inl (y11, m10))) else none) else (wb (x5 + 1) fun y9 => some (.inl (y9, m)))
theorem t_118_133 {L nx : Nat} (hN : okn nx) {b z : Nat} {m : Mm} {a0 : Nat} (h0 : ok nx a0 9) {s0 : Nat} (hs0 : ok nx s0 1) {x1 : Int32} {x2 : Int32} {x3 : Int32} {x4 : Bool} {x5 : Int32} {s1 : Int32} {s2 : Int32} {s3 : Int32} {s4 : Bool} {o6 : Option Value} {o7 : Option Value} {o8 : Option Value} : Im (d_118_133 a0 x1 x2 x3 x4 x5 s0 s1 s2 s3 s4 m) (kL (wV L nx) (E_118_27 L nx b z a0 x1 x2 x3 x4)) (ev_dn b z 118 133 [some (.ref a0), some (.int x1), some (.int x2), some (.int x3), some (.int (bi x4)), some (.int x5), o6, o7, o8] [.int (bi s4), .int s3, .int s2, .int s1, .ref s0] (nx, mem L nx m)) := by
  unfold d_118_133
  refine i_cv (ci := 1) (t := 22) (na := 5) (ml := 13) (idx := 67) (pc' := 136) (st' := []) (en := [some (.ref s0), some (.int s1), some (.int s2), some (.int s3), some (.int (bi s4)), none, none, none, none, none, none, none, none]) (av := [.int s1, .int s2, .int s3, .int (bi s4)]) (vo := fun v => some (.int (bi v))) (mo := fun _ => m) (s2 := fun v => .int (bi v) :: []) (by decide +kernel) (by decide +kernel) hs0 ⟨rfl, rfl, rfl, rfl, rfl, rfl⟩ (fun _ => rfl) (t_22 hN (h0 := hs0)) (fun v8 => ?_)
  refine i_bz (off := 17) (t := 153) (pc' := 139) (by decide +kernel) ?_ ?_
  · refine i_bl (pc' := 143) [(.aload_n 0, 1), (.iload 5, 2), (.aload_n 0, 1)] [some (.ref a0), some (.int x1), some (.int x2), some (.int x3), some (.int (bi x4)), some (.int x5), o6, o7, o8] [.ref a0, .int x5, .ref a0] (by decide +kernel) rfl ?_
    refine i_gr (idx := 18) (ci := 9) (k := 1) (t := 2) (p := 12086) (pc' := 146) (by decide +kernel) h0 ?_
    refine i_bl (pc' := 147) [(.iload_n 2, 1)] [some (.ref a0), some (.int x1), some (.int x2), some (.int x3), some (.int (bi x4)), some (.int x5), o6, o7, o8] [.int x2, .ref (sh_r a0 1), .int x5, .ref a0] (by decide +kernel) rfl ?_
    refine i_al (pc' := 148) (by decide +kernel) (o_9_1 hN h0) ?_
    refine i_bl (pc' := 150) [(.iconst 1, 1), (.iadd, 1)] [some (.ref a0), some (.int x1), some (.int x2), some (.int x3), some (.int (bi x4)), some (.int x5), o6, o7, o8] [.int ((m (sh_r a0 1) (ix x2)) + 1), .int x5, .ref a0] (by decide +kernel) rfl ?_
    refine i_cv (ci := 9) (t := 117) (na := 3) (ml := 3) (idx := 47) (pc' := 153) (st' := []) (en := [some (.ref a0), some (.int x5), some (.int ((m (sh_r a0 1) (ix x2)) + 1))]) (av := [.int x5, .int ((m (sh_r a0 1) (ix x2)) + 1)]) (vo := fun _ => none) (mo := fun m => m) (s2 := fun _ => []) (by decide +kernel) (by decide +kernel) h0 ⟨rfl, rfl, rfl, rfl, rfl, rfl⟩ (fun _ => rfl) (t_117 hN (h0 := h0)) (fun m10 => ?_)
    refine i_bl (pc' := 156) [(.iinc 5 (1), 3)] [some (.ref a0), some (.int x1), some (.int x2), some (.int x3), some (.int (bi x4)), some (.int (x5 + 1)), o6, o7, o8] [] (by decide +kernel) rfl ?_
    refine i_wb (fun y11 => ev_dn b z 118 156 [some (.ref a0), some (.int x1), some (.int x2), some (.int x3), some (.int (bi x4)), some (.int y11), o6, o7, o8] [] (nx, mem L nx m10)) (fun y11 => ?_)
    refine i_go (t := 27) (off := -129) (by decide +kernel) ?_
    exact i_co (o6, o7, o8) rfl
  · refine i_bl (pc' := 156) [(.iinc 5 (1), 3)] [some (.ref a0), some (.int x1), some (.int x2), some (.int x3), some (.int (bi x4)), some (.int (x5 + 1)), o6, o7, o8] [] (by decide +kernel) rfl ?_
    refine i_wb (fun y9 => ev_dn b z 118 156 [some (.ref a0), some (.int x1), some (.int x2), some (.int x3), some (.int (bi x4)), some (.int y9), o6, o7, o8] [] (nx, mem L nx m)) (fun y9 => ?_)
    refine i_go (t := 27) (off := -129) (by decide +kernel) ?_
    exact i_co (o6, o7, o8) rfl

noncomputable def d_118_72 (a0 : Nat) (x1 : Int32) (x2 : Int32) (x3 : Int32) (x4 : Bool) (x5 : Int32) (x6 : Int32) (s0 : Bool) (m : Mm) : Option ((Int32 × Mm) ⊕ Mm) := (d_13 x5).bind fun v2 => (d_14 x5).bind fun v3 => (d_15 (sh_r a0 0) v2 v3 m).bind fun v4 => if s0 = true then (if v4 = true then (if ev_in x5 (sh_n (sh_r a0 1)) = true then (if ¬ (m (sh_r a0 1) (ix x5)) = (-1) then (wb (x5 + 1) fun y7 => some (.inl (y7, m))) else (if x6 = (-1) then (d_118_133 a0 x1 x2 x3 x4 x5 (sh_r a0 0) x1 x2 x5 false m) else (d_118_133 a0 x1 x2 x3 x4 x5 (sh_r a0 0) x1 x2 x5 true m))) else none) else (wb (x5 + 1) fun y6 => some (.inl (y6, m)))) else (wb (x5 + 1) fun y5 => some (.inl (y5, m)))
theorem t_118_72 {L nx : Nat} (hN : okn nx) {b z : Nat} {m : Mm} {a0 : Nat} (h0 : ok nx a0 9) {x1 : Int32} {x2 : Int32} {x3 : Int32} {x4 : Bool} {x5 : Int32} {x6 : Int32} {s0 : Bool} {o7 : Option Value} {o8 : Option Value} : Im (d_118_72 a0 x1 x2 x3 x4 x5 x6 s0 m) (kL (wV L nx) (E_118_27 L nx b z a0 x1 x2 x3 x4)) (ev_dn b z 118 72 [some (.ref a0), some (.int x1), some (.int x2), some (.int x3), some (.int (bi x4)), some (.int x5), some (.int x6), o7, o8] [.int (bi s0)] (nx, mem L nx m)) := by
  unfold d_118_72
  refine i_bl (pc' := 75) [(.istore 7, 2), (.aload_n 0, 1)] [some (.ref a0), some (.int x1), some (.int x2), some (.int x3), some (.int (bi x4)), some (.int x5), some (.int x6), some (.int (bi s0)), o8] [.ref a0] (by decide +kernel) rfl ?_
  refine i_gr (idx := 12) (ci := 9) (k := 0) (t := 2) (p := 12085) (pc' := 78) (by decide +kernel) h0 ?_
  refine i_bl (pc' := 80) [(.iload 5, 2)] [some (.ref a0), some (.int x1), some (.int x2), some (.int x3), some (.int (bi x4)), some (.int x5), some (.int x6), some (.int (bi s0)), o8] [.int x5, .ref (sh_r a0 0)] (by decide +kernel) rfl ?_
  refine i_cs (t := 13) (na := 1) (ml := 1) (idx := 58) (pc' := 83) (st' := [.ref (sh_r a0 0)]) (en := [some (.int x5)]) (av := [.int x5]) (vo := fun v => some (.int v)) (mo := fun _ => m) (s2 := fun v => .int v :: [.ref (sh_r a0 0)]) (by decide +kernel) ⟨rfl, rfl, rfl, rfl, rfl, rfl⟩ (fun _ => rfl) (t_13 hN ) (fun v2 => ?_)
  refine i_bl (pc' := 85) [(.iload 5, 2)] [some (.ref a0), some (.int x1), some (.int x2), some (.int x3), some (.int (bi x4)), some (.int x5), some (.int x6), some (.int (bi s0)), o8] [.int x5, .int v2, .ref (sh_r a0 0)] (by decide +kernel) rfl ?_
  refine i_cs (t := 14) (na := 1) (ml := 1) (idx := 61) (pc' := 88) (st' := [.int v2, .ref (sh_r a0 0)]) (en := [some (.int x5)]) (av := [.int x5]) (vo := fun v => some (.int v)) (mo := fun _ => m) (s2 := fun v => .int v :: [.int v2, .ref (sh_r a0 0)]) (by decide +kernel) ⟨rfl, rfl, rfl, rfl, rfl, rfl⟩ (fun _ => rfl) (t_14 hN ) (fun v3 => ?_)
  refine i_cv (ci := 1) (t := 15) (na := 3) (ml := 3) (idx := 64) (pc' := 91) (st' := []) (en := [some (.ref (sh_r a0 0)), some (.int v2), some (.int v3)]) (av := [.int v2, .int v3]) (vo := fun v => some (.int (bi v))) (mo := fun _ => m) (s2 := fun v => .int (bi v) :: []) (by decide +kernel) (by decide +kernel) (o_9_0 hN h0) ⟨rfl, rfl, rfl, rfl, rfl, rfl⟩ (fun _ => rfl) (t_15 hN (h0 := (o_9_0 hN h0))) (fun v4 => ?_)
  refine i_bl (pc' := 95) [(.istore 8, 2), (.iload 7, 2)] [some (.ref a0), some (.int x1), some (.int x2), some (.int x3), some (.int (bi x4)), some (.int x5), some (.int x6), some (.int (bi s0)), some (.int (bi v4))] [.int (bi s0)] (by decide +kernel) rfl ?_
  refine i_bz (off := 58) (t := 153) (pc' := 98) (by decide +kernel) ?_ ?_
  · refine i_bl (pc' := 100) [(.iload 8, 2)] [some (.ref a0), some (.int x1), some (.int x2), some (.int x3), some (.int (bi x4)), some (.int x5), some (.int x6), some (.int (bi s0)), some (.int (bi v4))] [.int (bi v4)] (by decide +kernel) rfl ?_
    refine i_bz (off := 53) (t := 153) (pc' := 103) (by decide +kernel) ?_ ?_
    · refine i_bl (pc' := 104) [(.aload_n 0, 1)] [some (.ref a0), some (.int x1), some (.int x2), some (.int x3), some (.int (bi x4)), some (.int x5), some (.int x6), some (.int (bi s0)), some (.int (bi v4))] [.ref a0] (by decide +kernel) rfl ?_
      refine i_gr (idx := 18) (ci := 9) (k := 1) (t := 2) (p := 12086) (pc' := 107) (by decide +kernel) h0 ?_
      refine i_bl (pc' := 109) [(.iload 5, 2)] [some (.ref a0), some (.int x1), some (.int x2), some (.int x3), some (.int (bi x4)), some (.int x5), some (.int x6), some (.int (bi s0)), some (.int (bi v4))] [.int x5, .ref (sh_r a0 1)] (by decide +kernel) rfl ?_
      refine i_al (pc' := 110) (by decide +kernel) (o_9_1 hN h0) ?_
      refine i_bl (pc' := 111) [(.iconst (-1), 1)] [some (.ref a0), some (.int x1), some (.int x2), some (.int x3), some (.int (bi x4)), some (.int x5), some (.int x6), some (.int (bi s0)), some (.int (bi v4))] [.int (-1), .int (m (sh_r a0 1) (ix x5))] (by decide +kernel) rfl ?_
      refine i_ic (c := .ne) (off := 42) (t := 153) (pc' := 114) (p := ¬ (m (sh_r a0 1) (ix x5)) = (-1)) (by decide +kernel) rfl ?_ ?_
      · refine i_bl (pc' := 156) [(.iinc 5 (1), 3)] [some (.ref a0), some (.int x1), some (.int x2), some (.int x3), some (.int (bi x4)), some (.int (x5 + 1)), some (.int x6), some (.int (bi s0)), some (.int (bi v4))] [] (by decide +kernel) rfl ?_
        refine i_wb (fun y7 => ev_dn b z 118 156 [some (.ref a0), some (.int x1), some (.int x2), some (.int x3), some (.int (bi x4)), some (.int y7), some (.int x6), some (.int (bi s0)), some (.int (bi v4))] [] (nx, mem L nx m)) (fun y7 => ?_)
        refine i_go (t := 27) (off := -129) (by decide +kernel) ?_
        exact i_co (some (.int x6), some (.int (bi s0)), some (.int (bi v4))) rfl
      · refine i_bl (pc' := 115) [(.aload_n 0, 1)] [some (.ref a0), some (.int x1), some (.int x2), some (.int x3), some (.int (bi x4)), some (.int x5), some (.int x6), some (.int (bi s0)), some (.int (bi v4))] [.ref a0] (by decide +kernel) rfl ?_
        refine i_gr (idx := 12) (ci := 9) (k := 0) (t := 2) (p := 12085) (pc' := 118) (by decide +kernel) h0 ?_
        refine i_bl (pc' := 125) [(.iload_n 1, 1), (.iload_n 2, 1), (.iload 5, 2), (.iload 6, 2), (.iconst (-1), 1)] [some (.ref a0), some (.int x1), some (.int x2), some (.int x3), some (.int (bi x4)), some (.int x5), some (.int x6), some (.int (bi s0)), some (.int (bi v4))] [.int (-1), .int x6, .int x5, .int x2, .int x1, .ref (sh_r a0 0)] (by decide +kernel) rfl ?_
        refine i_ic (c := .eq) (off := 7) (t := 132) (pc' := 128) (p := x6 = (-1)) (by decide +kernel) rfl ?_ ?_
        · refine i_bl (pc' := 133) [(.iconst 0, 1)] [some (.ref a0), some (.int x1), some (.int x2), some (.int x3), some (.int (bi x4)), some (.int x5), some (.int x6), some (.int (bi s0)), some (.int (bi v4))] [.int 0, .int x5, .int x2, .int x1, .ref (sh_r a0 0)] (by decide +kernel) rfl ?_
          exact t_118_133 hN (h0 := h0) (hs0 := (o_9_0 hN h0))
        · refine i_bl (pc' := 129) [(.iconst 1, 1)] [some (.ref a0), some (.int x1), some (.int x2), some (.int x3), some (.int (bi x4)), some (.int x5), some (.int x6), some (.int (bi s0)), some (.int (bi v4))] [.int 1, .int x5, .int x2, .int x1, .ref (sh_r a0 0)] (by decide +kernel) rfl ?_
          refine i_go (t := 133) (off := 4) (by decide +kernel) ?_
          exact t_118_133 hN (h0 := h0) (hs0 := (o_9_0 hN h0))
    · refine i_bl (pc' := 156) [(.iinc 5 (1), 3)] [some (.ref a0), some (.int x1), some (.int x2), some (.int x3), some (.int (bi x4)), some (.int (x5 + 1)), some (.int x6), some (.int (bi s0)), some (.int (bi v4))] [] (by decide +kernel) rfl ?_
      refine i_wb (fun y6 => ev_dn b z 118 156 [some (.ref a0), some (.int x1), some (.int x2), some (.int x3), some (.int (bi x4)), some (.int y6), some (.int x6), some (.int (bi s0)), some (.int (bi v4))] [] (nx, mem L nx m)) (fun y6 => ?_)
      refine i_go (t := 27) (off := -129) (by decide +kernel) ?_
      exact i_co (some (.int x6), some (.int (bi s0)), some (.int (bi v4))) rfl
  · refine i_bl (pc' := 156) [(.iinc 5 (1), 3)] [some (.ref a0), some (.int x1), some (.int x2), some (.int x3), some (.int (bi x4)), some (.int (x5 + 1)), some (.int x6), some (.int (bi s0)), some (.int (bi v4))] [] (by decide +kernel) rfl ?_
    refine i_wb (fun y5 => ev_dn b z 118 156 [some (.ref a0), some (.int x1), some (.int x2), some (.int x3), some (.int (bi x4)), some (.int y5), some (.int x6), some (.int (bi s0)), some (.int (bi v4))] [] (nx, mem L nx m)) (fun y5 => ?_)
    refine i_go (t := 27) (off := -129) (by decide +kernel) ?_
    exact i_co (some (.int x6), some (.int (bi s0)), some (.int (bi v4))) rfl

noncomputable def s_118_27 (a0 : Nat) (x1 : Int32) (x2 : Int32) (x3 : Int32) (x4 : Bool) (x5 : Int32) (m : Mm) : Option ((Int32 × Mm) ⊕ Mm) := if 64 ≤ x5 then (some (.inr m)) else ((d_17 (sh_r a0 0) x5 m).bind fun v1 => if v1 = (-1) then (d_118_72 a0 x1 x2 x3 x4 x5 v1 true m) else (if ¬ x5 = x3 then (d_118_72 a0 x1 x2 x3 x4 x5 v1 false m) else ((d_19 v1 (bi x4)).bind fun v12 => if v12 = true then (d_118_72 a0 x1 x2 x3 x4 x5 v1 false m) else (d_118_72 a0 x1 x2 x3 x4 x5 v1 true m))))
noncomputable def d_118_27 (a0 : Nat) (x1 : Int32) (x2 : Int32) (x3 : Int32) (x4 : Bool) (x5 : Int32) (m : Mm) : Option Mm := it (fun s => s_118_27 a0 x1 x2 x3 x4 s.1 s.2) (x5, m)
theorem e_118_27 (a0 : Nat) (x1 : Int32) (x2 : Int32) (x3 : Int32) (x4 : Bool) (x5 : Int32) (m : Mm) : d_118_27 a0 x1 x2 x3 x4 x5 m = oi (s_118_27 a0 x1 x2 x3 x4 x5 m) (fun s => d_118_27 a0 x1 x2 x3 x4 s.1 s.2) := it_eq _
theorem u_118_27 {L nx : Nat} (hN : okn nx) {b z : Nat} {m : Mm} {a0 : Nat} (h0 : ok nx a0 9) {x1 : Int32} {x2 : Int32} {x3 : Int32} {x4 : Bool} {x5 : Int32} {o6 : Option Value} {o7 : Option Value} {o8 : Option Value} : Im (s_118_27 a0 x1 x2 x3 x4 x5 m) (kL (wV L nx) (E_118_27 L nx b z a0 x1 x2 x3 x4)) (ev_dn b z 118 27 [some (.ref a0), some (.int x1), some (.int x2), some (.int x3), some (.int (bi x4)), some (.int x5), o6, o7, o8] [] (nx, mem L nx m)) := by
  unfold s_118_27
  refine i_bl (pc' := 31) [(.iload 5, 2), (.bipush (64), 2)] [some (.ref a0), some (.int x1), some (.int x2), some (.int x3), some (.int (bi x4)), some (.int x5), o6, o7, o8] [.int 64, .int x5] (by decide +kernel) rfl ?_
  refine i_ic (c := .ge) (off := 128) (t := 159) (pc' := 34) (p := 64 ≤ x5) (by decide +kernel) rfl ?_ ?_
  · exact i_ir (i_rv (by decide +kernel) rfl)
  · refine i_bl (pc' := 35) [(.aload_n 0, 1)] [some (.ref a0), some (.int x1), some (.int x2), some (.int x3), some (.int (bi x4)), some (.int x5), o6, o7, o8] [.ref a0] (by decide +kernel) rfl ?_
    refine i_gr (idx := 12) (ci := 9) (k := 0) (t := 2) (p := 12085) (pc' := 38) (by decide +kernel) h0 ?_
    refine i_bl (pc' := 40) [(.iload 5, 2)] [some (.ref a0), some (.int x1), some (.int x2), some (.int x3), some (.int (bi x4)), some (.int x5), o6, o7, o8] [.int x5, .ref (sh_r a0 0)] (by decide +kernel) rfl ?_
    refine i_cv (ci := 1) (t := 17) (na := 2) (ml := 2) (idx := 29) (pc' := 43) (st' := []) (en := [some (.ref (sh_r a0 0)), some (.int x5)]) (av := [.int x5]) (vo := fun v => some (.int v)) (mo := fun _ => m) (s2 := fun v => .int v :: []) (by decide +kernel) (by decide +kernel) (o_9_0 hN h0) ⟨rfl, rfl, rfl, rfl, rfl, rfl⟩ (fun _ => rfl) (t_17 hN (h0 := (o_9_0 hN h0))) (fun v1 => ?_)
    refine i_bl (pc' := 48) [(.istore 6, 2), (.iload 6, 2), (.iconst (-1), 1)] [some (.ref a0), some (.int x1), some (.int x2), some (.int x3), some (.int (bi x4)), some (.int x5), some (.int v1), o7, o8] [.int (-1), .int v1] (by decide +kernel) rfl ?_
    refine i_ic (c := .eq) (off := 19) (t := 67) (pc' := 51) (p := v1 = (-1)) (by decide +kernel) rfl ?_ ?_
    · refine i_bl (pc' := 68) [(.iconst 1, 1)] [some (.ref a0), some (.int x1), some (.int x2), some (.int x3), some (.int (bi x4)), some (.int x5), some (.int v1), o7, o8] [.int 1] (by decide +kernel) rfl ?_
      refine i_go (t := 72) (off := 4) (by decide +kernel) ?_
      exact t_118_72 hN (h0 := h0)
    · refine i_bl (pc' := 54) [(.iload 5, 2), (.iload_n 3, 1)] [some (.ref a0), some (.int x1), some (.int x2), some (.int x3), some (.int (bi x4)), some (.int x5), some (.int v1), o7, o8] [.int x3, .int x5] (by decide +kernel) rfl ?_
      refine i_ic (c := .ne) (off := 17) (t := 71) (pc' := 57) (p := ¬ x5 = x3) (by decide +kernel) rfl ?_ ?_
      · refine i_bl (pc' := 72) [(.iconst 0, 1)] [some (.ref a0), some (.int x1), some (.int x2), some (.int x3), some (.int (bi x4)), some (.int x5), some (.int v1), o7, o8] [.int 0] (by decide +kernel) rfl ?_
        exact t_118_72 hN (h0 := h0)
      · refine i_bl (pc' := 61) [(.iload 6, 2), (.iload 4, 2)] [some (.ref a0), some (.int x1), some (.int x2), some (.int x3), some (.int (bi x4)), some (.int x5), some (.int v1), o7, o8] [.int (bi x4), .int v1] (by decide +kernel) rfl ?_
        refine i_cs (t := 19) (na := 2) (ml := 2) (idx := 54) (pc' := 64) (st' := []) (en := [some (.int v1), some (.int (bi x4))]) (av := [.int v1, .int (bi x4)]) (vo := fun v => some (.int (bi v))) (mo := fun _ => m) (s2 := fun v => .int (bi v) :: []) (by decide +kernel) ⟨rfl, rfl, rfl, rfl, rfl, rfl⟩ (fun _ => rfl) (t_19 hN ) (fun v12 => ?_)
        refine i_bn (off := 7) (t := 71) (pc' := 67) (by decide +kernel) ?_ ?_
        · refine i_bl (pc' := 72) [(.iconst 0, 1)] [some (.ref a0), some (.int x1), some (.int x2), some (.int x3), some (.int (bi x4)), some (.int x5), some (.int v1), o7, o8] [.int 0] (by decide +kernel) rfl ?_
          exact t_118_72 hN (h0 := h0)
        · refine i_bl (pc' := 68) [(.iconst 1, 1)] [some (.ref a0), some (.int x1), some (.int x2), some (.int x3), some (.int (bi x4)), some (.int x5), some (.int v1), o7, o8] [.int 1] (by decide +kernel) rfl ?_
          refine i_go (t := 72) (off := 4) (by decide +kernel) ?_
          exact t_118_72 hN (h0 := h0)

theorem t_118_27 {L nx : Nat} (hN : okn nx) {b z : Nat} {m : Mm} {a0 : Nat} (h0 : ok nx a0 9) {x1 : Int32} {x2 : Int32} {x3 : Int32} {x4 : Bool} {x5 : Int32} {o6 : Option Value} {o7 : Option Value} {o8 : Option Value} : Im (d_118_27 a0 x1 x2 x3 x4 x5 m) (wV L nx) (ev_dn b z 118 27 [some (.ref a0), some (.int x1), some (.int x2), some (.int x3), some (.int (bi x4)), some (.int x5), o6, o7, o8] [] (nx, mem L nx m)) := by
  exact i_it (f := fun s => s_118_27 a0 x1 x2 x3 x4 s.1 s.2) (E := E_118_27 L nx b z a0 x1 x2 x3 x4) (K := (wV L nx)) (fun d s => u_118_27 hN (h0 := h0)) (o6, o7, o8) (x5, m)
noncomputable def d_118 (a0 : Nat) (x1 : Int32) (x2 : Int32) (x3 : Int32) (m : Mm) : Option Mm := if x2 < 0 then (some m) else (if x2 < 64 then (if 6 ≤ x1 then (d_118_27 a0 x1 x2 x3 true 0 m) else (d_118_27 a0 x1 x2 x3 false 0 m)) else (some m))
theorem t_118 {L nx : Nat} (hN : okn nx) {b z : Nat} {m : Mm} {a0 : Nat} (h0 : ok nx a0 9) {x1 : Int32} {x2 : Int32} {x3 : Int32}  : Im (d_118 a0 x1 x2 x3 m) (wV L nx) (ev_dn b z 118 0 [some (.ref a0), some (.int x1), some (.int x2), some (.int x3), none, none, none, none, none] [] (nx, mem L nx m)) := by
  unfold d_118
  refine i_bl (pc' := 1) [(.iload_n 2, 1)] [some (.ref a0), some (.int x1), some (.int x2), some (.int x3), none, none, none, none, none] [.int x2] (by decide +kernel) rfl ?_
  refine i_if (c := .lt) (off := 9) (t := 10) (pc' := 4) (p := x2 < 0) (by decide +kernel) rfl ?_ ?_
  · exact i_rv (by decide +kernel) rfl
  · refine i_bl (pc' := 7) [(.iload_n 2, 1), (.bipush (64), 2)] [some (.ref a0), some (.int x1), some (.int x2), some (.int x3), none, none, none, none, none] [.int 64, .int x2] (by decide +kernel) rfl ?_
    refine i_ic (c := .lt) (off := 4) (t := 11) (pc' := 10) (p := x2 < 64) (by decide +kernel) rfl ?_ ?_
    · refine i_bl (pc' := 14) [(.iload_n 1, 1), (.bipush (6), 2)] [some (.ref a0), some (.int x1), some (.int x2), some (.int x3), none, none, none, none, none] [.int 6, .int x1] (by decide +kernel) rfl ?_
      refine i_ic (c := .ge) (off := 7) (t := 21) (pc' := 17) (p := 6 ≤ x1) (by decide +kernel) rfl ?_ ?_
      · refine i_bl (pc' := 27) [(.iconst 1, 1), (.istore 4, 2), (.iconst 0, 1), (.istore 5, 2)] [some (.ref a0), some (.int x1), some (.int x2), some (.int x3), some (.int 1), some (.int 0), none, none, none] [] (by decide +kernel) rfl ?_
        exact t_118_27 hN (h0 := h0)
      · refine i_bl (pc' := 18) [(.iconst 0, 1)] [some (.ref a0), some (.int x1), some (.int x2), some (.int x3), none, none, none, none, none] [.int 0] (by decide +kernel) rfl ?_
        refine i_go (t := 22) (off := 4) (by decide +kernel) ?_
        refine i_bl (pc' := 27) [(.istore 4, 2), (.iconst 0, 1), (.istore 5, 2)] [some (.ref a0), some (.int x1), some (.int x2), some (.int x3), some (.int 0), some (.int 0), none, none, none] [] (by decide +kernel) rfl ?_
        exact t_118_27 hN (h0 := h0)
    · exact i_rv (by decide +kernel) rfl

/-! 116 LanternChess$Walk.fewest(LLanternChess$Field;II)I -/
noncomputable def E_116_54 (L nx b z : Nat) (a0 : Nat) (x3 : Int32) (x4 : Int32) (d : Option Value × Option Value) (s : (Int32 × Mm)) : ev_Q := ev_dn b z 116 54 [some (.ref a0), d.1, d.2, some (.int x3), some (.int x4), some (.int s.1)] [] (nx, mem L nx s.2)
noncomputable def d_116_90 (a0 : Nat) (x3 : Int32) (m : Mm) : Option (Int32 × Mm) := if x3 < 0 then (some ((-1), m)) else (if 64 ≤ x3 then (some ((-1), m)) else (if ev_in x3 (sh_n (sh_r a0 1)) = true then (some (m (sh_r a0 1) (ix x3), m)) else none))
theorem t_116_90 {L nx : Nat} (hN : okn nx) {b z : Nat} {m : Mm} {a0 : Nat} (h0 : ok nx a0 9) {x3 : Int32} {o1 : Option Value} {o2 : Option Value} {o4 : Option Value} {o5 : Option Value} : Im (d_116_90 a0 x3 m) (wI L nx) (ev_dn b z 116 90 [some (.ref a0), o1, o2, some (.int x3), o4, o5] [] (nx, mem L nx m)) := by
  unfold d_116_90
  refine i_bl (pc' := 91) [(.iload_n 3, 1)] [some (.ref a0), o1, o2, some (.int x3), o4, o5] [.int x3] (by decide +kernel) rfl ?_
  refine i_if (c := .lt) (off := 18) (t := 109) (pc' := 94) (p := x3 < 0) (by decide +kernel) rfl ?_ ?_
  · refine i_bl (pc' := 110) [(.iconst (-1), 1)] [some (.ref a0), o1, o2, some (.int x3), o4, o5] [.int (-1)] (by decide +kernel) rfl ?_
    exact i_ri (by decide +kernel) rfl
  · refine i_bl (pc' := 97) [(.iload_n 3, 1), (.bipush (64), 2)] [some (.ref a0), o1, o2, some (.int x3), o4, o5] [.int 64, .int x3] (by decide +kernel) rfl ?_
    refine i_ic (c := .ge) (off := 12) (t := 109) (pc' := 100) (p := 64 ≤ x3) (by decide +kernel) rfl ?_ ?_
    · refine i_bl (pc' := 110) [(.iconst (-1), 1)] [some (.ref a0), o1, o2, some (.int x3), o4, o5] [.int (-1)] (by decide +kernel) rfl ?_
      exact i_ri (by decide +kernel) rfl
    · refine i_bl (pc' := 101) [(.aload_n 0, 1)] [some (.ref a0), o1, o2, some (.int x3), o4, o5] [.ref a0] (by decide +kernel) rfl ?_
      refine i_gr (idx := 18) (ci := 9) (k := 1) (t := 2) (p := 12086) (pc' := 104) (by decide +kernel) h0 ?_
      refine i_bl (pc' := 105) [(.iload_n 3, 1)] [some (.ref a0), o1, o2, some (.int x3), o4, o5] [.int x3, .ref (sh_r a0 1)] (by decide +kernel) rfl ?_
      refine i_al (pc' := 106) (by decide +kernel) (o_9_1 hN h0) ?_
      refine i_go (t := 110) (off := 4) (by decide +kernel) ?_
      exact i_ri (by decide +kernel) rfl

noncomputable def s_116_54 (a0 : Nat) (x3 : Int32) (x4 : Int32) (x5 : Int32) (m : Mm) : Option ((Int32 × Mm) ⊕ (Int32 × Mm)) := if (m a0 3) ≤ x5 then ((d_116_90 a0 x3 m).map Sum.inr) else (if 64 ≤ x5 then ((d_116_90 a0 x3 m).map Sum.inr) else (if ev_in x5 (sh_n (sh_r a0 2)) = true then ((d_118 a0 x4 (m (sh_r a0 2) (ix x5)) x3 m).bind fun m7 => wb (x5 + 1) fun y8 => some (.inl (y8, m7))) else none))
noncomputable def d_116_54 (a0 : Nat) (x3 : Int32) (x4 : Int32) (x5 : Int32) (m : Mm) : Option (Int32 × Mm) := it (fun s => s_116_54 a0 x3 x4 s.1 s.2) (x5, m)
theorem e_116_54 (a0 : Nat) (x3 : Int32) (x4 : Int32) (x5 : Int32) (m : Mm) : d_116_54 a0 x3 x4 x5 m = oi (s_116_54 a0 x3 x4 x5 m) (fun s => d_116_54 a0 x3 x4 s.1 s.2) := it_eq _
theorem u_116_54 {L nx : Nat} (hN : okn nx) {b z : Nat} {m : Mm} {a0 : Nat} (h0 : ok nx a0 9) {x3 : Int32} {x4 : Int32} {x5 : Int32} {o1 : Option Value} {o2 : Option Value} : Im (s_116_54 a0 x3 x4 x5 m) (kL (wI L nx) (E_116_54 L nx b z a0 x3 x4)) (ev_dn b z 116 54 [some (.ref a0), o1, o2, some (.int x3), some (.int x4), some (.int x5)] [] (nx, mem L nx m)) := by
  unfold s_116_54
  refine i_bl (pc' := 57) [(.iload 5, 2), (.aload_n 0, 1)] [some (.ref a0), o1, o2, some (.int x3), some (.int x4), some (.int x5)] [.ref a0, .int x5] (by decide +kernel) rfl ?_
  refine i_gf (idx := 25) (ci := 9) (k := 3) (t := 0) (p := 12088) (pc' := 60) (by decide +kernel) h0 ?_
  refine i_ic (c := .ge) (off := 30) (t := 90) (pc' := 63) (p := (m a0 3) ≤ x5) (by decide +kernel) rfl ?_ ?_
  · exact i_mr (t_116_90 hN (h0 := h0))
  · refine i_bl (pc' := 67) [(.iload 5, 2), (.bipush (64), 2)] [some (.ref a0), o1, o2, some (.int x3), some (.int x4), some (.int x5)] [.int 64, .int x5] (by decide +kernel) rfl ?_
    refine i_ic (c := .ge) (off := 23) (t := 90) (pc' := 70) (p := 64 ≤ x5) (by decide +kernel) rfl ?_ ?_
    · exact i_mr (t_116_90 hN (h0 := h0))
    · refine i_bl (pc' := 74) [(.aload_n 0, 1), (.iload 4, 2), (.aload_n 0, 1)] [some (.ref a0), o1, o2, some (.int x3), some (.int x4), some (.int x5)] [.ref a0, .int x4, .ref a0] (by decide +kernel) rfl ?_
      refine i_gr (idx := 22) (ci := 9) (k := 2) (t := 2) (p := 12087) (pc' := 77) (by decide +kernel) h0 ?_
      refine i_bl (pc' := 79) [(.iload 5, 2)] [some (.ref a0), o1, o2, some (.int x3), some (.int x4), some (.int x5)] [.int x5, .ref (sh_r a0 2), .int x4, .ref a0] (by decide +kernel) rfl ?_
      refine i_al (pc' := 80) (by decide +kernel) (o_9_2 hN h0) ?_
      refine i_bl (pc' := 81) [(.iload_n 3, 1)] [some (.ref a0), o1, o2, some (.int x3), some (.int x4), some (.int x5)] [.int x3, .int (m (sh_r a0 2) (ix x5)), .int x4, .ref a0] (by decide +kernel) rfl ?_
      refine i_cv (ci := 9) (t := 118) (na := 4) (ml := 9) (idx := 50) (pc' := 84) (st' := []) (en := [some (.ref a0), some (.int x4), some (.int (m (sh_r a0 2) (ix x5))), some (.int x3), none, none, none, none, none]) (av := [.int x4, .int (m (sh_r a0 2) (ix x5)), .int x3]) (vo := fun _ => none) (mo := fun m => m) (s2 := fun _ => []) (by decide +kernel) (by decide +kernel) h0 ⟨rfl, rfl, rfl, rfl, rfl, rfl⟩ (fun _ => rfl) (t_118 hN (h0 := h0)) (fun m7 => ?_)
      refine i_bl (pc' := 87) [(.iinc 5 (1), 3)] [some (.ref a0), o1, o2, some (.int x3), some (.int x4), some (.int (x5 + 1))] [] (by decide +kernel) rfl ?_
      refine i_wb (fun y8 => ev_dn b z 116 87 [some (.ref a0), o1, o2, some (.int x3), some (.int x4), some (.int y8)] [] (nx, mem L nx m7)) (fun y8 => ?_)
      refine i_go (t := 54) (off := -33) (by decide +kernel) ?_
      exact i_co (o1, o2) rfl

theorem t_116_54 {L nx : Nat} (hN : okn nx) {b z : Nat} {m : Mm} {a0 : Nat} (h0 : ok nx a0 9) {x3 : Int32} {x4 : Int32} {x5 : Int32} {o1 : Option Value} {o2 : Option Value} : Im (d_116_54 a0 x3 x4 x5 m) (wI L nx) (ev_dn b z 116 54 [some (.ref a0), o1, o2, some (.int x3), some (.int x4), some (.int x5)] [] (nx, mem L nx m)) := by
  exact i_it (f := fun s => s_116_54 a0 x3 x4 s.1 s.2) (E := E_116_54 L nx b z a0 x3 x4) (K := (wI L nx)) (fun d s => u_116_54 hN (h0 := h0)) (o1, o2) (x5, m)
noncomputable def d_116 (a0 : Nat) (a1 : Nat) (x2 : Int32) (x3 : Int32) (m : Mm) : Option (Int32 × Mm) := (d_17 a1 x2 m).bind fun v1 => if ¬ v1 = (-1) then ((d_11 (sh_r a0 0) a1 m).bind fun m2 => (d_18 (sh_r a0 0) x2 (-1) m2).bind fun m3 => (d_187 (sh_r a0 1) (-1) m3).bind fun m4 => wb (wr m4 a0 3 0) fun m5 => (d_117 a0 x2 0 m5).bind fun m6 => d_116_54 a0 x3 v1 0 m6) else (some ((-1), m))
theorem t_116 {L nx : Nat} (hN : okn nx) {b z : Nat} {m : Mm} {a0 : Nat} (h0 : ok nx a0 9) {a1 : Nat} (h1 : ok nx a1 1) {x2 : Int32} {x3 : Int32}  : Im (d_116 a0 a1 x2 x3 m) (wI L nx) (ev_dn b z 116 0 [some (.ref a0), some (.ref a1), some (.int x2), some (.int x3), none, none] [] (nx, mem L nx m)) := by
  unfold d_116
  refine i_bl (pc' := 2) [(.aload_n 1, 1), (.iload_n 2, 1)] [some (.ref a0), some (.ref a1), some (.int x2), some (.int x3), none, none] [.int x2, .ref a1] (by decide +kernel) rfl ?_
  refine i_cv (ci := 1) (t := 17) (na := 2) (ml := 2) (idx := 29) (pc' := 5) (st' := []) (en := [some (.ref a1), some (.int x2)]) (av := [.int x2]) (vo := fun v => some (.int v)) (mo := fun _ => m) (s2 := fun v => .int v :: []) (by decide +kernel) (by decide +kernel) h1 ⟨rfl, rfl, rfl, rfl, rfl, rfl⟩ (fun _ => rfl) (t_17 hN (h0 := h1)) (fun v1 => ?_)
  refine i_bl (pc' := 10) [(.istore 4, 2), (.iload 4, 2), (.iconst (-1), 1)] [some (.ref a0), some (.ref a1), some (.int x2), some (.int x3), some (.int v1), none] [.int (-1), .int v1] (by decide +kernel) rfl ?_
  refine i_ic (c := .ne) (off := 5) (t := 15) (pc' := 13) (p := ¬ v1 = (-1)) (by decide +kernel) rfl ?_ ?_
  · refine i_bl (pc' := 16) [(.aload_n 0, 1)] [some (.ref a0), some (.ref a1), some (.int x2), some (.int x3), some (.int v1), none] [.ref a0] (by decide +kernel) rfl ?_
    refine i_gr (idx := 12) (ci := 9) (k := 0) (t := 2) (p := 12085) (pc' := 19) (by decide +kernel) h0 ?_
    refine i_bl (pc' := 20) [(.aload_n 1, 1)] [some (.ref a0), some (.ref a1), some (.int x2), some (.int x3), some (.int v1), none] [.ref a1, .ref (sh_r a0 0)] (by decide +kernel) rfl ?_
    refine i_cv (ci := 1) (t := 11) (na := 2) (ml := 2) (idx := 33) (pc' := 23) (st' := []) (en := [some (.ref (sh_r a0 0)), some (.ref a1)]) (av := [.ref a1]) (vo := fun _ => none) (mo := fun m => m) (s2 := fun _ => []) (by decide +kernel) (by decide +kernel) (o_9_0 hN h0) ⟨rfl, rfl, rfl, rfl, rfl, rfl⟩ (fun _ => rfl) (t_11 hN (h0 := (o_9_0 hN h0)) (h1 := h1)) (fun m2 => ?_)
    refine i_bl (pc' := 24) [(.aload_n 0, 1)] [some (.ref a0), some (.ref a1), some (.int x2), some (.int x3), some (.int v1), none] [.ref a0] (by decide +kernel) rfl ?_
    refine i_gr (idx := 12) (ci := 9) (k := 0) (t := 2) (p := 12085) (pc' := 27) (by decide +kernel) h0 ?_
    refine i_bl (pc' := 29) [(.iload_n 2, 1), (.iconst (-1), 1)] [some (.ref a0), some (.ref a1), some (.int x2), some (.int x3), some (.int v1), none] [.int (-1), .int x2, .ref (sh_r a0 0)] (by decide +kernel) rfl ?_
    refine i_cv (ci := 1) (t := 18) (na := 3) (ml := 3) (idx := 37) (pc' := 32) (st' := []) (en := [some (.ref (sh_r a0 0)), some (.int x2), some (.int (-1))]) (av := [.int x2, .int (-1)]) (vo := fun _ => none) (mo := fun m => m) (s2 := fun _ => []) (by decide +kernel) (by decide +kernel) (o_9_0 hN h0) ⟨rfl, rfl, rfl, rfl, rfl, rfl⟩ (fun _ => rfl) (t_18 hN (h0 := (o_9_0 hN h0))) (fun m3 => ?_)
    refine i_bl (pc' := 33) [(.aload_n 0, 1)] [some (.ref a0), some (.ref a1), some (.int x2), some (.int x3), some (.int v1), none] [.ref a0] (by decide +kernel) rfl ?_
    refine i_gr (idx := 18) (ci := 9) (k := 1) (t := 2) (p := 12086) (pc' := 36) (by decide +kernel) h0 ?_
    refine i_bl (pc' := 37) [(.iconst (-1), 1)] [some (.ref a0), some (.ref a1), some (.int x2), some (.int x3), some (.int v1), none] [.int (-1), .ref (sh_r a0 1)] (by decide +kernel) rfl ?_
    refine i_cs (t := 187) (na := 2) (ml := 4) (idx := 41) (pc' := 40) (st' := []) (en := [some (.ref (sh_r a0 1)), some (.int (-1)), none, none]) (av := [.ref (sh_r a0 1), .int (-1)]) (vo := fun _ => none) (mo := fun m => m) (s2 := fun _ => []) (by decide +kernel) ⟨rfl, rfl, rfl, rfl, rfl, rfl⟩ (fun _ => rfl) (t_187 hN (h0 := (o_9_1 hN h0))) (fun m4 => ?_)
    refine i_bl (pc' := 42) [(.aload_n 0, 1), (.iconst 0, 1)] [some (.ref a0), some (.ref a1), some (.int x2), some (.int x3), some (.int v1), none] [.int 0, .ref a0] (by decide +kernel) rfl ?_
    refine i_pf (x := 0) (idx := 25) (ci := 9) (k := 3) (p := 12088) (pc' := 45) (by decide +kernel) h0 (fun m5 => ?_)
    refine i_bl (pc' := 48) [(.aload_n 0, 1), (.iload_n 2, 1), (.iconst 0, 1)] [some (.ref a0), some (.ref a1), some (.int x2), some (.int x3), some (.int v1), none] [.int 0, .int x2, .ref a0] (by decide +kernel) rfl ?_
    refine i_cv (ci := 9) (t := 117) (na := 3) (ml := 3) (idx := 47) (pc' := 51) (st' := []) (en := [some (.ref a0), some (.int x2), some (.int 0)]) (av := [.int x2, .int 0]) (vo := fun _ => none) (mo := fun m => m) (s2 := fun _ => []) (by decide +kernel) (by decide +kernel) h0 ⟨rfl, rfl, rfl, rfl, rfl, rfl⟩ (fun _ => rfl) (t_117 hN (h0 := h0)) (fun m6 => ?_)
    refine i_bl (pc' := 54) [(.iconst 0, 1), (.istore 5, 2)] [some (.ref a0), some (.ref a1), some (.int x2), some (.int x3), some (.int v1), some (.int 0)] [] (by decide +kernel) rfl ?_
    exact t_116_54 hN (h0 := h0)
  · refine i_bl (pc' := 14) [(.iconst (-1), 1)] [some (.ref a0), some (.ref a1), some (.int x2), some (.int x3), some (.int v1), none] [.int (-1)] (by decide +kernel) rfl ?_
    exact i_ri (by decide +kernel) rfl

/-! 120 LanternChess.appendInput(IIIII)I -/
noncomputable def d_120 (a0 : Nat) (x1 : Int32) (x2 : Int32) (x3 : Int32) (x4 : Int32) (x5 : Int32) (m : Mm) : Option (Int32 × Mm) := (d_96 (sh_r a0 0) m).bind fun v1 => if v1 = true then ((d_97 (sh_r a0 0) x1 m).bind fun m2 => (d_97 (sh_r a0 0) x2 m2).bind fun m3 => (d_97 (sh_r a0 0) x3 m3).bind fun m4 => (d_97 (sh_r a0 0) x4 m4).bind fun m5 => (d_97 (sh_r a0 0) x5 m5).bind fun m6 => some (m6 (sh_r a0 0) 1, m6)) else (some ((-1), m))
theorem t_120 {L nx : Nat} (hN : okn nx) {b z : Nat} {m : Mm} {a0 : Nat} (h0 : ok nx a0 10) {x1 : Int32} {x2 : Int32} {x3 : Int32} {x4 : Int32} {x5 : Int32}  : Im (d_120 a0 x1 x2 x3 x4 x5 m) (wI L nx) (ev_dn b z 120 0 [some (.ref a0), some (.int x1), some (.int x2), some (.int x3), some (.int x4), some (.int x5)] [] (nx, mem L nx m)) := by
  unfold d_120
  refine i_bl (pc' := 1) [(.aload_n 0, 1)] [some (.ref a0), some (.int x1), some (.int x2), some (.int x3), some (.int x4), some (.int x5)] [.ref a0] (by decide +kernel) rfl ?_
  refine i_gr (idx := 10) (ci := 10) (k := 0) (t := 2) (p := 12128) (pc' := 4) (by decide +kernel) h0 ?_
  refine i_cv (ci := 8) (t := 96) (na := 1) (ml := 1) (idx := 82) (pc' := 7) (st' := []) (en := [some (.ref (sh_r a0 0))]) (av := []) (vo := fun v => some (.int (bi v))) (mo := fun _ => m) (s2 := fun v => .int (bi v) :: []) (by decide +kernel) (by decide +kernel) (o_10_0 hN h0) ⟨rfl, rfl, rfl, rfl, rfl, rfl⟩ (fun _ => rfl) (t_96 hN (h0 := (o_10_0 hN h0))) (fun v1 => ?_)
  refine i_bn (off := 5) (t := 12) (pc' := 10) (by decide +kernel) ?_ ?_
  · refine i_bl (pc' := 13) [(.aload_n 0, 1)] [some (.ref a0), some (.int x1), some (.int x2), some (.int x3), some (.int x4), some (.int x5)] [.ref a0] (by decide +kernel) rfl ?_
    refine i_gr (idx := 10) (ci := 10) (k := 0) (t := 2) (p := 12128) (pc' := 16) (by decide +kernel) h0 ?_
    refine i_bl (pc' := 17) [(.iload_n 1, 1)] [some (.ref a0), some (.int x1), some (.int x2), some (.int x3), some (.int x4), some (.int x5)] [.int x1, .ref (sh_r a0 0)] (by decide +kernel) rfl ?_
    refine i_cv (ci := 8) (t := 97) (na := 2) (ml := 3) (idx := 86) (pc' := 20) (st' := []) (en := [some (.ref (sh_r a0 0)), some (.int x1), none]) (av := [.int x1]) (vo := fun _ => none) (mo := fun m => m) (s2 := fun _ => []) (by decide +kernel) (by decide +kernel) (o_10_0 hN h0) ⟨rfl, rfl, rfl, rfl, rfl, rfl⟩ (fun _ => rfl) (t_97 hN (h0 := (o_10_0 hN h0))) (fun m2 => ?_)
    refine i_bl (pc' := 21) [(.aload_n 0, 1)] [some (.ref a0), some (.int x1), some (.int x2), some (.int x3), some (.int x4), some (.int x5)] [.ref a0] (by decide +kernel) rfl ?_
    refine i_gr (idx := 10) (ci := 10) (k := 0) (t := 2) (p := 12128) (pc' := 24) (by decide +kernel) h0 ?_
    refine i_bl (pc' := 25) [(.iload_n 2, 1)] [some (.ref a0), some (.int x1), some (.int x2), some (.int x3), some (.int x4), some (.int x5)] [.int x2, .ref (sh_r a0 0)] (by decide +kernel) rfl ?_
    refine i_cv (ci := 8) (t := 97) (na := 2) (ml := 3) (idx := 86) (pc' := 28) (st' := []) (en := [some (.ref (sh_r a0 0)), some (.int x2), none]) (av := [.int x2]) (vo := fun _ => none) (mo := fun m => m) (s2 := fun _ => []) (by decide +kernel) (by decide +kernel) (o_10_0 hN h0) ⟨rfl, rfl, rfl, rfl, rfl, rfl⟩ (fun _ => rfl) (t_97 hN (h0 := (o_10_0 hN h0))) (fun m3 => ?_)
    refine i_bl (pc' := 29) [(.aload_n 0, 1)] [some (.ref a0), some (.int x1), some (.int x2), some (.int x3), some (.int x4), some (.int x5)] [.ref a0] (by decide +kernel) rfl ?_
    refine i_gr (idx := 10) (ci := 10) (k := 0) (t := 2) (p := 12128) (pc' := 32) (by decide +kernel) h0 ?_
    refine i_bl (pc' := 33) [(.iload_n 3, 1)] [some (.ref a0), some (.int x1), some (.int x2), some (.int x3), some (.int x4), some (.int x5)] [.int x3, .ref (sh_r a0 0)] (by decide +kernel) rfl ?_
    refine i_cv (ci := 8) (t := 97) (na := 2) (ml := 3) (idx := 86) (pc' := 36) (st' := []) (en := [some (.ref (sh_r a0 0)), some (.int x3), none]) (av := [.int x3]) (vo := fun _ => none) (mo := fun m => m) (s2 := fun _ => []) (by decide +kernel) (by decide +kernel) (o_10_0 hN h0) ⟨rfl, rfl, rfl, rfl, rfl, rfl⟩ (fun _ => rfl) (t_97 hN (h0 := (o_10_0 hN h0))) (fun m4 => ?_)
    refine i_bl (pc' := 37) [(.aload_n 0, 1)] [some (.ref a0), some (.int x1), some (.int x2), some (.int x3), some (.int x4), some (.int x5)] [.ref a0] (by decide +kernel) rfl ?_
    refine i_gr (idx := 10) (ci := 10) (k := 0) (t := 2) (p := 12128) (pc' := 40) (by decide +kernel) h0 ?_
    refine i_bl (pc' := 42) [(.iload 4, 2)] [some (.ref a0), some (.int x1), some (.int x2), some (.int x3), some (.int x4), some (.int x5)] [.int x4, .ref (sh_r a0 0)] (by decide +kernel) rfl ?_
    refine i_cv (ci := 8) (t := 97) (na := 2) (ml := 3) (idx := 86) (pc' := 45) (st' := []) (en := [some (.ref (sh_r a0 0)), some (.int x4), none]) (av := [.int x4]) (vo := fun _ => none) (mo := fun m => m) (s2 := fun _ => []) (by decide +kernel) (by decide +kernel) (o_10_0 hN h0) ⟨rfl, rfl, rfl, rfl, rfl, rfl⟩ (fun _ => rfl) (t_97 hN (h0 := (o_10_0 hN h0))) (fun m5 => ?_)
    refine i_bl (pc' := 46) [(.aload_n 0, 1)] [some (.ref a0), some (.int x1), some (.int x2), some (.int x3), some (.int x4), some (.int x5)] [.ref a0] (by decide +kernel) rfl ?_
    refine i_gr (idx := 10) (ci := 10) (k := 0) (t := 2) (p := 12128) (pc' := 49) (by decide +kernel) h0 ?_
    refine i_bl (pc' := 51) [(.iload 5, 2)] [some (.ref a0), some (.int x1), some (.int x2), some (.int x3), some (.int x4), some (.int x5)] [.int x5, .ref (sh_r a0 0)] (by decide +kernel) rfl ?_
    refine i_cv (ci := 8) (t := 97) (na := 2) (ml := 3) (idx := 86) (pc' := 54) (st' := []) (en := [some (.ref (sh_r a0 0)), some (.int x5), none]) (av := [.int x5]) (vo := fun _ => none) (mo := fun m => m) (s2 := fun _ => []) (by decide +kernel) (by decide +kernel) (o_10_0 hN h0) ⟨rfl, rfl, rfl, rfl, rfl, rfl⟩ (fun _ => rfl) (t_97 hN (h0 := (o_10_0 hN h0))) (fun m6 => ?_)
    refine i_bl (pc' := 55) [(.aload_n 0, 1)] [some (.ref a0), some (.int x1), some (.int x2), some (.int x3), some (.int x4), some (.int x5)] [.ref a0] (by decide +kernel) rfl ?_
    refine i_gr (idx := 10) (ci := 10) (k := 0) (t := 2) (p := 12128) (pc' := 58) (by decide +kernel) h0 ?_
    refine i_gf (idx := 90) (ci := 8) (k := 1) (t := 0) (p := 11047) (pc' := 61) (by decide +kernel) (o_10_0 hN h0) ?_
    exact i_ri (by decide +kernel) rfl
  · refine i_bl (pc' := 11) [(.iconst (-1), 1)] [some (.ref a0), some (.int x1), some (.int x2), some (.int x3), some (.int x4), some (.int x5)] [.int (-1)] (by decide +kernel) rfl ?_
    exact i_ri (by decide +kernel) rfl

/-! 121 LanternChess.truncateInput(I)Z -/
noncomputable def d_121 (a0 : Nat) (x1 : Int32) (m : Mm) : Option (Bool × Mm) := if x1 < 0 then (some (false, m)) else (if x1 ≤ (m (sh_r a0 0) 1) then (wb (wr m (sh_r a0 0) 1 x1) fun m1 => some (true, m1)) else (some (false, m)))
theorem t_121 {L nx : Nat} (hN : okn nx) {b z : Nat} {m : Mm} {a0 : Nat} (h0 : ok nx a0 10) {x1 : Int32}  : Im (d_121 a0 x1 m) (wZ L nx) (ev_dn b z 121 0 [some (.ref a0), some (.int x1)] [] (nx, mem L nx m)) := by
  unfold d_121
  refine i_bl (pc' := 1) [(.iload_n 1, 1)] [some (.ref a0), some (.int x1)] [.int x1] (by decide +kernel) rfl ?_
  refine i_if (c := .lt) (off := 14) (t := 15) (pc' := 4) (p := x1 < 0) (by decide +kernel) rfl ?_ ?_
  · refine i_bl (pc' := 16) [(.iconst 0, 1)] [some (.ref a0), some (.int x1)] [.int 0] (by decide +kernel) rfl ?_
    exact i_rz (B := false) (by decide +kernel) rfl
  · refine i_bl (pc' := 6) [(.iload_n 1, 1), (.aload_n 0, 1)] [some (.ref a0), some (.int x1)] [.ref a0, .int x1] (by decide +kernel) rfl ?_
    refine i_gr (idx := 10) (ci := 10) (k := 0) (t := 2) (p := 12128) (pc' := 9) (by decide +kernel) h0 ?_
    refine i_gf (idx := 90) (ci := 8) (k := 1) (t := 0) (p := 11047) (pc' := 12) (by decide +kernel) (o_10_0 hN h0) ?_
    refine i_ic (c := .le) (off := 5) (t := 17) (pc' := 15) (p := x1 ≤ (m (sh_r a0 0) 1)) (by decide +kernel) rfl ?_ ?_
    · refine i_bl (pc' := 18) [(.aload_n 0, 1)] [some (.ref a0), some (.int x1)] [.ref a0] (by decide +kernel) rfl ?_
      refine i_gr (idx := 10) (ci := 10) (k := 0) (t := 2) (p := 12128) (pc' := 21) (by decide +kernel) h0 ?_
      refine i_bl (pc' := 22) [(.iload_n 1, 1)] [some (.ref a0), some (.int x1)] [.int x1, .ref (sh_r a0 0)] (by decide +kernel) rfl ?_
      refine i_pf (x := x1) (idx := 90) (ci := 8) (k := 1) (p := 11047) (pc' := 25) (by decide +kernel) (o_10_0 hN h0) (fun m1 => ?_)
      refine i_bl (pc' := 26) [(.iconst 1, 1)] [some (.ref a0), some (.int x1)] [.int 1] (by decide +kernel) rfl ?_
      exact i_rz (B := true) (by decide +kernel) rfl
    · refine i_bl (pc' := 16) [(.iconst 0, 1)] [some (.ref a0), some (.int x1)] [.int 0] (by decide +kernel) rfl ?_
      exact i_rz (B := false) (by decide +kernel) rfl

/-! 122 LanternChess.loadGame()I -/
noncomputable def d_122 (a0 : Nat) (m : Mm) : Option (Int32 × Mm) := (d_98 (sh_r a0 0) (sh_r a0 2) m).bind fun m1 => wb (wr m1 (sh_r a0 0) 1 0) fun m2 => if (m2 (sh_r a0 0) 2) = 0 then ((d_49 (sh_r a0 1) (sh_r a0 2) m2).bind fun m3 => (d_64 (sh_r a0 5) m3).bind fun m4 => wb (wr m4 a0 4 (bi false)) fun m5 => some (m5 (sh_r a0 0) 4, m5)) else (some ((-1), m2))
theorem t_122 {L nx : Nat} (hN : okn nx) {b z : Nat} {m : Mm} {a0 : Nat} (h0 : ok nx a0 10)   : Im (d_122 a0 m) (wI L nx) (ev_dn b z 122 0 [some (.ref a0)] [] (nx, mem L nx m)) := by
  unfold d_122
  refine i_bl (pc' := 1) [(.aload_n 0, 1)] [some (.ref a0)] [.ref a0] (by decide +kernel) rfl ?_
  refine i_gr (idx := 10) (ci := 10) (k := 0) (t := 2) (p := 12128) (pc' := 4) (by decide +kernel) h0 ?_
  refine i_bl (pc' := 5) [(.aload_n 0, 1)] [some (.ref a0)] [.ref a0, .ref (sh_r a0 0)] (by decide +kernel) rfl ?_
  refine i_gr (idx := 23) (ci := 10) (k := 2) (t := 2) (p := 12130) (pc' := 8) (by decide +kernel) h0 ?_
  refine i_cv (ci := 8) (t := 98) (na := 2) (ml := 5) (idx := 93) (pc' := 11) (st' := []) (en := [some (.ref (sh_r a0 0)), some (.ref (sh_r a0 2)), none, none, none]) (av := [.ref (sh_r a0 2)]) (vo := fun _ => none) (mo := fun m => m) (s2 := fun _ => []) (by decide +kernel) (by decide +kernel) (o_10_0 hN h0) ⟨rfl, rfl, rfl, rfl, rfl, rfl⟩ (fun _ => rfl) (t_98 hN (h0 := (o_10_0 hN h0)) (h1 := (o_10_2 hN h0))) (fun m1 => ?_)
  refine i_bl (pc' := 12) [(.aload_n 0, 1)] [some (.ref a0)] [.ref a0] (by decide +kernel) rfl ?_
  refine i_gr (idx := 10) (ci := 10) (k := 0) (t := 2) (p := 12128) (pc' := 15) (by decide +kernel) h0 ?_
  refine i_bl (pc' := 16) [(.iconst 0, 1)] [some (.ref a0)] [.int 0, .ref (sh_r a0 0)] (by decide +kernel) rfl ?_
  refine i_pf (x := 0) (idx := 90) (ci := 8) (k := 1) (p := 11047) (pc' := 19) (by decide +kernel) (o_10_0 hN h0) (fun m2 => ?_)
  refine i_bl (pc' := 20) [(.aload_n 0, 1)] [some (.ref a0)] [.ref a0] (by decide +kernel) rfl ?_
  refine i_gr (idx := 10) (ci := 10) (k := 0) (t := 2) (p := 12128) (pc' := 23) (by decide +kernel) h0 ?_
  refine i_gf (idx := 97) (ci := 8) (k := 2) (t := 0) (p := 11049) (pc' := 26) (by decide +kernel) (o_10_0 hN h0) ?_
  refine i_if (c := .eq) (off := 5) (t := 31) (pc' := 29) (p := (m2 (sh_r a0 0) 2) = 0) (by decide +kernel) rfl ?_ ?_
  · refine i_bl (pc' := 32) [(.aload_n 0, 1)] [some (.ref a0)] [.ref a0] (by decide +kernel) rfl ?_
    refine i_gr (idx := 19) (ci := 10) (k := 1) (t := 2) (p := 12129) (pc' := 35) (by decide +kernel) h0 ?_
    refine i_bl (pc' := 36) [(.aload_n 0, 1)] [some (.ref a0)] [.ref a0, .ref (sh_r a0 1)] (by decide +kernel) rfl ?_
    refine i_gr (idx := 23) (ci := 10) (k := 2) (t := 2) (p := 12130) (pc' := 39) (by decide +kernel) h0 ?_
    refine i_cv (ci := 3) (t := 49) (na := 2) (ml := 2) (idx := 100) (pc' := 42) (st' := []) (en := [some (.ref (sh_r a0 1)), some (.ref (sh_r a0 2))]) (av := [.ref (sh_r a0 2)]) (vo := fun _ => none) (mo := fun m => m) (s2 := fun _ => []) (by decide +kernel) (by decide +kernel) (o_10_1 hN h0) ⟨rfl, rfl, rfl, rfl, rfl, rfl⟩ (fun _ => rfl) (t_49 hN (h0 := (o_10_1 hN h0)) (h1 := (o_10_2 hN h0))) (fun m3 => ?_)
    refine i_bl (pc' := 43) [(.aload_n 0, 1)] [some (.ref a0)] [.ref a0] (by decide +kernel) rfl ?_
    refine i_gr (idx := 36) (ci := 10) (k := 5) (t := 2) (p := 12133) (pc' := 46) (by decide +kernel) h0 ?_
    refine i_cv (ci := 4) (t := 64) (na := 1) (ml := 1) (idx := 103) (pc' := 49) (st' := []) (en := [some (.ref (sh_r a0 5))]) (av := []) (vo := fun _ => none) (mo := fun m => m) (s2 := fun _ => []) (by decide +kernel) (by decide +kernel) (o_10_5 hN h0) ⟨rfl, rfl, rfl, rfl, rfl, rfl⟩ (fun _ => rfl) (t_64 hN (h0 := (o_10_5 hN h0))) (fun m4 => ?_)
    refine i_bl (pc' := 51) [(.aload_n 0, 1), (.iconst 0, 1)] [some (.ref a0)] [.int 0, .ref a0] (by decide +kernel) rfl ?_
    refine i_pz (B := false) (idx := 29) (ci := 10) (k := 4) (p := 12132) (pc' := 54) (by decide +kernel) h0 (fun m5 => ?_)
    refine i_bl (pc' := 55) [(.aload_n 0, 1)] [some (.ref a0)] [.ref a0] (by decide +kernel) rfl ?_
    refine i_gr (idx := 10) (ci := 10) (k := 0) (t := 2) (p := 12128) (pc' := 58) (by decide +kernel) h0 ?_
    refine i_gf (idx := 106) (ci := 8) (k := 4) (t := 0) (p := 11052) (pc' := 61) (by decide +kernel) (o_10_0 hN h0) ?_
    exact i_ri (by decide +kernel) rfl
  · refine i_bl (pc' := 30) [(.iconst (-1), 1)] [some (.ref a0)] [.int (-1)] (by decide +kernel) rfl ?_
    exact i_ri (by decide +kernel) rfl

/-! 125 LanternChess.count(I)I -/
noncomputable def d_125 (a0 : Nat) (x1 : Int32) (m : Mm) : Option Int32 := (if x1 = 0 then (some (m (sh_r (sh_r (sh_r a0 1) 0) 0) 1)) else if x1 = 1 then (some (m (sh_r (sh_r (sh_r a0 1) 0) 0) 2)) else if x1 = 2 then (some (m (sh_r a0 1) 5)) else if x1 = 3 then (some (m (sh_r a0 1) 6)) else if x1 = 4 then (some (m (sh_r a0 1) 7)) else if x1 = 5 then (some (m (sh_r a0 1) 8)) else if x1 = 6 then (some (m (sh_r a0 1) 9)) else if x1 = 7 then (some (m (sh_r a0 1) 10)) else if x1 = 8 then (some (m (sh_r (sh_r a0 1) 2) 3)) else if x1 = 9 then (some (m (sh_r (sh_r a0 1) 0) 2)) else if x1 = 10 then (some (m (sh_r (sh_r a0 1) 1) 2)) else if x1 = 11 then (some (m (sh_r (sh_r a0 1) 4) 2)) else if x1 = 12 then (some (m (sh_r (sh_r a0 1) 3) 2)) else if x1 = 13 then (some (m (sh_r (sh_r a0 1) 3) 1)) else if x1 = 14 then (some (m (sh_r (sh_r a0 1) 4) 1)) else if x1 = 15 then (some (m (sh_r a0 5) 2)) else (none))
theorem t_125 {L nx : Nat} (hN : okn nx) {b z : Nat} {m : Mm} {a0 : Nat} (h0 : ok nx a0 10) {x1 : Int32}  : Im (d_125 a0 x1 m) (kI L nx m) (ev_dn b z 125 0 [some (.ref a0), some (.int x1)] [] (nx, mem L nx m)) := by
  unfold d_125
  refine i_bl (pc' := 1) [(.iload_n 1, 1)] [some (.ref a0), some (.int x1)] [.int x1] (by decide +kernel) rfl ?_
  refine i_sw (n := 79) (dd := (240)) (lo0 := (0)) (hi0 := (15)) (offs := #[(79), (93), (107), (115), (123), (131), (139), (147), (155), (166), (177), (188), (199), (210), (221), (232)]) (d := 241) (ts := [80, 94, 108, 116, 124, 132, 140, 148, 156, 167, 178, 189, 200, 211, 222, 233]) (cs := [(0, 80), (1, 94), (2, 108), (3, 116), (4, 124), (5, 132), (6, 140), (7, 148), (8, 156), (9, 167), (10, 178), (11, 189), (12, 200), (13, 211), (14, 222), (15, 233)]) (by decide +kernel) ?_
  refine i_sc (c := 0) (by decide +kernel) ?_ ?_
  · refine i_bl (pc' := 81) [(.aload_n 0, 1)] [some (.ref a0), some (.int x1)] [.ref a0] (by decide +kernel) rfl ?_
    refine i_gr (idx := 19) (ci := 10) (k := 1) (t := 2) (p := 12129) (pc' := 84) (by decide +kernel) h0 ?_
    refine i_gr (idx := 112) (ci := 3) (k := 0) (t := 2) (p := 11177) (pc' := 87) (by decide +kernel) (o_10_1 hN h0) ?_
    refine i_gr (idx := 116) (ci := 0) (k := 0) (t := 2) (p := 11116) (pc' := 90) (by decide +kernel) (o_3_0 hN (o_10_1 hN h0)) ?_
    refine i_gf (idx := 122) (ci := 1) (k := 1) (t := 0) (p := 11101) (pc' := 93) (by decide +kernel) (o_0_0 hN (o_3_0 hN (o_10_1 hN h0))) ?_
    exact i_ri (by decide +kernel) rfl
  refine i_sc (c := 1) (by decide +kernel) ?_ ?_
  · refine i_bl (pc' := 95) [(.aload_n 0, 1)] [some (.ref a0), some (.int x1)] [.ref a0] (by decide +kernel) rfl ?_
    refine i_gr (idx := 19) (ci := 10) (k := 1) (t := 2) (p := 12129) (pc' := 98) (by decide +kernel) h0 ?_
    refine i_gr (idx := 112) (ci := 3) (k := 0) (t := 2) (p := 11177) (pc' := 101) (by decide +kernel) (o_10_1 hN h0) ?_
    refine i_gr (idx := 116) (ci := 0) (k := 0) (t := 2) (p := 11116) (pc' := 104) (by decide +kernel) (o_3_0 hN (o_10_1 hN h0)) ?_
    refine i_gf (idx := 125) (ci := 1) (k := 2) (t := 0) (p := 11104) (pc' := 107) (by decide +kernel) (o_0_0 hN (o_3_0 hN (o_10_1 hN h0))) ?_
    exact i_ri (by decide +kernel) rfl
  refine i_sc (c := 2) (by decide +kernel) ?_ ?_
  · refine i_bl (pc' := 109) [(.aload_n 0, 1)] [some (.ref a0), some (.int x1)] [.ref a0] (by decide +kernel) rfl ?_
    refine i_gr (idx := 19) (ci := 10) (k := 1) (t := 2) (p := 12129) (pc' := 112) (by decide +kernel) h0 ?_
    refine i_gf (idx := 128) (ci := 3) (k := 5) (t := 0) (p := 11188) (pc' := 115) (by decide +kernel) (o_10_1 hN h0) ?_
    exact i_ri (by decide +kernel) rfl
  refine i_sc (c := 3) (by decide +kernel) ?_ ?_
  · refine i_bl (pc' := 117) [(.aload_n 0, 1)] [some (.ref a0), some (.int x1)] [.ref a0] (by decide +kernel) rfl ?_
    refine i_gr (idx := 19) (ci := 10) (k := 1) (t := 2) (p := 12129) (pc' := 120) (by decide +kernel) h0 ?_
    refine i_gf (idx := 131) (ci := 3) (k := 6) (t := 0) (p := 11190) (pc' := 123) (by decide +kernel) (o_10_1 hN h0) ?_
    exact i_ri (by decide +kernel) rfl
  refine i_sc (c := 4) (by decide +kernel) ?_ ?_
  · refine i_bl (pc' := 125) [(.aload_n 0, 1)] [some (.ref a0), some (.int x1)] [.ref a0] (by decide +kernel) rfl ?_
    refine i_gr (idx := 19) (ci := 10) (k := 1) (t := 2) (p := 12129) (pc' := 128) (by decide +kernel) h0 ?_
    refine i_gf (idx := 134) (ci := 3) (k := 7) (t := 0) (p := 11192) (pc' := 131) (by decide +kernel) (o_10_1 hN h0) ?_
    exact i_ri (by decide +kernel) rfl
  refine i_sc (c := 5) (by decide +kernel) ?_ ?_
  · refine i_bl (pc' := 133) [(.aload_n 0, 1)] [some (.ref a0), some (.int x1)] [.ref a0] (by decide +kernel) rfl ?_
    refine i_gr (idx := 19) (ci := 10) (k := 1) (t := 2) (p := 12129) (pc' := 136) (by decide +kernel) h0 ?_
    refine i_gf (idx := 137) (ci := 3) (k := 8) (t := 0) (p := 11195) (pc' := 139) (by decide +kernel) (o_10_1 hN h0) ?_
    exact i_ri (by decide +kernel) rfl
  refine i_sc (c := 6) (by decide +kernel) ?_ ?_
  · refine i_bl (pc' := 141) [(.aload_n 0, 1)] [some (.ref a0), some (.int x1)] [.ref a0] (by decide +kernel) rfl ?_
    refine i_gr (idx := 19) (ci := 10) (k := 1) (t := 2) (p := 12129) (pc' := 144) (by decide +kernel) h0 ?_
    refine i_gf (idx := 140) (ci := 3) (k := 9) (t := 0) (p := 11198) (pc' := 147) (by decide +kernel) (o_10_1 hN h0) ?_
    exact i_ri (by decide +kernel) rfl
  refine i_sc (c := 7) (by decide +kernel) ?_ ?_
  · refine i_bl (pc' := 149) [(.aload_n 0, 1)] [some (.ref a0), some (.int x1)] [.ref a0] (by decide +kernel) rfl ?_
    refine i_gr (idx := 19) (ci := 10) (k := 1) (t := 2) (p := 12129) (pc' := 152) (by decide +kernel) h0 ?_
    refine i_gf (idx := 143) (ci := 3) (k := 10) (t := 0) (p := 11201) (pc' := 155) (by decide +kernel) (o_10_1 hN h0) ?_
    exact i_ri (by decide +kernel) rfl
  refine i_sc (c := 8) (by decide +kernel) ?_ ?_
  · refine i_bl (pc' := 157) [(.aload_n 0, 1)] [some (.ref a0), some (.int x1)] [.ref a0] (by decide +kernel) rfl ?_
    refine i_gr (idx := 19) (ci := 10) (k := 1) (t := 2) (p := 12129) (pc' := 160) (by decide +kernel) h0 ?_
    refine i_gr (idx := 146) (ci := 3) (k := 2) (t := 2) (p := 11182) (pc' := 163) (by decide +kernel) (o_10_1 hN h0) ?_
    refine i_gf (idx := 150) (ci := 2) (k := 3) (t := 0) (p := 11147) (pc' := 166) (by decide +kernel) (o_3_2 hN (o_10_1 hN h0)) ?_
    exact i_ri (by decide +kernel) rfl
  refine i_sc (c := 9) (by decide +kernel) ?_ ?_
  · refine i_bl (pc' := 168) [(.aload_n 0, 1)] [some (.ref a0), some (.int x1)] [.ref a0] (by decide +kernel) rfl ?_
    refine i_gr (idx := 19) (ci := 10) (k := 1) (t := 2) (p := 12129) (pc' := 171) (by decide +kernel) h0 ?_
    refine i_gr (idx := 112) (ci := 3) (k := 0) (t := 2) (p := 11177) (pc' := 174) (by decide +kernel) (o_10_1 hN h0) ?_
    refine i_gf (idx := 155) (ci := 0) (k := 2) (t := 0) (p := 11119) (pc' := 177) (by decide +kernel) (o_3_0 hN (o_10_1 hN h0)) ?_
    exact i_ri (by decide +kernel) rfl
  refine i_sc (c := 10) (by decide +kernel) ?_ ?_
  · refine i_bl (pc' := 179) [(.aload_n 0, 1)] [some (.ref a0), some (.int x1)] [.ref a0] (by decide +kernel) rfl ?_
    refine i_gr (idx := 19) (ci := 10) (k := 1) (t := 2) (p := 12129) (pc' := 182) (by decide +kernel) h0 ?_
    refine i_gr (idx := 158) (ci := 3) (k := 1) (t := 2) (p := 11179) (pc' := 185) (by decide +kernel) (o_10_1 hN h0) ?_
    refine i_gf (idx := 155) (ci := 0) (k := 2) (t := 0) (p := 11119) (pc' := 188) (by decide +kernel) (o_3_1 hN (o_10_1 hN h0)) ?_
    exact i_ri (by decide +kernel) rfl
  refine i_sc (c := 11) (by decide +kernel) ?_ ?_
  · refine i_bl (pc' := 190) [(.aload_n 0, 1)] [some (.ref a0), some (.int x1)] [.ref a0] (by decide +kernel) rfl ?_
    refine i_gr (idx := 19) (ci := 10) (k := 1) (t := 2) (p := 12129) (pc' := 193) (by decide +kernel) h0 ?_
    refine i_gr (idx := 161) (ci := 3) (k := 4) (t := 2) (p := 11186) (pc' := 196) (by decide +kernel) (o_10_1 hN h0) ?_
    refine i_gf (idx := 165) (ci := 5) (k := 2) (t := 0) (p := 11167) (pc' := 199) (by decide +kernel) (o_3_4 hN (o_10_1 hN h0)) ?_
    exact i_ri (by decide +kernel) rfl
  refine i_sc (c := 12) (by decide +kernel) ?_ ?_
  · refine i_bl (pc' := 201) [(.aload_n 0, 1)] [some (.ref a0), some (.int x1)] [.ref a0] (by decide +kernel) rfl ?_
    refine i_gr (idx := 19) (ci := 10) (k := 1) (t := 2) (p := 12129) (pc' := 204) (by decide +kernel) h0 ?_
    refine i_gr (idx := 170) (ci := 3) (k := 3) (t := 2) (p := 11184) (pc' := 207) (by decide +kernel) (o_10_1 hN h0) ?_
    refine i_gf (idx := 165) (ci := 5) (k := 2) (t := 0) (p := 11167) (pc' := 210) (by decide +kernel) (o_3_3 hN (o_10_1 hN h0)) ?_
    exact i_ri (by decide +kernel) rfl
  refine i_sc (c := 13) (by decide +kernel) ?_ ?_
  · refine i_bl (pc' := 212) [(.aload_n 0, 1)] [some (.ref a0), some (.int x1)] [.ref a0] (by decide +kernel) rfl ?_
    refine i_gr (idx := 19) (ci := 10) (k := 1) (t := 2) (p := 12129) (pc' := 215) (by decide +kernel) h0 ?_
    refine i_gr (idx := 170) (ci := 3) (k := 3) (t := 2) (p := 11184) (pc' := 218) (by decide +kernel) (o_10_1 hN h0) ?_
    refine i_gf (idx := 173) (ci := 5) (k := 1) (t := 0) (p := 11165) (pc' := 221) (by decide +kernel) (o_3_3 hN (o_10_1 hN h0)) ?_
    exact i_ri (by decide +kernel) rfl
  refine i_sc (c := 14) (by decide +kernel) ?_ ?_
  · refine i_bl (pc' := 223) [(.aload_n 0, 1)] [some (.ref a0), some (.int x1)] [.ref a0] (by decide +kernel) rfl ?_
    refine i_gr (idx := 19) (ci := 10) (k := 1) (t := 2) (p := 12129) (pc' := 226) (by decide +kernel) h0 ?_
    refine i_gr (idx := 161) (ci := 3) (k := 4) (t := 2) (p := 11186) (pc' := 229) (by decide +kernel) (o_10_1 hN h0) ?_
    refine i_gf (idx := 173) (ci := 5) (k := 1) (t := 0) (p := 11165) (pc' := 232) (by decide +kernel) (o_3_4 hN (o_10_1 hN h0)) ?_
    exact i_ri (by decide +kernel) rfl
  refine i_sc (c := 15) (by decide +kernel) ?_ ?_
  · refine i_bl (pc' := 234) [(.aload_n 0, 1)] [some (.ref a0), some (.int x1)] [.ref a0] (by decide +kernel) rfl ?_
    refine i_gr (idx := 36) (ci := 10) (k := 5) (t := 2) (p := 12133) (pc' := 237) (by decide +kernel) h0 ?_
    refine i_gf (idx := 176) (ci := 4) (k := 2) (t := 0) (p := 12003) (pc' := 240) (by decide +kernel) (o_10_5 hN h0) ?_
    exact i_ri (by decide +kernel) rfl
  refine i_s0 ?_
  exact i_no

/-! 175 LanternChess.needSide(I)V -/
noncomputable def d_175 (x0 : Int32) : Option Unit := if x0 = 0 then (some ()) else (if x0 = 1 then (some ()) else (none))
theorem t_175 {L nx : Nat} (hN : okn nx) {b z : Nat} {m : Mm}  {x0 : Int32}  : Im (d_175 x0) (kV L nx m) (ev_dn b z 175 0 [some (.int x0)] [] (nx, mem L nx m)) := by
  unfold d_175
  refine i_bl (pc' := 1) [(.iload_n 0, 1)] [some (.int x0)] [.int x0] (by decide +kernel) rfl ?_
  refine i_if (c := .eq) (off := 19) (t := 20) (pc' := 4) (p := x0 = 0) (by decide +kernel) rfl ?_ ?_
  · exact i_rv (by decide +kernel) rfl
  · refine i_bl (pc' := 6) [(.iload_n 0, 1), (.iconst 1, 1)] [some (.int x0)] [.int 1, .int x0] (by decide +kernel) rfl ?_
    refine i_ic (c := .eq) (off := 14) (t := 20) (pc' := 9) (p := x0 = 1) (by decide +kernel) rfl ?_ ?_
    · exact i_rv (by decide +kernel) rfl
    · exact i_no

/-! 126 LanternChess.clock(I)I -/
noncomputable def d_126 (a0 : Nat) (x1 : Int32) (m : Mm) : Option Int32 := (d_175 x1).bind fun _ => (d_52 (sh_r a0 1) x1 m).bind fun v1 => some v1
theorem t_126 {L nx : Nat} (hN : okn nx) {b z : Nat} {m : Mm} {a0 : Nat} (h0 : ok nx a0 10) {x1 : Int32}  : Im (d_126 a0 x1 m) (kI L nx m) (ev_dn b z 126 0 [some (.ref a0), some (.int x1)] [] (nx, mem L nx m)) := by
  unfold d_126
  refine i_bl (pc' := 1) [(.iload_n 1, 1)] [some (.ref a0), some (.int x1)] [.int x1] (by decide +kernel) rfl ?_
  refine i_cs (t := 175) (na := 1) (ml := 1) (idx := 184) (pc' := 4) (st' := []) (en := [some (.int x1)]) (av := [.int x1]) (vo := fun _ => none) (mo := fun _ => m) (s2 := fun _ => []) (by decide +kernel) ⟨rfl, rfl, rfl, rfl, rfl, rfl⟩ (fun _ => rfl) (t_175 hN ) (fun _ => ?_)
  refine i_bl (pc' := 5) [(.aload_n 0, 1)] [some (.ref a0), some (.int x1)] [.ref a0] (by decide +kernel) rfl ?_
  refine i_gr (idx := 19) (ci := 10) (k := 1) (t := 2) (p := 12129) (pc' := 8) (by decide +kernel) h0 ?_
  refine i_bl (pc' := 9) [(.iload_n 1, 1)] [some (.ref a0), some (.int x1)] [.int x1, .ref (sh_r a0 1)] (by decide +kernel) rfl ?_
  refine i_cv (ci := 3) (t := 52) (na := 2) (ml := 2) (idx := 187) (pc' := 12) (st' := []) (en := [some (.ref (sh_r a0 1)), some (.int x1)]) (av := [.int x1]) (vo := fun v => some (.int v)) (mo := fun _ => m) (s2 := fun v => .int v :: []) (by decide +kernel) (by decide +kernel) (o_10_1 hN h0) ⟨rfl, rfl, rfl, rfl, rfl, rfl⟩ (fun _ => rfl) (t_52 hN (h0 := (o_10_1 hN h0))) (fun v1 => ?_)
  exact i_ri (by decide +kernel) rfl

/-! 178 LanternChess.needCell(II)V -/
noncomputable def d_178 (a0 : Nat) (x1 : Int32) (x2 : Int32) (m : Mm) : Option Unit := (d_15 (sh_r (sh_r (sh_r a0 1) 0) 0) x1 x2 m).bind fun v1 => if v1 = true then (some ()) else (none)
theorem t_178 {L nx : Nat} (hN : okn nx) {b z : Nat} {m : Mm} {a0 : Nat} (h0 : ok nx a0 10) {x1 : Int32} {x2 : Int32}  : Im (d_178 a0 x1 x2 m) (kV L nx m) (ev_dn b z 178 0 [some (.ref a0), some (.int x1), some (.int x2)] [] (nx, mem L nx m)) := by
  unfold d_178
  refine i_bl (pc' := 1) [(.aload_n 0, 1)] [some (.ref a0), some (.int x1), some (.int x2)] [.ref a0] (by decide +kernel) rfl ?_
  refine i_gr (idx := 19) (ci := 10) (k := 1) (t := 2) (p := 12129) (pc' := 4) (by decide +kernel) h0 ?_
  refine i_gr (idx := 112) (ci := 3) (k := 0) (t := 2) (p := 11177) (pc' := 7) (by decide +kernel) (o_10_1 hN h0) ?_
  refine i_gr (idx := 116) (ci := 0) (k := 0) (t := 2) (p := 11116) (pc' := 10) (by decide +kernel) (o_3_0 hN (o_10_1 hN h0)) ?_
  refine i_bl (pc' := 12) [(.iload_n 1, 1), (.iload_n 2, 1)] [some (.ref a0), some (.int x1), some (.int x2)] [.int x2, .int x1, .ref (sh_r (sh_r (sh_r a0 1) 0) 0)] (by decide +kernel) rfl ?_
  refine i_cv (ci := 1) (t := 15) (na := 3) (ml := 3) (idx := 411) (pc' := 15) (st' := []) (en := [some (.ref (sh_r (sh_r (sh_r a0 1) 0) 0)), some (.int x1), some (.int x2)]) (av := [.int x1, .int x2]) (vo := fun v => some (.int (bi v))) (mo := fun _ => m) (s2 := fun v => .int (bi v) :: []) (by decide +kernel) (by decide +kernel) (o_0_0 hN (o_3_0 hN (o_10_1 hN h0))) ⟨rfl, rfl, rfl, rfl, rfl, rfl⟩ (fun _ => rfl) (t_15 hN (h0 := (o_0_0 hN (o_3_0 hN (o_10_1 hN h0))))) (fun v1 => ?_)
  refine i_bn (off := 14) (t := 29) (pc' := 18) (by decide +kernel) ?_ ?_
  · exact i_rv (by decide +kernel) rfl
  · exact i_no

/-! 127 LanternChess.piece(III)I -/
noncomputable def d_127 (a0 : Nat) (x1 : Int32) (x2 : Int32) (x3 : Int32) (m : Mm) : Option Int32 := (d_175 x1).bind fun _ => (d_178 a0 x2 x3 m).bind fun _ => (d_51 (sh_r a0 1) x1).bind fun v1 => (d_12 x2 x3).bind fun v3 => (d_17 (sh_r v1 0) v3 m).bind fun v4 => some v4
theorem t_127 {L nx : Nat} (hN : okn nx) {b z : Nat} {m : Mm} {a0 : Nat} (h0 : ok nx a0 10) {x1 : Int32} {x2 : Int32} {x3 : Int32}  : Im (d_127 a0 x1 x2 x3 m) (kI L nx m) (ev_dn b z 127 0 [some (.ref a0), some (.int x1), some (.int x2), some (.int x3)] [] (nx, mem L nx m)) := by
  unfold d_127
  refine i_bl (pc' := 1) [(.iload_n 1, 1)] [some (.ref a0), some (.int x1), some (.int x2), some (.int x3)] [.int x1] (by decide +kernel) rfl ?_
  refine i_cs (t := 175) (na := 1) (ml := 1) (idx := 184) (pc' := 4) (st' := []) (en := [some (.int x1)]) (av := [.int x1]) (vo := fun _ => none) (mo := fun _ => m) (s2 := fun _ => []) (by decide +kernel) ⟨rfl, rfl, rfl, rfl, rfl, rfl⟩ (fun _ => rfl) (t_175 hN ) (fun _ => ?_)
  refine i_bl (pc' := 7) [(.aload_n 0, 1), (.iload_n 2, 1), (.iload_n 3, 1)] [some (.ref a0), some (.int x1), some (.int x2), some (.int x3)] [.int x3, .int x2, .ref a0] (by decide +kernel) rfl ?_
  refine i_cv (ci := 10) (t := 178) (na := 3) (ml := 3) (idx := 191) (pc' := 10) (st' := []) (en := [some (.ref a0), some (.int x2), some (.int x3)]) (av := [.int x2, .int x3]) (vo := fun _ => none) (mo := fun _ => m) (s2 := fun _ => []) (by decide +kernel) (by decide +kernel) h0 ⟨rfl, rfl, rfl, rfl, rfl, rfl⟩ (fun _ => rfl) (t_178 hN (h0 := h0)) (fun _ => ?_)
  refine i_bl (pc' := 11) [(.aload_n 0, 1)] [some (.ref a0), some (.int x1), some (.int x2), some (.int x3)] [.ref a0] (by decide +kernel) rfl ?_
  refine i_gr (idx := 19) (ci := 10) (k := 1) (t := 2) (p := 12129) (pc' := 14) (by decide +kernel) h0 ?_
  refine i_bl (pc' := 15) [(.iload_n 1, 1)] [some (.ref a0), some (.int x1), some (.int x2), some (.int x3)] [.int x1, .ref (sh_r a0 1)] (by decide +kernel) rfl ?_
  refine i_cA (cr := 0) (ci := 3) (t := 51) (na := 2) (ml := 2) (idx := 194) (pc' := 18) (st' := []) (en := [some (.ref (sh_r a0 1)), some (.int x1)]) (av := [.int x1]) (s2 := fun v => .ref v :: []) (by decide +kernel) (by decide +kernel) (o_10_1 hN h0) ⟨rfl, rfl, rfl, rfl, rfl, rfl⟩ (fun _ => rfl) (t_51 hN (h0 := (o_10_1 hN h0))) (fun v1 hr2 => ?_)
  refine i_gr (idx := 116) (ci := 0) (k := 0) (t := 2) (p := 11116) (pc' := 21) (by decide +kernel) hr2 ?_
  refine i_bl (pc' := 23) [(.iload_n 2, 1), (.iload_n 3, 1)] [some (.ref a0), some (.int x1), some (.int x2), some (.int x3)] [.int x3, .int x2, .ref (sh_r v1 0)] (by decide +kernel) rfl ?_
  refine i_cs (t := 12) (na := 2) (ml := 2) (idx := 73) (pc' := 26) (st' := [.ref (sh_r v1 0)]) (en := [some (.int x2), some (.int x3)]) (av := [.int x2, .int x3]) (vo := fun v => some (.int v)) (mo := fun _ => m) (s2 := fun v => .int v :: [.ref (sh_r v1 0)]) (by decide +kernel) ⟨rfl, rfl, rfl, rfl, rfl, rfl⟩ (fun _ => rfl) (t_12 hN ) (fun v3 => ?_)
  refine i_cv (ci := 1) (t := 17) (na := 2) (ml := 2) (idx := 198) (pc' := 29) (st' := []) (en := [some (.ref (sh_r v1 0)), some (.int v3)]) (av := [.int v3]) (vo := fun v => some (.int v)) (mo := fun _ => m) (s2 := fun v => .int v :: []) (by decide +kernel) (by decide +kernel) (o_0_0 hN hr2) ⟨rfl, rfl, rfl, rfl, rfl, rfl⟩ (fun _ => rfl) (t_17 hN (h0 := (o_0_0 hN hr2))) (fun v4 => ?_)
  exact i_ri (by decide +kernel) rfl

/-! 179 LanternChess.needCells(IIII)V -/
noncomputable def d_179 (a0 : Nat) (x1 : Int32) (x2 : Int32) (x3 : Int32) (x4 : Int32) (m : Mm) : Option Unit := (d_178 a0 x1 x2 m).bind fun _ => (d_178 a0 x3 x4 m).bind fun _ => some ()
theorem t_179 {L nx : Nat} (hN : okn nx) {b z : Nat} {m : Mm} {a0 : Nat} (h0 : ok nx a0 10) {x1 : Int32} {x2 : Int32} {x3 : Int32} {x4 : Int32}  : Im (d_179 a0 x1 x2 x3 x4 m) (kV L nx m) (ev_dn b z 179 0 [some (.ref a0), some (.int x1), some (.int x2), some (.int x3), some (.int x4)] [] (nx, mem L nx m)) := by
  unfold d_179
  refine i_bl (pc' := 3) [(.aload_n 0, 1), (.iload_n 1, 1), (.iload_n 2, 1)] [some (.ref a0), some (.int x1), some (.int x2), some (.int x3), some (.int x4)] [.int x2, .int x1, .ref a0] (by decide +kernel) rfl ?_
  refine i_cv (ci := 10) (t := 178) (na := 3) (ml := 3) (idx := 191) (pc' := 6) (st' := []) (en := [some (.ref a0), some (.int x1), some (.int x2)]) (av := [.int x1, .int x2]) (vo := fun _ => none) (mo := fun _ => m) (s2 := fun _ => []) (by decide +kernel) (by decide +kernel) h0 ⟨rfl, rfl, rfl, rfl, rfl, rfl⟩ (fun _ => rfl) (t_178 hN (h0 := h0)) (fun _ => ?_)
  refine i_bl (pc' := 10) [(.aload_n 0, 1), (.iload_n 3, 1), (.iload 4, 2)] [some (.ref a0), some (.int x1), some (.int x2), some (.int x3), some (.int x4)] [.int x4, .int x3, .ref a0] (by decide +kernel) rfl ?_
  refine i_cv (ci := 10) (t := 178) (na := 3) (ml := 3) (idx := 191) (pc' := 13) (st' := []) (en := [some (.ref a0), some (.int x3), some (.int x4)]) (av := [.int x3, .int x4]) (vo := fun _ => none) (mo := fun _ => m) (s2 := fun _ => []) (by decide +kernel) (by decide +kernel) h0 ⟨rfl, rfl, rfl, rfl, rfl, rfl⟩ (fun _ => rfl) (t_178 hN (h0 := h0)) (fun _ => ?_)
  exact i_rv (by decide +kernel) rfl

/-! 128 LanternChess.isMove(IIIIII)Z -/
noncomputable def d_128 (a0 : Nat) (x1 : Int32) (x2 : Int32) (x3 : Int32) (x4 : Int32) (x5 : Int32) (x6 : Int32) (m : Mm) : Option Bool := (d_175 x1).bind fun _ => (d_175 x2).bind fun _ => (d_179 a0 x3 x4 x5 x6 m).bind fun _ => (d_51 (sh_r a0 1) x1).bind fun v1 => (d_12 x3 x4).bind fun v3 => (d_12 x5 x6).bind fun v4 => (d_21 (sh_r v1 0) x2 v3 v4 m).bind fun v5 => some v5
theorem t_128 {L nx : Nat} (hN : okn nx) {b z : Nat} {m : Mm} {a0 : Nat} (h0 : ok nx a0 10) {x1 : Int32} {x2 : Int32} {x3 : Int32} {x4 : Int32} {x5 : Int32} {x6 : Int32}  : Im (d_128 a0 x1 x2 x3 x4 x5 x6 m) (kZ L nx m) (ev_dn b z 128 0 [some (.ref a0), some (.int x1), some (.int x2), some (.int x3), some (.int x4), some (.int x5), some (.int x6)] [] (nx, mem L nx m)) := by
  unfold d_128
  refine i_bl (pc' := 1) [(.iload_n 1, 1)] [some (.ref a0), some (.int x1), some (.int x2), some (.int x3), some (.int x4), some (.int x5), some (.int x6)] [.int x1] (by decide +kernel) rfl ?_
  refine i_cs (t := 175) (na := 1) (ml := 1) (idx := 184) (pc' := 4) (st' := []) (en := [some (.int x1)]) (av := [.int x1]) (vo := fun _ => none) (mo := fun _ => m) (s2 := fun _ => []) (by decide +kernel) ⟨rfl, rfl, rfl, rfl, rfl, rfl⟩ (fun _ => rfl) (t_175 hN ) (fun _ => ?_)
  refine i_bl (pc' := 5) [(.iload_n 2, 1)] [some (.ref a0), some (.int x1), some (.int x2), some (.int x3), some (.int x4), some (.int x5), some (.int x6)] [.int x2] (by decide +kernel) rfl ?_
  refine i_cs (t := 175) (na := 1) (ml := 1) (idx := 184) (pc' := 8) (st' := []) (en := [some (.int x2)]) (av := [.int x2]) (vo := fun _ => none) (mo := fun _ => m) (s2 := fun _ => []) (by decide +kernel) ⟨rfl, rfl, rfl, rfl, rfl, rfl⟩ (fun _ => rfl) (t_175 hN ) (fun _ => ?_)
  refine i_bl (pc' := 16) [(.aload_n 0, 1), (.iload_n 3, 1), (.iload 4, 2), (.iload 5, 2), (.iload 6, 2)] [some (.ref a0), some (.int x1), some (.int x2), some (.int x3), some (.int x4), some (.int x5), some (.int x6)] [.int x6, .int x5, .int x4, .int x3, .ref a0] (by decide +kernel) rfl ?_
  refine i_cv (ci := 10) (t := 179) (na := 5) (ml := 5) (idx := 201) (pc' := 19) (st' := []) (en := [some (.ref a0), some (.int x3), some (.int x4), some (.int x5), some (.int x6)]) (av := [.int x3, .int x4, .int x5, .int x6]) (vo := fun _ => none) (mo := fun _ => m) (s2 := fun _ => []) (by decide +kernel) (by decide +kernel) h0 ⟨rfl, rfl, rfl, rfl, rfl, rfl⟩ (fun _ => rfl) (t_179 hN (h0 := h0)) (fun _ => ?_)
  refine i_bl (pc' := 20) [(.aload_n 0, 1)] [some (.ref a0), some (.int x1), some (.int x2), some (.int x3), some (.int x4), some (.int x5), some (.int x6)] [.ref a0] (by decide +kernel) rfl ?_
  refine i_gr (idx := 19) (ci := 10) (k := 1) (t := 2) (p := 12129) (pc' := 23) (by decide +kernel) h0 ?_
  refine i_bl (pc' := 24) [(.iload_n 1, 1)] [some (.ref a0), some (.int x1), some (.int x2), some (.int x3), some (.int x4), some (.int x5), some (.int x6)] [.int x1, .ref (sh_r a0 1)] (by decide +kernel) rfl ?_
  refine i_cA (cr := 0) (ci := 3) (t := 51) (na := 2) (ml := 2) (idx := 194) (pc' := 27) (st' := []) (en := [some (.ref (sh_r a0 1)), some (.int x1)]) (av := [.int x1]) (s2 := fun v => .ref v :: []) (by decide +kernel) (by decide +kernel) (o_10_1 hN h0) ⟨rfl, rfl, rfl, rfl, rfl, rfl⟩ (fun _ => rfl) (t_51 hN (h0 := (o_10_1 hN h0))) (fun v1 hr2 => ?_)
  refine i_gr (idx := 116) (ci := 0) (k := 0) (t := 2) (p := 11116) (pc' := 30) (by decide +kernel) hr2 ?_
  refine i_bl (pc' := 34) [(.iload_n 2, 1), (.iload_n 3, 1), (.iload 4, 2)] [some (.ref a0), some (.int x1), some (.int x2), some (.int x3), some (.int x4), some (.int x5), some (.int x6)] [.int x4, .int x3, .int x2, .ref (sh_r v1 0)] (by decide +kernel) rfl ?_
  refine i_cs (t := 12) (na := 2) (ml := 2) (idx := 73) (pc' := 37) (st' := [.int x2, .ref (sh_r v1 0)]) (en := [some (.int x3), some (.int x4)]) (av := [.int x3, .int x4]) (vo := fun v => some (.int v)) (mo := fun _ => m) (s2 := fun v => .int v :: [.int x2, .ref (sh_r v1 0)]) (by decide +kernel) ⟨rfl, rfl, rfl, rfl, rfl, rfl⟩ (fun _ => rfl) (t_12 hN ) (fun v3 => ?_)
  refine i_bl (pc' := 41) [(.iload 5, 2), (.iload 6, 2)] [some (.ref a0), some (.int x1), some (.int x2), some (.int x3), some (.int x4), some (.int x5), some (.int x6)] [.int x6, .int x5, .int v3, .int x2, .ref (sh_r v1 0)] (by decide +kernel) rfl ?_
  refine i_cs (t := 12) (na := 2) (ml := 2) (idx := 73) (pc' := 44) (st' := [.int v3, .int x2, .ref (sh_r v1 0)]) (en := [some (.int x5), some (.int x6)]) (av := [.int x5, .int x6]) (vo := fun v => some (.int v)) (mo := fun _ => m) (s2 := fun v => .int v :: [.int v3, .int x2, .ref (sh_r v1 0)]) (by decide +kernel) ⟨rfl, rfl, rfl, rfl, rfl, rfl⟩ (fun _ => rfl) (t_12 hN ) (fun v4 => ?_)
  refine i_cv (ci := 1) (t := 21) (na := 4) (ml := 6) (idx := 205) (pc' := 47) (st' := []) (en := [some (.ref (sh_r v1 0)), some (.int x2), some (.int v3), some (.int v4), none, none]) (av := [.int x2, .int v3, .int v4]) (vo := fun v => some (.int (bi v))) (mo := fun _ => m) (s2 := fun v => .int (bi v) :: []) (by decide +kernel) (by decide +kernel) (o_0_0 hN hr2) ⟨rfl, rfl, rfl, rfl, rfl, rfl⟩ (fun _ => rfl) (t_21 hN (h0 := (o_0_0 hN hr2))) (fun v5 => ?_)
  exact i_rz (B := v5) (by decide +kernel) rfl

/-! 129 LanternChess.moves(II)I -/
noncomputable def d_129 (a0 : Nat) (x1 : Int32) (x2 : Int32) (m : Mm) : Option (Int32 × Mm) := (d_175 x1).bind fun _ => (d_175 x2).bind fun _ => (d_51 (sh_r a0 1) x1).bind fun v1 => (d_75 (sh_r a0 7) (sh_r v1 0) x2 m).bind fun m3 => some (m3 (sh_r a0 7) 4, m3)
theorem t_129 {L nx : Nat} (hN : okn nx) {b z : Nat} {m : Mm} {a0 : Nat} (h0 : ok nx a0 10) {x1 : Int32} {x2 : Int32}  : Im (d_129 a0 x1 x2 m) (wI L nx) (ev_dn b z 129 0 [some (.ref a0), some (.int x1), some (.int x2)] [] (nx, mem L nx m)) := by
  unfold d_129
  refine i_bl (pc' := 1) [(.iload_n 1, 1)] [some (.ref a0), some (.int x1), some (.int x2)] [.int x1] (by decide +kernel) rfl ?_
  refine i_cs (t := 175) (na := 1) (ml := 1) (idx := 184) (pc' := 4) (st' := []) (en := [some (.int x1)]) (av := [.int x1]) (vo := fun _ => none) (mo := fun _ => m) (s2 := fun _ => []) (by decide +kernel) ⟨rfl, rfl, rfl, rfl, rfl, rfl⟩ (fun _ => rfl) (t_175 hN ) (fun _ => ?_)
  refine i_bl (pc' := 5) [(.iload_n 2, 1)] [some (.ref a0), some (.int x1), some (.int x2)] [.int x2] (by decide +kernel) rfl ?_
  refine i_cs (t := 175) (na := 1) (ml := 1) (idx := 184) (pc' := 8) (st' := []) (en := [some (.int x2)]) (av := [.int x2]) (vo := fun _ => none) (mo := fun _ => m) (s2 := fun _ => []) (by decide +kernel) ⟨rfl, rfl, rfl, rfl, rfl, rfl⟩ (fun _ => rfl) (t_175 hN ) (fun _ => ?_)
  refine i_bl (pc' := 9) [(.aload_n 0, 1)] [some (.ref a0), some (.int x1), some (.int x2)] [.ref a0] (by decide +kernel) rfl ?_
  refine i_gr (idx := 50) (ci := 10) (k := 7) (t := 2) (p := 12135) (pc' := 12) (by decide +kernel) h0 ?_
  refine i_bl (pc' := 13) [(.aload_n 0, 1)] [some (.ref a0), some (.int x1), some (.int x2)] [.ref a0, .ref (sh_r a0 7)] (by decide +kernel) rfl ?_
  refine i_gr (idx := 19) (ci := 10) (k := 1) (t := 2) (p := 12129) (pc' := 16) (by decide +kernel) h0 ?_
  refine i_bl (pc' := 17) [(.iload_n 1, 1)] [some (.ref a0), some (.int x1), some (.int x2)] [.int x1, .ref (sh_r a0 1), .ref (sh_r a0 7)] (by decide +kernel) rfl ?_
  refine i_cA (cr := 0) (ci := 3) (t := 51) (na := 2) (ml := 2) (idx := 194) (pc' := 20) (st' := [.ref (sh_r a0 7)]) (en := [some (.ref (sh_r a0 1)), some (.int x1)]) (av := [.int x1]) (s2 := fun v => .ref v :: [.ref (sh_r a0 7)]) (by decide +kernel) (by decide +kernel) (o_10_1 hN h0) ⟨rfl, rfl, rfl, rfl, rfl, rfl⟩ (fun _ => rfl) (t_51 hN (h0 := (o_10_1 hN h0))) (fun v1 hr2 => ?_)
  refine i_gr (idx := 116) (ci := 0) (k := 0) (t := 2) (p := 11116) (pc' := 23) (by decide +kernel) hr2 ?_
  refine i_bl (pc' := 24) [(.iload_n 2, 1)] [some (.ref a0), some (.int x1), some (.int x2)] [.int x2, .ref (sh_r v1 0), .ref (sh_r a0 7)] (by decide +kernel) rfl ?_
  refine i_cv (ci := 6) (t := 75) (na := 3) (ml := 4) (idx := 209) (pc' := 27) (st' := []) (en := [some (.ref (sh_r a0 7)), some (.ref (sh_r v1 0)), some (.int x2), none]) (av := [.ref (sh_r v1 0), .int x2]) (vo := fun _ => none) (mo := fun m => m) (s2 := fun _ => []) (by decide +kernel) (by decide +kernel) (o_10_7 hN h0) ⟨rfl, rfl, rfl, rfl, rfl, rfl⟩ (fun _ => rfl) (t_75 hN (h0 := (o_10_7 hN h0)) (h1 := (o_0_0 hN hr2))) (fun m3 => ?_)
  refine i_bl (pc' := 28) [(.aload_n 0, 1)] [some (.ref a0), some (.int x1), some (.int x2)] [.ref a0] (by decide +kernel) rfl ?_
  refine i_gr (idx := 50) (ci := 10) (k := 7) (t := 2) (p := 12135) (pc' := 31) (by decide +kernel) h0 ?_
  refine i_gf (idx := 213) (ci := 6) (k := 4) (t := 0) (p := 12065) (pc' := 34) (by decide +kernel) (o_10_7 hN h0) ?_
  exact i_ri (by decide +kernel) rfl

/-! 176 LanternChess.needIndex(II)V -/
noncomputable def d_176_9  : Option Unit := none
theorem t_176_9 {L nx : Nat} (hN : okn nx) {b z : Nat} {m : Mm}   {o0 : Option Value} {o1 : Option Value} : Im (d_176_9 ) (kV L nx m) (ev_dn b z 176 9 [o0, o1] [] (nx, mem L nx m)) := by
  unfold d_176_9
  exact i_no

noncomputable def d_176 (x0 : Int32) (x1 : Int32) : Option Unit := if x0 < 0 then (d_176_9 ) else (if x0 < x1 then (some ()) else (d_176_9 ))
theorem t_176 {L nx : Nat} (hN : okn nx) {b z : Nat} {m : Mm}  {x0 : Int32} {x1 : Int32}  : Im (d_176 x0 x1) (kV L nx m) (ev_dn b z 176 0 [some (.int x0), some (.int x1)] [] (nx, mem L nx m)) := by
  unfold d_176
  refine i_bl (pc' := 1) [(.iload_n 0, 1)] [some (.int x0), some (.int x1)] [.int x0] (by decide +kernel) rfl ?_
  refine i_if (c := .lt) (off := 8) (t := 9) (pc' := 4) (p := x0 < 0) (by decide +kernel) rfl ?_ ?_
  · exact t_176_9 hN 
  · refine i_bl (pc' := 6) [(.iload_n 0, 1), (.iload_n 1, 1)] [some (.int x0), some (.int x1)] [.int x1, .int x0] (by decide +kernel) rfl ?_
    refine i_ic (c := .lt) (off := 14) (t := 20) (pc' := 9) (p := x0 < x1) (by decide +kernel) rfl ?_ ?_
    · exact i_rv (by decide +kernel) rfl
    · exact t_176_9 hN 

/-! 177 LanternChess.needRange(III)V -/
noncomputable def d_177_10  : Option Unit := none
theorem t_177_10 {L nx : Nat} (hN : okn nx) {b z : Nat} {m : Mm}   {o0 : Option Value} {o1 : Option Value} {o2 : Option Value} : Im (d_177_10 ) (kV L nx m) (ev_dn b z 177 10 [o0, o1, o2] [] (nx, mem L nx m)) := by
  unfold d_177_10
  exact i_no

noncomputable def d_177 (x0 : Int32) (x1 : Int32) (x2 : Int32) : Option Unit := if x0 < x1 then (d_177_10 ) else (if x0 ≤ x2 then (some ()) else (d_177_10 ))
theorem t_177 {L nx : Nat} (hN : okn nx) {b z : Nat} {m : Mm}  {x0 : Int32} {x1 : Int32} {x2 : Int32}  : Im (d_177 x0 x1 x2) (kV L nx m) (ev_dn b z 177 0 [some (.int x0), some (.int x1), some (.int x2)] [] (nx, mem L nx m)) := by
  unfold d_177
  refine i_bl (pc' := 2) [(.iload_n 0, 1), (.iload_n 1, 1)] [some (.int x0), some (.int x1), some (.int x2)] [.int x1, .int x0] (by decide +kernel) rfl ?_
  refine i_ic (c := .lt) (off := 8) (t := 10) (pc' := 5) (p := x0 < x1) (by decide +kernel) rfl ?_ ?_
  · exact t_177_10 hN 
  · refine i_bl (pc' := 7) [(.iload_n 0, 1), (.iload_n 2, 1)] [some (.int x0), some (.int x1), some (.int x2)] [.int x2, .int x0] (by decide +kernel) rfl ?_
    refine i_ic (c := .le) (off := 14) (t := 21) (pc' := 10) (p := x0 ≤ x2) (by decide +kernel) rfl ?_ ?_
    · exact i_rv (by decide +kernel) rfl
    · exact t_177_10 hN 

/-! 132 LanternChess.moveInfo(LLanternChess$Field;III)I -/
noncomputable def d_132 (a0 : Nat) (a1 : Nat) (x2 : Int32) (x3 : Int32) (x4 : Int32) (m : Mm) : Option (Int32 × Mm) := (d_77 (sh_r a0 7) x3 m).bind fun v1 => (d_78 (sh_r a0 7) x3 m).bind fun v2 => (if x4 = 0 then ((d_16 a1 v1 m).bind fun v3 => some (v3, m)) else if x4 = 1 then ((d_16 a1 v2 m).bind fun v4 => some (v4, m)) else if x4 = 2 then ((d_27 a1 v1 v2 m).bind fun v5 => some (v5, m)) else ((d_79 (sh_r a0 7) a1 x2 v1 v2 m).bind fun r6 => some (r6.1, r6.2)))
theorem t_132 {L nx : Nat} (hN : okn nx) {b z : Nat} {m : Mm} {a0 : Nat} (h0 : ok nx a0 10) {a1 : Nat} (h1 : ok nx a1 1) {x2 : Int32} {x3 : Int32} {x4 : Int32}  : Im (d_132 a0 a1 x2 x3 x4 m) (wI L nx) (ev_dn b z 132 0 [some (.ref a0), some (.ref a1), some (.int x2), some (.int x3), some (.int x4), none, none] [] (nx, mem L nx m)) := by
  unfold d_132
  refine i_bl (pc' := 1) [(.aload_n 0, 1)] [some (.ref a0), some (.ref a1), some (.int x2), some (.int x3), some (.int x4), none, none] [.ref a0] (by decide +kernel) rfl ?_
  refine i_gr (idx := 50) (ci := 10) (k := 7) (t := 2) (p := 12135) (pc' := 4) (by decide +kernel) h0 ?_
  refine i_bl (pc' := 5) [(.iload_n 3, 1)] [some (.ref a0), some (.ref a1), some (.int x2), some (.int x3), some (.int x4), none, none] [.int x3, .ref (sh_r a0 7)] (by decide +kernel) rfl ?_
  refine i_cv (ci := 6) (t := 77) (na := 2) (ml := 2) (idx := 231) (pc' := 8) (st' := []) (en := [some (.ref (sh_r a0 7)), some (.int x3)]) (av := [.int x3]) (vo := fun v => some (.int v)) (mo := fun _ => m) (s2 := fun v => .int v :: []) (by decide +kernel) (by decide +kernel) (o_10_7 hN h0) ⟨rfl, rfl, rfl, rfl, rfl, rfl⟩ (fun _ => rfl) (t_77 hN (h0 := (o_10_7 hN h0))) (fun v1 => ?_)
  refine i_bl (pc' := 11) [(.istore 5, 2), (.aload_n 0, 1)] [some (.ref a0), some (.ref a1), some (.int x2), some (.int x3), some (.int x4), some (.int v1), none] [.ref a0] (by decide +kernel) rfl ?_
  refine i_gr (idx := 50) (ci := 10) (k := 7) (t := 2) (p := 12135) (pc' := 14) (by decide +kernel) h0 ?_
  refine i_bl (pc' := 15) [(.iload_n 3, 1)] [some (.ref a0), some (.ref a1), some (.int x2), some (.int x3), some (.int x4), some (.int v1), none] [.int x3, .ref (sh_r a0 7)] (by decide +kernel) rfl ?_
  refine i_cv (ci := 6) (t := 78) (na := 2) (ml := 2) (idx := 234) (pc' := 18) (st' := []) (en := [some (.ref (sh_r a0 7)), some (.int x3)]) (av := [.int x3]) (vo := fun v => some (.int v)) (mo := fun _ => m) (s2 := fun v => .int v :: []) (by decide +kernel) (by decide +kernel) (o_10_7 hN h0) ⟨rfl, rfl, rfl, rfl, rfl, rfl⟩ (fun _ => rfl) (t_78 hN (h0 := (o_10_7 hN h0))) (fun v2 => ?_)
  refine i_bl (pc' := 22) [(.istore 6, 2), (.iload 4, 2)] [some (.ref a0), some (.ref a1), some (.int x2), some (.int x3), some (.int x4), some (.int v1), some (.int v2)] [.int x4] (by decide +kernel) rfl ?_
  refine i_sw (n := 26) (dd := (49)) (lo0 := (0)) (hi0 := (2)) (offs := #[(26), (33), (40)]) (d := 71) (ts := [48, 55, 62]) (cs := [(0, 48), (1, 55), (2, 62)]) (by decide +kernel) ?_
  refine i_sc (c := 0) (by decide +kernel) ?_ ?_
  · refine i_bl (pc' := 51) [(.aload_n 1, 1), (.iload 5, 2)] [some (.ref a0), some (.ref a1), some (.int x2), some (.int x3), some (.int x4), some (.int v1), some (.int v2)] [.int v1, .ref a1] (by decide +kernel) rfl ?_
    refine i_cv (ci := 1) (t := 16) (na := 2) (ml := 2) (idx := 237) (pc' := 54) (st' := []) (en := [some (.ref a1), some (.int v1)]) (av := [.int v1]) (vo := fun v => some (.int v)) (mo := fun _ => m) (s2 := fun v => .int v :: []) (by decide +kernel) (by decide +kernel) h1 ⟨rfl, rfl, rfl, rfl, rfl, rfl⟩ (fun _ => rfl) (t_16 hN (h0 := h1)) (fun v3 => ?_)
    exact i_ri (by decide +kernel) rfl
  refine i_sc (c := 1) (by decide +kernel) ?_ ?_
  · refine i_bl (pc' := 58) [(.aload_n 1, 1), (.iload 6, 2)] [some (.ref a0), some (.ref a1), some (.int x2), some (.int x3), some (.int x4), some (.int v1), some (.int v2)] [.int v2, .ref a1] (by decide +kernel) rfl ?_
    refine i_cv (ci := 1) (t := 16) (na := 2) (ml := 2) (idx := 237) (pc' := 61) (st' := []) (en := [some (.ref a1), some (.int v2)]) (av := [.int v2]) (vo := fun v => some (.int v)) (mo := fun _ => m) (s2 := fun v => .int v :: []) (by decide +kernel) (by decide +kernel) h1 ⟨rfl, rfl, rfl, rfl, rfl, rfl⟩ (fun _ => rfl) (t_16 hN (h0 := h1)) (fun v4 => ?_)
    exact i_ri (by decide +kernel) rfl
  refine i_sc (c := 2) (by decide +kernel) ?_ ?_
  · refine i_bl (pc' := 67) [(.aload_n 1, 1), (.iload 5, 2), (.iload 6, 2)] [some (.ref a0), some (.ref a1), some (.int x2), some (.int x3), some (.int x4), some (.int v1), some (.int v2)] [.int v2, .int v1, .ref a1] (by decide +kernel) rfl ?_
    refine i_cv (ci := 1) (t := 27) (na := 3) (ml := 3) (idx := 240) (pc' := 70) (st' := []) (en := [some (.ref a1), some (.int v1), some (.int v2)]) (av := [.int v1, .int v2]) (vo := fun v => some (.int v)) (mo := fun _ => m) (s2 := fun v => .int v :: []) (by decide +kernel) (by decide +kernel) h1 ⟨rfl, rfl, rfl, rfl, rfl, rfl⟩ (fun _ => rfl) (t_27 hN (h0 := h1)) (fun v5 => ?_)
    exact i_ri (by decide +kernel) rfl
  refine i_s0 ?_
  refine i_bl (pc' := 72) [(.aload_n 0, 1)] [some (.ref a0), some (.ref a1), some (.int x2), some (.int x3), some (.int x4), some (.int v1), some (.int v2)] [.ref a0] (by decide +kernel) rfl ?_
  refine i_gr (idx := 50) (ci := 10) (k := 7) (t := 2) (p := 12135) (pc' := 75) (by decide +kernel) h0 ?_
  refine i_bl (pc' := 81) [(.aload_n 1, 1), (.iload_n 2, 1), (.iload 5, 2), (.iload 6, 2)] [some (.ref a0), some (.ref a1), some (.int x2), some (.int x3), some (.int x4), some (.int v1), some (.int v2)] [.int v2, .int v1, .int x2, .ref a1, .ref (sh_r a0 7)] (by decide +kernel) rfl ?_
  refine i_cv (ci := 6) (t := 79) (na := 5) (ml := 6) (idx := 243) (pc' := 84) (st' := []) (en := [some (.ref (sh_r a0 7)), some (.ref a1), some (.int x2), some (.int v1), some (.int v2), none]) (av := [.ref a1, .int x2, .int v1, .int v2]) (vo := fun v => some (.int v.1)) (mo := fun v => v.2) (s2 := fun v => .int v.1 :: []) (by decide +kernel) (by decide +kernel) (o_10_7 hN h0) ⟨rfl, rfl, rfl, rfl, rfl, rfl⟩ (fun _ => rfl) (t_79 hN (h0 := (o_10_7 hN h0)) (h1 := h1)) (fun r6 => ?_)
  exact i_ri (by decide +kernel) rfl

/-! 130 LanternChess.move(IIII)I -/
noncomputable def d_130 (a0 : Nat) (x1 : Int32) (x2 : Int32) (x3 : Int32) (x4 : Int32) (m : Mm) : Option (Int32 × Mm) := (d_175 x1).bind fun _ => (d_175 x2).bind fun _ => (d_51 (sh_r a0 1) x1).bind fun v1 => (d_75 (sh_r a0 7) (sh_r v1 0) x2 m).bind fun m3 => (d_176 x3 (m3 (sh_r a0 7) 4)).bind fun _ => (d_177 x4 0 3).bind fun _ => (d_132 a0 (sh_r v1 0) x2 x3 x4 m3).bind fun r4 => some (r4.1, r4.2)
theorem t_130 {L nx : Nat} (hN : okn nx) {b z : Nat} {m : Mm} {a0 : Nat} (h0 : ok nx a0 10) {x1 : Int32} {x2 : Int32} {x3 : Int32} {x4 : Int32}  : Im (d_130 a0 x1 x2 x3 x4 m) (wI L nx) (ev_dn b z 130 0 [some (.ref a0), some (.int x1), some (.int x2), some (.int x3), some (.int x4), none] [] (nx, mem L nx m)) := by
  unfold d_130
  refine i_bl (pc' := 1) [(.iload_n 1, 1)] [some (.ref a0), some (.int x1), some (.int x2), some (.int x3), some (.int x4), none] [.int x1] (by decide +kernel) rfl ?_
  refine i_cs (t := 175) (na := 1) (ml := 1) (idx := 184) (pc' := 4) (st' := []) (en := [some (.int x1)]) (av := [.int x1]) (vo := fun _ => none) (mo := fun _ => m) (s2 := fun _ => []) (by decide +kernel) ⟨rfl, rfl, rfl, rfl, rfl, rfl⟩ (fun _ => rfl) (t_175 hN ) (fun _ => ?_)
  refine i_bl (pc' := 5) [(.iload_n 2, 1)] [some (.ref a0), some (.int x1), some (.int x2), some (.int x3), some (.int x4), none] [.int x2] (by decide +kernel) rfl ?_
  refine i_cs (t := 175) (na := 1) (ml := 1) (idx := 184) (pc' := 8) (st' := []) (en := [some (.int x2)]) (av := [.int x2]) (vo := fun _ => none) (mo := fun _ => m) (s2 := fun _ => []) (by decide +kernel) ⟨rfl, rfl, rfl, rfl, rfl, rfl⟩ (fun _ => rfl) (t_175 hN ) (fun _ => ?_)
  refine i_bl (pc' := 9) [(.aload_n 0, 1)] [some (.ref a0), some (.int x1), some (.int x2), some (.int x3), some (.int x4), none] [.ref a0] (by decide +kernel) rfl ?_
  refine i_gr (idx := 19) (ci := 10) (k := 1) (t := 2) (p := 12129) (pc' := 12) (by decide +kernel) h0 ?_
  refine i_bl (pc' := 13) [(.iload_n 1, 1)] [some (.ref a0), some (.int x1), some (.int x2), some (.int x3), some (.int x4), none] [.int x1, .ref (sh_r a0 1)] (by decide +kernel) rfl ?_
  refine i_cA (cr := 0) (ci := 3) (t := 51) (na := 2) (ml := 2) (idx := 194) (pc' := 16) (st' := []) (en := [some (.ref (sh_r a0 1)), some (.int x1)]) (av := [.int x1]) (s2 := fun v => .ref v :: []) (by decide +kernel) (by decide +kernel) (o_10_1 hN h0) ⟨rfl, rfl, rfl, rfl, rfl, rfl⟩ (fun _ => rfl) (t_51 hN (h0 := (o_10_1 hN h0))) (fun v1 hr2 => ?_)
  refine i_gr (idx := 116) (ci := 0) (k := 0) (t := 2) (p := 11116) (pc' := 19) (by decide +kernel) hr2 ?_
  refine i_bl (pc' := 22) [(.astore 5, 2), (.aload_n 0, 1)] [some (.ref a0), some (.int x1), some (.int x2), some (.int x3), some (.int x4), some (.ref (sh_r v1 0))] [.ref a0] (by decide +kernel) rfl ?_
  refine i_gr (idx := 50) (ci := 10) (k := 7) (t := 2) (p := 12135) (pc' := 25) (by decide +kernel) h0 ?_
  refine i_bl (pc' := 28) [(.aload 5, 2), (.iload_n 2, 1)] [some (.ref a0), some (.int x1), some (.int x2), some (.int x3), some (.int x4), some (.ref (sh_r v1 0))] [.int x2, .ref (sh_r v1 0), .ref (sh_r a0 7)] (by decide +kernel) rfl ?_
  refine i_cv (ci := 6) (t := 75) (na := 3) (ml := 4) (idx := 209) (pc' := 31) (st' := []) (en := [some (.ref (sh_r a0 7)), some (.ref (sh_r v1 0)), some (.int x2), none]) (av := [.ref (sh_r v1 0), .int x2]) (vo := fun _ => none) (mo := fun m => m) (s2 := fun _ => []) (by decide +kernel) (by decide +kernel) (o_10_7 hN h0) ⟨rfl, rfl, rfl, rfl, rfl, rfl⟩ (fun _ => rfl) (t_75 hN (h0 := (o_10_7 hN h0)) (h1 := (o_0_0 hN hr2))) (fun m3 => ?_)
  refine i_bl (pc' := 33) [(.iload_n 3, 1), (.aload_n 0, 1)] [some (.ref a0), some (.int x1), some (.int x2), some (.int x3), some (.int x4), some (.ref (sh_r v1 0))] [.ref a0, .int x3] (by decide +kernel) rfl ?_
  refine i_gr (idx := 50) (ci := 10) (k := 7) (t := 2) (p := 12135) (pc' := 36) (by decide +kernel) h0 ?_
  refine i_gf (idx := 213) (ci := 6) (k := 4) (t := 0) (p := 12065) (pc' := 39) (by decide +kernel) (o_10_7 hN h0) ?_
  refine i_cs (t := 176) (na := 2) (ml := 2) (idx := 214) (pc' := 42) (st' := []) (en := [some (.int x3), some (.int (m3 (sh_r a0 7) 4))]) (av := [.int x3, .int (m3 (sh_r a0 7) 4)]) (vo := fun _ => none) (mo := fun _ => m3) (s2 := fun _ => []) (by decide +kernel) ⟨rfl, rfl, rfl, rfl, rfl, rfl⟩ (fun _ => rfl) (t_176 hN ) (fun _ => ?_)
  refine i_bl (pc' := 46) [(.iload 4, 2), (.iconst 0, 1), (.iconst 3, 1)] [some (.ref a0), some (.int x1), some (.int x2), some (.int x3), some (.int x4), some (.ref (sh_r v1 0))] [.int 3, .int 0, .int x4] (by decide +kernel) rfl ?_
  refine i_cs (t := 177) (na := 3) (ml := 3) (idx := 217) (pc' := 49) (st' := []) (en := [some (.int x4), some (.int 0), some (.int 3)]) (av := [.int x4, .int 0, .int 3]) (vo := fun _ => none) (mo := fun _ => m3) (s2 := fun _ => []) (by decide +kernel) ⟨rfl, rfl, rfl, rfl, rfl, rfl⟩ (fun _ => rfl) (t_177 hN ) (fun _ => ?_)
  refine i_bl (pc' := 56) [(.aload_n 0, 1), (.aload 5, 2), (.iload_n 2, 1), (.iload_n 3, 1), (.iload 4, 2)] [some (.ref a0), some (.int x1), some (.int x2), some (.int x3), some (.int x4), some (.ref (sh_r v1 0))] [.int x4, .int x3, .int x2, .ref (sh_r v1 0), .ref a0] (by decide +kernel) rfl ?_
  refine i_cv (ci := 10) (t := 132) (na := 5) (ml := 7) (idx := 221) (pc' := 59) (st' := []) (en := [some (.ref a0), some (.ref (sh_r v1 0)), some (.int x2), some (.int x3), some (.int x4), none, none]) (av := [.ref (sh_r v1 0), .int x2, .int x3, .int x4]) (vo := fun v => some (.int v.1)) (mo := fun v => v.2) (s2 := fun v => .int v.1 :: []) (by decide +kernel) (by decide +kernel) h0 ⟨rfl, rfl, rfl, rfl, rfl, rfl⟩ (fun _ => rfl) (t_132 hN (h0 := h0) (h1 := (o_0_0 hN hr2))) (fun r4 => ?_)
  exact i_ri (by decide +kernel) rfl

/-! 131 LanternChess.ranked(II)I -/
noncomputable def d_131 (a0 : Nat) (x1 : Int32) (x2 : Int32) (m : Mm) : Option (Int32 × Mm) := (d_51 (sh_r a0 1) (m (sh_r a0 1) 6)).bind fun v1 => (d_75 (sh_r a0 7) (sh_r v1 0) (m (sh_r a0 1) 6) m).bind fun m3 => (d_176 x1 (m3 (sh_r a0 7) 4)).bind fun _ => (d_177 x2 0 3).bind fun _ => (d_80 (sh_r a0 7) (sh_r v1 0) (m3 (sh_r a0 1) 6) m3).bind fun m4 => (d_81 (sh_r a0 7) x1 m4).bind fun v5 => (d_132 a0 (sh_r v1 0) (m4 (sh_r a0 1) 6) v5 x2 m4).bind fun r6 => some (r6.1, r6.2)
theorem t_131 {L nx : Nat} (hN : okn nx) {b z : Nat} {m : Mm} {a0 : Nat} (h0 : ok nx a0 10) {x1 : Int32} {x2 : Int32}  : Im (d_131 a0 x1 x2 m) (wI L nx) (ev_dn b z 131 0 [some (.ref a0), some (.int x1), some (.int x2), none] [] (nx, mem L nx m)) := by
  unfold d_131
  refine i_bl (pc' := 1) [(.aload_n 0, 1)] [some (.ref a0), some (.int x1), some (.int x2), none] [.ref a0] (by decide +kernel) rfl ?_
  refine i_gr (idx := 19) (ci := 10) (k := 1) (t := 2) (p := 12129) (pc' := 4) (by decide +kernel) h0 ?_
  refine i_bl (pc' := 5) [(.aload_n 0, 1)] [some (.ref a0), some (.int x1), some (.int x2), none] [.ref a0, .ref (sh_r a0 1)] (by decide +kernel) rfl ?_
  refine i_gr (idx := 19) (ci := 10) (k := 1) (t := 2) (p := 12129) (pc' := 8) (by decide +kernel) h0 ?_
  refine i_gf (idx := 131) (ci := 3) (k := 6) (t := 0) (p := 11190) (pc' := 11) (by decide +kernel) (o_10_1 hN h0) ?_
  refine i_cA (cr := 0) (ci := 3) (t := 51) (na := 2) (ml := 2) (idx := 194) (pc' := 14) (st' := []) (en := [some (.ref (sh_r a0 1)), some (.int (m (sh_r a0 1) 6))]) (av := [.int (m (sh_r a0 1) 6)]) (s2 := fun v => .ref v :: []) (by decide +kernel) (by decide +kernel) (o_10_1 hN h0) ⟨rfl, rfl, rfl, rfl, rfl, rfl⟩ (fun _ => rfl) (t_51 hN (h0 := (o_10_1 hN h0))) (fun v1 hr2 => ?_)
  refine i_gr (idx := 116) (ci := 0) (k := 0) (t := 2) (p := 11116) (pc' := 17) (by decide +kernel) hr2 ?_
  refine i_bl (pc' := 19) [(.astore_n 3, 1), (.aload_n 0, 1)] [some (.ref a0), some (.int x1), some (.int x2), some (.ref (sh_r v1 0))] [.ref a0] (by decide +kernel) rfl ?_
  refine i_gr (idx := 50) (ci := 10) (k := 7) (t := 2) (p := 12135) (pc' := 22) (by decide +kernel) h0 ?_
  refine i_bl (pc' := 24) [(.aload_n 3, 1), (.aload_n 0, 1)] [some (.ref a0), some (.int x1), some (.int x2), some (.ref (sh_r v1 0))] [.ref a0, .ref (sh_r v1 0), .ref (sh_r a0 7)] (by decide +kernel) rfl ?_
  refine i_gr (idx := 19) (ci := 10) (k := 1) (t := 2) (p := 12129) (pc' := 27) (by decide +kernel) h0 ?_
  refine i_gf (idx := 131) (ci := 3) (k := 6) (t := 0) (p := 11190) (pc' := 30) (by decide +kernel) (o_10_1 hN h0) ?_
  refine i_cv (ci := 6) (t := 75) (na := 3) (ml := 4) (idx := 209) (pc' := 33) (st' := []) (en := [some (.ref (sh_r a0 7)), some (.ref (sh_r v1 0)), some (.int (m (sh_r a0 1) 6)), none]) (av := [.ref (sh_r v1 0), .int (m (sh_r a0 1) 6)]) (vo := fun _ => none) (mo := fun m => m) (s2 := fun _ => []) (by decide +kernel) (by decide +kernel) (o_10_7 hN h0) ⟨rfl, rfl, rfl, rfl, rfl, rfl⟩ (fun _ => rfl) (t_75 hN (h0 := (o_10_7 hN h0)) (h1 := (o_0_0 hN hr2))) (fun m3 => ?_)
  refine i_bl (pc' := 35) [(.iload_n 1, 1), (.aload_n 0, 1)] [some (.ref a0), some (.int x1), some (.int x2), some (.ref (sh_r v1 0))] [.ref a0, .int x1] (by decide +kernel) rfl ?_
  refine i_gr (idx := 50) (ci := 10) (k := 7) (t := 2) (p := 12135) (pc' := 38) (by decide +kernel) h0 ?_
  refine i_gf (idx := 213) (ci := 6) (k := 4) (t := 0) (p := 12065) (pc' := 41) (by decide +kernel) (o_10_7 hN h0) ?_
  refine i_cs (t := 176) (na := 2) (ml := 2) (idx := 214) (pc' := 44) (st' := []) (en := [some (.int x1), some (.int (m3 (sh_r a0 7) 4))]) (av := [.int x1, .int (m3 (sh_r a0 7) 4)]) (vo := fun _ => none) (mo := fun _ => m3) (s2 := fun _ => []) (by decide +kernel) ⟨rfl, rfl, rfl, rfl, rfl, rfl⟩ (fun _ => rfl) (t_176 hN ) (fun _ => ?_)
  refine i_bl (pc' := 47) [(.iload_n 2, 1), (.iconst 0, 1), (.iconst 3, 1)] [some (.ref a0), some (.int x1), some (.int x2), some (.ref (sh_r v1 0))] [.int 3, .int 0, .int x2] (by decide +kernel) rfl ?_
  refine i_cs (t := 177) (na := 3) (ml := 3) (idx := 217) (pc' := 50) (st' := []) (en := [some (.int x2), some (.int 0), some (.int 3)]) (av := [.int x2, .int 0, .int 3]) (vo := fun _ => none) (mo := fun _ => m3) (s2 := fun _ => []) (by decide +kernel) ⟨rfl, rfl, rfl, rfl, rfl, rfl⟩ (fun _ => rfl) (t_177 hN ) (fun _ => ?_)
  refine i_bl (pc' := 51) [(.aload_n 0, 1)] [some (.ref a0), some (.int x1), some (.int x2), some (.ref (sh_r v1 0))] [.ref a0] (by decide +kernel) rfl ?_
  refine i_gr (idx := 50) (ci := 10) (k := 7) (t := 2) (p := 12135) (pc' := 54) (by decide +kernel) h0 ?_
  refine i_bl (pc' := 56) [(.aload_n 3, 1), (.aload_n 0, 1)] [some (.ref a0), some (.int x1), some (.int x2), some (.ref (sh_r v1 0))] [.ref a0, .ref (sh_r v1 0), .ref (sh_r a0 7)] (by decide +kernel) rfl ?_
  refine i_gr (idx := 19) (ci := 10) (k := 1) (t := 2) (p := 12129) (pc' := 59) (by decide +kernel) h0 ?_
  refine i_gf (idx := 131) (ci := 3) (k := 6) (t := 0) (p := 11190) (pc' := 62) (by decide +kernel) (o_10_1 hN h0) ?_
  refine i_cv (ci := 6) (t := 80) (na := 3) (ml := 4) (idx := 225) (pc' := 65) (st' := []) (en := [some (.ref (sh_r a0 7)), some (.ref (sh_r v1 0)), some (.int (m3 (sh_r a0 1) 6)), none]) (av := [.ref (sh_r v1 0), .int (m3 (sh_r a0 1) 6)]) (vo := fun _ => none) (mo := fun m => m) (s2 := fun _ => []) (by decide +kernel) (by decide +kernel) (o_10_7 hN h0) ⟨rfl, rfl, rfl, rfl, rfl, rfl⟩ (fun _ => rfl) (t_80 hN (h0 := (o_10_7 hN h0)) (h1 := (o_0_0 hN hr2))) (fun m4 => ?_)
  refine i_bl (pc' := 68) [(.aload_n 0, 1), (.aload_n 3, 1), (.aload_n 0, 1)] [some (.ref a0), some (.int x1), some (.int x2), some (.ref (sh_r v1 0))] [.ref a0, .ref (sh_r v1 0), .ref a0] (by decide +kernel) rfl ?_
  refine i_gr (idx := 19) (ci := 10) (k := 1) (t := 2) (p := 12129) (pc' := 71) (by decide +kernel) h0 ?_
  refine i_gf (idx := 131) (ci := 3) (k := 6) (t := 0) (p := 11190) (pc' := 74) (by decide +kernel) (o_10_1 hN h0) ?_
  refine i_bl (pc' := 75) [(.aload_n 0, 1)] [some (.ref a0), some (.int x1), some (.int x2), some (.ref (sh_r v1 0))] [.ref a0, .int (m4 (sh_r a0 1) 6), .ref (sh_r v1 0), .ref a0] (by decide +kernel) rfl ?_
  refine i_gr (idx := 50) (ci := 10) (k := 7) (t := 2) (p := 12135) (pc' := 78) (by decide +kernel) h0 ?_
  refine i_bl (pc' := 79) [(.iload_n 1, 1)] [some (.ref a0), some (.int x1), some (.int x2), some (.ref (sh_r v1 0))] [.int x1, .ref (sh_r a0 7), .int (m4 (sh_r a0 1) 6), .ref (sh_r v1 0), .ref a0] (by decide +kernel) rfl ?_
  refine i_cv (ci := 6) (t := 81) (na := 2) (ml := 3) (idx := 228) (pc' := 82) (st' := [.int (m4 (sh_r a0 1) 6), .ref (sh_r v1 0), .ref a0]) (en := [some (.ref (sh_r a0 7)), some (.int x1), none]) (av := [.int x1]) (vo := fun v => some (.int v)) (mo := fun _ => m4) (s2 := fun v => .int v :: [.int (m4 (sh_r a0 1) 6), .ref (sh_r v1 0), .ref a0]) (by decide +kernel) (by decide +kernel) (o_10_7 hN h0) ⟨rfl, rfl, rfl, rfl, rfl, rfl⟩ (fun _ => rfl) (t_81 hN (h0 := (o_10_7 hN h0))) (fun v5 => ?_)
  refine i_bl (pc' := 83) [(.iload_n 2, 1)] [some (.ref a0), some (.int x1), some (.int x2), some (.ref (sh_r v1 0))] [.int x2, .int v5, .int (m4 (sh_r a0 1) 6), .ref (sh_r v1 0), .ref a0] (by decide +kernel) rfl ?_
  refine i_cv (ci := 10) (t := 132) (na := 5) (ml := 7) (idx := 221) (pc' := 86) (st' := []) (en := [some (.ref a0), some (.ref (sh_r v1 0)), some (.int (m4 (sh_r a0 1) 6)), some (.int v5), some (.int x2), none, none]) (av := [.ref (sh_r v1 0), .int (m4 (sh_r a0 1) 6), .int v5, .int x2]) (vo := fun v => some (.int v.1)) (mo := fun v => v.2) (s2 := fun v => .int v.1 :: []) (by decide +kernel) (by decide +kernel) h0 ⟨rfl, rfl, rfl, rfl, rfl, rfl⟩ (fun _ => rfl) (t_132 hN (h0 := h0) (h1 := (o_0_0 hN hr2))) (fun r6 => ?_)
  exact i_ri (by decide +kernel) rfl

/-! 134 LanternChess.isInCheck(II)Z -/
noncomputable def d_134 (a0 : Nat) (x1 : Int32) (x2 : Int32) (m : Mm) : Option Bool := (d_175 x1).bind fun _ => (d_175 x2).bind fun _ => (d_51 (sh_r a0 1) x1).bind fun v1 => (d_30 (sh_r v1 0) x2 m).bind fun v3 => some v3
theorem t_134 {L nx : Nat} (hN : okn nx) {b z : Nat} {m : Mm} {a0 : Nat} (h0 : ok nx a0 10) {x1 : Int32} {x2 : Int32}  : Im (d_134 a0 x1 x2 m) (kZ L nx m) (ev_dn b z 134 0 [some (.ref a0), some (.int x1), some (.int x2)] [] (nx, mem L nx m)) := by
  unfold d_134
  refine i_bl (pc' := 1) [(.iload_n 1, 1)] [some (.ref a0), some (.int x1), some (.int x2)] [.int x1] (by decide +kernel) rfl ?_
  refine i_cs (t := 175) (na := 1) (ml := 1) (idx := 184) (pc' := 4) (st' := []) (en := [some (.int x1)]) (av := [.int x1]) (vo := fun _ => none) (mo := fun _ => m) (s2 := fun _ => []) (by decide +kernel) ⟨rfl, rfl, rfl, rfl, rfl, rfl⟩ (fun _ => rfl) (t_175 hN ) (fun _ => ?_)
  refine i_bl (pc' := 5) [(.iload_n 2, 1)] [some (.ref a0), some (.int x1), some (.int x2)] [.int x2] (by decide +kernel) rfl ?_
  refine i_cs (t := 175) (na := 1) (ml := 1) (idx := 184) (pc' := 8) (st' := []) (en := [some (.int x2)]) (av := [.int x2]) (vo := fun _ => none) (mo := fun _ => m) (s2 := fun _ => []) (by decide +kernel) ⟨rfl, rfl, rfl, rfl, rfl, rfl⟩ (fun _ => rfl) (t_175 hN ) (fun _ => ?_)
  refine i_bl (pc' := 9) [(.aload_n 0, 1)] [some (.ref a0), some (.int x1), some (.int x2)] [.ref a0] (by decide +kernel) rfl ?_
  refine i_gr (idx := 19) (ci := 10) (k := 1) (t := 2) (p := 12129) (pc' := 12) (by decide +kernel) h0 ?_
  refine i_bl (pc' := 13) [(.iload_n 1, 1)] [some (.ref a0), some (.int x1), some (.int x2)] [.int x1, .ref (sh_r a0 1)] (by decide +kernel) rfl ?_
  refine i_cA (cr := 0) (ci := 3) (t := 51) (na := 2) (ml := 2) (idx := 194) (pc' := 16) (st' := []) (en := [some (.ref (sh_r a0 1)), some (.int x1)]) (av := [.int x1]) (s2 := fun v => .ref v :: []) (by decide +kernel) (by decide +kernel) (o_10_1 hN h0) ⟨rfl, rfl, rfl, rfl, rfl, rfl⟩ (fun _ => rfl) (t_51 hN (h0 := (o_10_1 hN h0))) (fun v1 hr2 => ?_)
  refine i_gr (idx := 116) (ci := 0) (k := 0) (t := 2) (p := 11116) (pc' := 19) (by decide +kernel) hr2 ?_
  refine i_bl (pc' := 20) [(.iload_n 2, 1)] [some (.ref a0), some (.int x1), some (.int x2)] [.int x2, .ref (sh_r v1 0)] (by decide +kernel) rfl ?_
  refine i_cv (ci := 1) (t := 30) (na := 2) (ml := 3) (idx := 249) (pc' := 23) (st' := []) (en := [some (.ref (sh_r v1 0)), some (.int x2), none]) (av := [.int x2]) (vo := fun v => some (.int (bi v))) (mo := fun _ => m) (s2 := fun v => .int (bi v) :: []) (by decide +kernel) (by decide +kernel) (o_0_0 hN hr2) ⟨rfl, rfl, rfl, rfl, rfl, rfl⟩ (fun _ => rfl) (t_30 hN (h0 := (o_0_0 hN hr2))) (fun v3 => ?_)
  exact i_rz (B := v3) (by decide +kernel) rfl

/-! 136 LanternChess.sum(I)I -/
noncomputable def d_136 (a0 : Nat) (x1 : Int32) (m : Mm) : Option Int32 := (d_175 x1).bind fun _ => (d_51 (sh_r a0 1) x1).bind fun v1 => (d_33 (sh_r v1 0) m).bind fun v3 => some v3
theorem t_136 {L nx : Nat} (hN : okn nx) {b z : Nat} {m : Mm} {a0 : Nat} (h0 : ok nx a0 10) {x1 : Int32}  : Im (d_136 a0 x1 m) (kI L nx m) (ev_dn b z 136 0 [some (.ref a0), some (.int x1)] [] (nx, mem L nx m)) := by
  unfold d_136
  refine i_bl (pc' := 1) [(.iload_n 1, 1)] [some (.ref a0), some (.int x1)] [.int x1] (by decide +kernel) rfl ?_
  refine i_cs (t := 175) (na := 1) (ml := 1) (idx := 184) (pc' := 4) (st' := []) (en := [some (.int x1)]) (av := [.int x1]) (vo := fun _ => none) (mo := fun _ => m) (s2 := fun _ => []) (by decide +kernel) ⟨rfl, rfl, rfl, rfl, rfl, rfl⟩ (fun _ => rfl) (t_175 hN ) (fun _ => ?_)
  refine i_bl (pc' := 5) [(.aload_n 0, 1)] [some (.ref a0), some (.int x1)] [.ref a0] (by decide +kernel) rfl ?_
  refine i_gr (idx := 19) (ci := 10) (k := 1) (t := 2) (p := 12129) (pc' := 8) (by decide +kernel) h0 ?_
  refine i_bl (pc' := 9) [(.iload_n 1, 1)] [some (.ref a0), some (.int x1)] [.int x1, .ref (sh_r a0 1)] (by decide +kernel) rfl ?_
  refine i_cA (cr := 0) (ci := 3) (t := 51) (na := 2) (ml := 2) (idx := 194) (pc' := 12) (st' := []) (en := [some (.ref (sh_r a0 1)), some (.int x1)]) (av := [.int x1]) (s2 := fun v => .ref v :: []) (by decide +kernel) (by decide +kernel) (o_10_1 hN h0) ⟨rfl, rfl, rfl, rfl, rfl, rfl⟩ (fun _ => rfl) (t_51 hN (h0 := (o_10_1 hN h0))) (fun v1 hr2 => ?_)
  refine i_gr (idx := 116) (ci := 0) (k := 0) (t := 2) (p := 11116) (pc' := 15) (by decide +kernel) hr2 ?_
  refine i_cv (ci := 1) (t := 33) (na := 1) (ml := 3) (idx := 256) (pc' := 18) (st' := []) (en := [some (.ref (sh_r v1 0)), none, none]) (av := []) (vo := fun v => some (.int v)) (mo := fun _ => m) (s2 := fun v => .int v :: []) (by decide +kernel) (by decide +kernel) (o_0_0 hN hr2) ⟨rfl, rfl, rfl, rfl, rfl, rfl⟩ (fun _ => rfl) (t_33 hN (h0 := (o_0_0 hN hr2))) (fun v3 => ?_)
  exact i_ri (by decide +kernel) rfl

/-! 137 LanternChess.differ(I)I -/
noncomputable def d_137 (a0 : Nat) (x1 : Int32) (m : Mm) : Option Int32 := (d_177 x1 0 1).bind fun _ => if ¬ x1 = 0 then ((d_55 (sh_r a0 1) m).bind fun v1 => some v1) else ((d_54 (sh_r a0 1) m).bind fun v2 => some v2)
theorem t_137 {L nx : Nat} (hN : okn nx) {b z : Nat} {m : Mm} {a0 : Nat} (h0 : ok nx a0 10) {x1 : Int32}  : Im (d_137 a0 x1 m) (kI L nx m) (ev_dn b z 137 0 [some (.ref a0), some (.int x1)] [] (nx, mem L nx m)) := by
  unfold d_137
  refine i_bl (pc' := 3) [(.iload_n 1, 1), (.iconst 0, 1), (.iconst 1, 1)] [some (.ref a0), some (.int x1)] [.int 1, .int 0, .int x1] (by decide +kernel) rfl ?_
  refine i_cs (t := 177) (na := 3) (ml := 3) (idx := 217) (pc' := 6) (st' := []) (en := [some (.int x1), some (.int 0), some (.int 1)]) (av := [.int x1, .int 0, .int 1]) (vo := fun _ => none) (mo := fun _ => m) (s2 := fun _ => []) (by decide +kernel) ⟨rfl, rfl, rfl, rfl, rfl, rfl⟩ (fun _ => rfl) (t_177 hN ) (fun _ => ?_)
  refine i_bl (pc' := 7) [(.iload_n 1, 1)] [some (.ref a0), some (.int x1)] [.int x1] (by decide +kernel) rfl ?_
  refine i_if (c := .ne) (off := 13) (t := 20) (pc' := 10) (p := ¬ x1 = 0) (by decide +kernel) rfl ?_ ?_
  · refine i_bl (pc' := 21) [(.aload_n 0, 1)] [some (.ref a0), some (.int x1)] [.ref a0] (by decide +kernel) rfl ?_
    refine i_gr (idx := 19) (ci := 10) (k := 1) (t := 2) (p := 12129) (pc' := 24) (by decide +kernel) h0 ?_
    refine i_cv (ci := 3) (t := 55) (na := 1) (ml := 1) (idx := 262) (pc' := 27) (st' := []) (en := [some (.ref (sh_r a0 1))]) (av := []) (vo := fun v => some (.int v)) (mo := fun _ => m) (s2 := fun v => .int v :: []) (by decide +kernel) (by decide +kernel) (o_10_1 hN h0) ⟨rfl, rfl, rfl, rfl, rfl, rfl⟩ (fun _ => rfl) (t_55 hN (h0 := (o_10_1 hN h0))) (fun v1 => ?_)
    exact i_ri (by decide +kernel) rfl
  · refine i_bl (pc' := 11) [(.aload_n 0, 1)] [some (.ref a0), some (.int x1)] [.ref a0] (by decide +kernel) rfl ?_
    refine i_gr (idx := 19) (ci := 10) (k := 1) (t := 2) (p := 12129) (pc' := 14) (by decide +kernel) h0 ?_
    refine i_cv (ci := 3) (t := 54) (na := 1) (ml := 1) (idx := 259) (pc' := 17) (st' := []) (en := [some (.ref (sh_r a0 1))]) (av := []) (vo := fun v => some (.int v)) (mo := fun _ => m) (s2 := fun v => .int v :: []) (by decide +kernel) (by decide +kernel) (o_10_1 hN h0) ⟨rfl, rfl, rfl, rfl, rfl, rfl⟩ (fun _ => rfl) (t_54 hN (h0 := (o_10_1 hN h0))) (fun v2 => ?_)
    refine i_go (t := 27) (off := 10) (by decide +kernel) ?_
    exact i_ri (by decide +kernel) rfl

/-! 138 LanternChess.fewestMoves(IIIII)I -/
noncomputable def d_138 (a0 : Nat) (x1 : Int32) (x2 : Int32) (x3 : Int32) (x4 : Int32) (x5 : Int32) (m : Mm) : Option (Int32 × Mm) := (d_175 x1).bind fun _ => (d_179 a0 x2 x3 x4 x5 m).bind fun _ => (d_51 (sh_r a0 1) x1).bind fun v1 => (d_12 x2 x3).bind fun v3 => (d_12 x4 x5).bind fun v4 => (d_116 (sh_r a0 8) (sh_r v1 0) v3 v4 m).bind fun r5 => some (r5.1, r5.2)
theorem t_138 {L nx : Nat} (hN : okn nx) {b z : Nat} {m : Mm} {a0 : Nat} (h0 : ok nx a0 10) {x1 : Int32} {x2 : Int32} {x3 : Int32} {x4 : Int32} {x5 : Int32}  : Im (d_138 a0 x1 x2 x3 x4 x5 m) (wI L nx) (ev_dn b z 138 0 [some (.ref a0), some (.int x1), some (.int x2), some (.int x3), some (.int x4), some (.int x5)] [] (nx, mem L nx m)) := by
  unfold d_138
  refine i_bl (pc' := 1) [(.iload_n 1, 1)] [some (.ref a0), some (.int x1), some (.int x2), some (.int x3), some (.int x4), some (.int x5)] [.int x1] (by decide +kernel) rfl ?_
  refine i_cs (t := 175) (na := 1) (ml := 1) (idx := 184) (pc' := 4) (st' := []) (en := [some (.int x1)]) (av := [.int x1]) (vo := fun _ => none) (mo := fun _ => m) (s2 := fun _ => []) (by decide +kernel) ⟨rfl, rfl, rfl, rfl, rfl, rfl⟩ (fun _ => rfl) (t_175 hN ) (fun _ => ?_)
  refine i_bl (pc' := 11) [(.aload_n 0, 1), (.iload_n 2, 1), (.iload_n 3, 1), (.iload 4, 2), (.iload 5, 2)] [some (.ref a0), some (.int x1), some (.int x2), some (.int x3), some (.int x4), some (.int x5)] [.int x5, .int x4, .int x3, .int x2, .ref a0] (by decide +kernel) rfl ?_
  refine i_cv (ci := 10) (t := 179) (na := 5) (ml := 5) (idx := 201) (pc' := 14) (st' := []) (en := [some (.ref a0), some (.int x2), some (.int x3), some (.int x4), some (.int x5)]) (av := [.int x2, .int x3, .int x4, .int x5]) (vo := fun _ => none) (mo := fun _ => m) (s2 := fun _ => []) (by decide +kernel) (by decide +kernel) h0 ⟨rfl, rfl, rfl, rfl, rfl, rfl⟩ (fun _ => rfl) (t_179 hN (h0 := h0)) (fun _ => ?_)
  refine i_bl (pc' := 15) [(.aload_n 0, 1)] [some (.ref a0), some (.int x1), some (.int x2), some (.int x3), some (.int x4), some (.int x5)] [.ref a0] (by decide +kernel) rfl ?_
  refine i_gr (idx := 57) (ci := 10) (k := 8) (t := 2) (p := 12136) (pc' := 18) (by decide +kernel) h0 ?_
  refine i_bl (pc' := 19) [(.aload_n 0, 1)] [some (.ref a0), some (.int x1), some (.int x2), some (.int x3), some (.int x4), some (.int x5)] [.ref a0, .ref (sh_r a0 8)] (by decide +kernel) rfl ?_
  refine i_gr (idx := 19) (ci := 10) (k := 1) (t := 2) (p := 12129) (pc' := 22) (by decide +kernel) h0 ?_
  refine i_bl (pc' := 23) [(.iload_n 1, 1)] [some (.ref a0), some (.int x1), some (.int x2), some (.int x3), some (.int x4), some (.int x5)] [.int x1, .ref (sh_r a0 1), .ref (sh_r a0 8)] (by decide +kernel) rfl ?_
  refine i_cA (cr := 0) (ci := 3) (t := 51) (na := 2) (ml := 2) (idx := 194) (pc' := 26) (st' := [.ref (sh_r a0 8)]) (en := [some (.ref (sh_r a0 1)), some (.int x1)]) (av := [.int x1]) (s2 := fun v => .ref v :: [.ref (sh_r a0 8)]) (by decide +kernel) (by decide +kernel) (o_10_1 hN h0) ⟨rfl, rfl, rfl, rfl, rfl, rfl⟩ (fun _ => rfl) (t_51 hN (h0 := (o_10_1 hN h0))) (fun v1 hr2 => ?_)
  refine i_gr (idx := 116) (ci := 0) (k := 0) (t := 2) (p := 11116) (pc' := 29) (by decide +kernel) hr2 ?_
  refine i_bl (pc' := 31) [(.iload_n 2, 1), (.iload_n 3, 1)] [some (.ref a0), some (.int x1), some (.int x2), some (.int x3), some (.int x4), some (.int x5)] [.int x3, .int x2, .ref (sh_r v1 0), .ref (sh_r a0 8)] (by decide +kernel) rfl ?_
  refine i_cs (t := 12) (na := 2) (ml := 2) (idx := 73) (pc' := 34) (st' := [.ref (sh_r v1 0), .ref (sh_r a0 8)]) (en := [some (.int x2), some (.int x3)]) (av := [.int x2, .int x3]) (vo := fun v => some (.int v)) (mo := fun _ => m) (s2 := fun v => .int v :: [.ref (sh_r v1 0), .ref (sh_r a0 8)]) (by decide +kernel) ⟨rfl, rfl, rfl, rfl, rfl, rfl⟩ (fun _ => rfl) (t_12 hN ) (fun v3 => ?_)
  refine i_bl (pc' := 38) [(.iload 4, 2), (.iload 5, 2)] [some (.ref a0), some (.int x1), some (.int x2), some (.int x3), some (.int x4), some (.int x5)] [.int x5, .int x4, .int v3, .ref (sh_r v1 0), .ref (sh_r a0 8)] (by decide +kernel) rfl ?_
  refine i_cs (t := 12) (na := 2) (ml := 2) (idx := 73) (pc' := 41) (st' := [.int v3, .ref (sh_r v1 0), .ref (sh_r a0 8)]) (en := [some (.int x4), some (.int x5)]) (av := [.int x4, .int x5]) (vo := fun v => some (.int v)) (mo := fun _ => m) (s2 := fun v => .int v :: [.int v3, .ref (sh_r v1 0), .ref (sh_r a0 8)]) (by decide +kernel) ⟨rfl, rfl, rfl, rfl, rfl, rfl⟩ (fun _ => rfl) (t_12 hN ) (fun v4 => ?_)
  refine i_cv (ci := 9) (t := 116) (na := 4) (ml := 6) (idx := 265) (pc' := 44) (st' := []) (en := [some (.ref (sh_r a0 8)), some (.ref (sh_r v1 0)), some (.int v3), some (.int v4), none, none]) (av := [.ref (sh_r v1 0), .int v3, .int v4]) (vo := fun v => some (.int v.1)) (mo := fun v => v.2) (s2 := fun v => .int v.1 :: []) (by decide +kernel) (by decide +kernel) (o_10_8 hN h0) ⟨rfl, rfl, rfl, rfl, rfl, rfl⟩ (fun _ => rfl) (t_116 hN (h0 := (o_10_8 hN h0)) (h1 := (o_0_0 hN hr2))) (fun r5 => ?_)
  exact i_ri (by decide +kernel) rfl

/-! 147 LanternChess.foretellNow(IIII)V -/
noncomputable def d_147 (a0 : Nat) (x1 : Int32) (x2 : Int32) (x3 : Int32) (x4 : Int32) (m : Mm) : Option Mm := (d_179 a0 x1 x2 x3 x4 m).bind fun _ => (d_12 x1 x2).bind fun v1 => (d_12 x3 x4).bind fun v2 => (d_59 (sh_r a0 1) (sh_r a0 6) v1 v2 (m (sh_r a0 1) 5) m).bind fun m3 => some m3
theorem t_147 {L nx : Nat} (hN : okn nx) {b z : Nat} {m : Mm} {a0 : Nat} (h0 : ok nx a0 10) {x1 : Int32} {x2 : Int32} {x3 : Int32} {x4 : Int32}  : Im (d_147 a0 x1 x2 x3 x4 m) (wV L nx) (ev_dn b z 147 0 [some (.ref a0), some (.int x1), some (.int x2), some (.int x3), some (.int x4)] [] (nx, mem L nx m)) := by
  unfold d_147
  refine i_bl (pc' := 6) [(.aload_n 0, 1), (.iload_n 1, 1), (.iload_n 2, 1), (.iload_n 3, 1), (.iload 4, 2)] [some (.ref a0), some (.int x1), some (.int x2), some (.int x3), some (.int x4)] [.int x4, .int x3, .int x2, .int x1, .ref a0] (by decide +kernel) rfl ?_
  refine i_cv (ci := 10) (t := 179) (na := 5) (ml := 5) (idx := 201) (pc' := 9) (st' := []) (en := [some (.ref a0), some (.int x1), some (.int x2), some (.int x3), some (.int x4)]) (av := [.int x1, .int x2, .int x3, .int x4]) (vo := fun _ => none) (mo := fun _ => m) (s2 := fun _ => []) (by decide +kernel) (by decide +kernel) h0 ⟨rfl, rfl, rfl, rfl, rfl, rfl⟩ (fun _ => rfl) (t_179 hN (h0 := h0)) (fun _ => ?_)
  refine i_bl (pc' := 10) [(.aload_n 0, 1)] [some (.ref a0), some (.int x1), some (.int x2), some (.int x3), some (.int x4)] [.ref a0] (by decide +kernel) rfl ?_
  refine i_gr (idx := 19) (ci := 10) (k := 1) (t := 2) (p := 12129) (pc' := 13) (by decide +kernel) h0 ?_
  refine i_bl (pc' := 14) [(.aload_n 0, 1)] [some (.ref a0), some (.int x1), some (.int x2), some (.int x3), some (.int x4)] [.ref a0, .ref (sh_r a0 1)] (by decide +kernel) rfl ?_
  refine i_gr (idx := 43) (ci := 10) (k := 6) (t := 2) (p := 12134) (pc' := 17) (by decide +kernel) h0 ?_
  refine i_bl (pc' := 19) [(.iload_n 1, 1), (.iload_n 2, 1)] [some (.ref a0), some (.int x1), some (.int x2), some (.int x3), some (.int x4)] [.int x2, .int x1, .ref (sh_r a0 6), .ref (sh_r a0 1)] (by decide +kernel) rfl ?_
  refine i_cs (t := 12) (na := 2) (ml := 2) (idx := 73) (pc' := 22) (st' := [.ref (sh_r a0 6), .ref (sh_r a0 1)]) (en := [some (.int x1), some (.int x2)]) (av := [.int x1, .int x2]) (vo := fun v => some (.int v)) (mo := fun _ => m) (s2 := fun v => .int v :: [.ref (sh_r a0 6), .ref (sh_r a0 1)]) (by decide +kernel) ⟨rfl, rfl, rfl, rfl, rfl, rfl⟩ (fun _ => rfl) (t_12 hN ) (fun v1 => ?_)
  refine i_bl (pc' := 25) [(.iload_n 3, 1), (.iload 4, 2)] [some (.ref a0), some (.int x1), some (.int x2), some (.int x3), some (.int x4)] [.int x4, .int x3, .int v1, .ref (sh_r a0 6), .ref (sh_r a0 1)] (by decide +kernel) rfl ?_
  refine i_cs (t := 12) (na := 2) (ml := 2) (idx := 73) (pc' := 28) (st' := [.int v1, .ref (sh_r a0 6), .ref (sh_r a0 1)]) (en := [some (.int x3), some (.int x4)]) (av := [.int x3, .int x4]) (vo := fun v => some (.int v)) (mo := fun _ => m) (s2 := fun v => .int v :: [.int v1, .ref (sh_r a0 6), .ref (sh_r a0 1)]) (by decide +kernel) ⟨rfl, rfl, rfl, rfl, rfl, rfl⟩ (fun _ => rfl) (t_12 hN ) (fun v2 => ?_)
  refine i_bl (pc' := 29) [(.aload_n 0, 1)] [some (.ref a0), some (.int x1), some (.int x2), some (.int x3), some (.int x4)] [.ref a0, .int v2, .int v1, .ref (sh_r a0 6), .ref (sh_r a0 1)] (by decide +kernel) rfl ?_
  refine i_gr (idx := 19) (ci := 10) (k := 1) (t := 2) (p := 12129) (pc' := 32) (by decide +kernel) h0 ?_
  refine i_gf (idx := 128) (ci := 3) (k := 5) (t := 0) (p := 11188) (pc' := 35) (by decide +kernel) (o_10_1 hN h0) ?_
  refine i_cv (ci := 3) (t := 59) (na := 5) (ml := 8) (idx := 297) (pc' := 38) (st' := []) (en := [some (.ref (sh_r a0 1)), some (.ref (sh_r a0 6)), some (.int v1), some (.int v2), some (.int (m (sh_r a0 1) 5)), none, none, none]) (av := [.ref (sh_r a0 6), .int v1, .int v2, .int (m (sh_r a0 1) 5)]) (vo := fun _ => none) (mo := fun m => m) (s2 := fun _ => []) (by decide +kernel) (by decide +kernel) (o_10_1 hN h0) ⟨rfl, rfl, rfl, rfl, rfl, rfl⟩ (fun _ => rfl) (t_59 hN (h0 := (o_10_1 hN h0)) (h1 := (o_10_6 hN h0))) (fun m3 => ?_)
  exact i_rv (by decide +kernel) rfl

/-! 143 LanternChess.group(IIIII)I -/
noncomputable def d_143 (a0 : Nat) (x1 : Int32) (x2 : Int32) (x3 : Int32) (x4 : Int32) (x5 : Int32) (m : Mm) : Option (Int32 × Mm) := (d_176 x5 6).bind fun _ => (d_147 a0 x1 x2 x3 x4 m).bind fun m1 => (d_84 (sh_r a0 6) x5 m1).bind fun v2 => some (v2, m1)
theorem t_143 {L nx : Nat} (hN : okn nx) {b z : Nat} {m : Mm} {a0 : Nat} (h0 : ok nx a0 10) {x1 : Int32} {x2 : Int32} {x3 : Int32} {x4 : Int32} {x5 : Int32}  : Im (d_143 a0 x1 x2 x3 x4 x5 m) (wI L nx) (ev_dn b z 143 0 [some (.ref a0), some (.int x1), some (.int x2), some (.int x3), some (.int x4), some (.int x5)] [] (nx, mem L nx m)) := by
  unfold d_143
  refine i_bl (pc' := 4) [(.iload 5, 2), (.bipush (6), 2)] [some (.ref a0), some (.int x1), some (.int x2), some (.int x3), some (.int x4), some (.int x5)] [.int 6, .int x5] (by decide +kernel) rfl ?_
  refine i_cs (t := 176) (na := 2) (ml := 2) (idx := 214) (pc' := 7) (st' := []) (en := [some (.int x5), some (.int 6)]) (av := [.int x5, .int 6]) (vo := fun _ => none) (mo := fun _ => m) (s2 := fun _ => []) (by decide +kernel) ⟨rfl, rfl, rfl, rfl, rfl, rfl⟩ (fun _ => rfl) (t_176 hN ) (fun _ => ?_)
  refine i_bl (pc' := 13) [(.aload_n 0, 1), (.iload_n 1, 1), (.iload_n 2, 1), (.iload_n 3, 1), (.iload 4, 2)] [some (.ref a0), some (.int x1), some (.int x2), some (.int x3), some (.int x4), some (.int x5)] [.int x4, .int x3, .int x2, .int x1, .ref a0] (by decide +kernel) rfl ?_
  refine i_cv (ci := 10) (t := 147) (na := 5) (ml := 5) (idx := 282) (pc' := 16) (st' := []) (en := [some (.ref a0), some (.int x1), some (.int x2), some (.int x3), some (.int x4)]) (av := [.int x1, .int x2, .int x3, .int x4]) (vo := fun _ => none) (mo := fun m => m) (s2 := fun _ => []) (by decide +kernel) (by decide +kernel) h0 ⟨rfl, rfl, rfl, rfl, rfl, rfl⟩ (fun _ => rfl) (t_147 hN (h0 := h0)) (fun m1 => ?_)
  refine i_bl (pc' := 17) [(.aload_n 0, 1)] [some (.ref a0), some (.int x1), some (.int x2), some (.int x3), some (.int x4), some (.int x5)] [.ref a0] (by decide +kernel) rfl ?_
  refine i_gr (idx := 43) (ci := 10) (k := 6) (t := 2) (p := 12134) (pc' := 20) (by decide +kernel) h0 ?_
  refine i_bl (pc' := 22) [(.iload 5, 2)] [some (.ref a0), some (.int x1), some (.int x2), some (.int x3), some (.int x4), some (.int x5)] [.int x5, .ref (sh_r a0 6)] (by decide +kernel) rfl ?_
  refine i_cv (ci := 7) (t := 84) (na := 2) (ml := 2) (idx := 285) (pc' := 25) (st' := []) (en := [some (.ref (sh_r a0 6)), some (.int x5)]) (av := [.int x5]) (vo := fun v => some (.int v)) (mo := fun _ => m1) (s2 := fun v => .int v :: []) (by decide +kernel) (by decide +kernel) (o_10_6 hN h0) ⟨rfl, rfl, rfl, rfl, rfl, rfl⟩ (fun _ => rfl) (t_84 hN (h0 := (o_10_6 hN h0))) (fun v2 => ?_)
  exact i_ri (by decide +kernel) rfl

/-! 145 LanternChess.messageTicks(IIII)I -/
noncomputable def d_145 (a0 : Nat) (x1 : Int32) (x2 : Int32) (x3 : Int32) (x4 : Int32) (m : Mm) : Option (Int32 × Mm) := (d_147 a0 x1 x2 x3 x4 m).bind fun m1 => some (m1 (sh_r a0 6) 2, m1)
theorem t_145 {L nx : Nat} (hN : okn nx) {b z : Nat} {m : Mm} {a0 : Nat} (h0 : ok nx a0 10) {x1 : Int32} {x2 : Int32} {x3 : Int32} {x4 : Int32}  : Im (d_145 a0 x1 x2 x3 x4 m) (wI L nx) (ev_dn b z 145 0 [some (.ref a0), some (.int x1), some (.int x2), some (.int x3), some (.int x4)] [] (nx, mem L nx m)) := by
  unfold d_145
  refine i_bl (pc' := 6) [(.aload_n 0, 1), (.iload_n 1, 1), (.iload_n 2, 1), (.iload_n 3, 1), (.iload 4, 2)] [some (.ref a0), some (.int x1), some (.int x2), some (.int x3), some (.int x4)] [.int x4, .int x3, .int x2, .int x1, .ref a0] (by decide +kernel) rfl ?_
  refine i_cv (ci := 10) (t := 147) (na := 5) (ml := 5) (idx := 282) (pc' := 9) (st' := []) (en := [some (.ref a0), some (.int x1), some (.int x2), some (.int x3), some (.int x4)]) (av := [.int x1, .int x2, .int x3, .int x4]) (vo := fun _ => none) (mo := fun m => m) (s2 := fun _ => []) (by decide +kernel) (by decide +kernel) h0 ⟨rfl, rfl, rfl, rfl, rfl, rfl⟩ (fun _ => rfl) (t_147 hN (h0 := h0)) (fun m1 => ?_)
  refine i_bl (pc' := 10) [(.aload_n 0, 1)] [some (.ref a0), some (.int x1), some (.int x2), some (.int x3), some (.int x4)] [.ref a0] (by decide +kernel) rfl ?_
  refine i_gr (idx := 43) (ci := 10) (k := 6) (t := 2) (p := 12134) (pc' := 13) (by decide +kernel) h0 ?_
  refine i_gf (idx := 291) (ci := 7) (k := 2) (t := 0) (p := 12021) (pc' := 16) (by decide +kernel) (o_10_6 hN h0) ?_
  exact i_ri (by decide +kernel) rfl

/-! 146 LanternChess.readsAs(IIII)I -/
noncomputable def d_146 (a0 : Nat) (x1 : Int32) (x2 : Int32) (x3 : Int32) (x4 : Int32) (m : Mm) : Option (Int32 × Mm) := (d_147 a0 x1 x2 x3 x4 m).bind fun m1 => some (m1 (sh_r a0 6) 3, m1)
theorem t_146 {L nx : Nat} (hN : okn nx) {b z : Nat} {m : Mm} {a0 : Nat} (h0 : ok nx a0 10) {x1 : Int32} {x2 : Int32} {x3 : Int32} {x4 : Int32}  : Im (d_146 a0 x1 x2 x3 x4 m) (wI L nx) (ev_dn b z 146 0 [some (.ref a0), some (.int x1), some (.int x2), some (.int x3), some (.int x4)] [] (nx, mem L nx m)) := by
  unfold d_146
  refine i_bl (pc' := 6) [(.aload_n 0, 1), (.iload_n 1, 1), (.iload_n 2, 1), (.iload_n 3, 1), (.iload 4, 2)] [some (.ref a0), some (.int x1), some (.int x2), some (.int x3), some (.int x4)] [.int x4, .int x3, .int x2, .int x1, .ref a0] (by decide +kernel) rfl ?_
  refine i_cv (ci := 10) (t := 147) (na := 5) (ml := 5) (idx := 282) (pc' := 9) (st' := []) (en := [some (.ref a0), some (.int x1), some (.int x2), some (.int x3), some (.int x4)]) (av := [.int x1, .int x2, .int x3, .int x4]) (vo := fun _ => none) (mo := fun m => m) (s2 := fun _ => []) (by decide +kernel) (by decide +kernel) h0 ⟨rfl, rfl, rfl, rfl, rfl, rfl⟩ (fun _ => rfl) (t_147 hN (h0 := h0)) (fun m1 => ?_)
  refine i_bl (pc' := 10) [(.aload_n 0, 1)] [some (.ref a0), some (.int x1), some (.int x2), some (.int x3), some (.int x4)] [.ref a0] (by decide +kernel) rfl ?_
  refine i_gr (idx := 43) (ci := 10) (k := 6) (t := 2) (p := 12134) (pc' := 13) (by decide +kernel) h0 ?_
  refine i_gf (idx := 294) (ci := 7) (k := 3) (t := 0) (p := 12024) (pc' := 16) (by decide +kernel) (o_10_6 hN h0) ?_
  exact i_ri (by decide +kernel) rfl

/-! 180 LanternChess.needGoingOn()V -/
noncomputable def d_180 (a0 : Nat) (m : Mm) : Option Unit := if (m (sh_r a0 1) 7) = 0 then (some ()) else (none)
theorem t_180 {L nx : Nat} (hN : okn nx) {b z : Nat} {m : Mm} {a0 : Nat} (h0 : ok nx a0 10)   : Im (d_180 a0 m) (kV L nx m) (ev_dn b z 180 0 [some (.ref a0)] [] (nx, mem L nx m)) := by
  unfold d_180
  refine i_bl (pc' := 1) [(.aload_n 0, 1)] [some (.ref a0)] [.ref a0] (by decide +kernel) rfl ?_
  refine i_gr (idx := 19) (ci := 10) (k := 1) (t := 2) (p := 12129) (pc' := 4) (by decide +kernel) h0 ?_
  refine i_gf (idx := 134) (ci := 3) (k := 7) (t := 0) (p := 11192) (pc' := 7) (by decide +kernel) (o_10_1 hN h0) ?_
  refine i_if (c := .eq) (off := 14) (t := 21) (pc' := 10) (p := (m (sh_r a0 1) 7) = 0) (by decide +kernel) rfl ?_ ?_
  · exact i_rv (by decide +kernel) rfl
  · exact i_no

/-! 148 LanternChess.ifPlayed(IIIII)I -/
noncomputable def d_148 (a0 : Nat) (x1 : Int32) (x2 : Int32) (x3 : Int32) (x4 : Int32) (x5 : Int32) (m : Mm) : Option (Int32 × Mm) := (d_179 a0 x1 x2 x3 x4 m).bind fun _ => (d_177 x5 0 3).bind fun _ => (d_180 a0 m).bind fun _ => (d_49 (sh_r a0 2) (sh_r a0 1) m).bind fun m1 => (d_12 x1 x2).bind fun v2 => (d_12 x3 x4).bind fun v3 => (d_60 (sh_r a0 2) (sh_r a0 6) v2 v3 m1).bind fun r4 => (if x5 = 0 then (some (r4.1, r4.2)) else if x5 = 1 then (some ((r4.2 (sh_r a0 2) 5) - (r4.2 (sh_r a0 1) 5), r4.2)) else if x5 = 2 then ((d_54 (sh_r a0 2) r4.2).bind fun v5 => some (v5, r4.2)) else (if ¬ (r4.2 (sh_r a0 2) 7) = 0 then (some (1, r4.2)) else (some (0, r4.2))))
theorem t_148 {L nx : Nat} (hN : okn nx) {b z : Nat} {m : Mm} {a0 : Nat} (h0 : ok nx a0 10) {x1 : Int32} {x2 : Int32} {x3 : Int32} {x4 : Int32} {x5 : Int32}  : Im (d_148 a0 x1 x2 x3 x4 x5 m) (wI L nx) (ev_dn b z 148 0 [some (.ref a0), some (.int x1), some (.int x2), some (.int x3), some (.int x4), some (.int x5), none] [] (nx, mem L nx m)) := by
  unfold d_148
  refine i_bl (pc' := 6) [(.aload_n 0, 1), (.iload_n 1, 1), (.iload_n 2, 1), (.iload_n 3, 1), (.iload 4, 2)] [some (.ref a0), some (.int x1), some (.int x2), some (.int x3), some (.int x4), some (.int x5), none] [.int x4, .int x3, .int x2, .int x1, .ref a0] (by decide +kernel) rfl ?_
  refine i_cv (ci := 10) (t := 179) (na := 5) (ml := 5) (idx := 201) (pc' := 9) (st' := []) (en := [some (.ref a0), some (.int x1), some (.int x2), some (.int x3), some (.int x4)]) (av := [.int x1, .int x2, .int x3, .int x4]) (vo := fun _ => none) (mo := fun _ => m) (s2 := fun _ => []) (by decide +kernel) (by decide +kernel) h0 ⟨rfl, rfl, rfl, rfl, rfl, rfl⟩ (fun _ => rfl) (t_179 hN (h0 := h0)) (fun _ => ?_)
  refine i_bl (pc' := 13) [(.iload 5, 2), (.iconst 0, 1), (.iconst 3, 1)] [some (.ref a0), some (.int x1), some (.int x2), some (.int x3), some (.int x4), some (.int x5), none] [.int 3, .int 0, .int x5] (by decide +kernel) rfl ?_
  refine i_cs (t := 177) (na := 3) (ml := 3) (idx := 217) (pc' := 16) (st' := []) (en := [some (.int x5), some (.int 0), some (.int 3)]) (av := [.int x5, .int 0, .int 3]) (vo := fun _ => none) (mo := fun _ => m) (s2 := fun _ => []) (by decide +kernel) ⟨rfl, rfl, rfl, rfl, rfl, rfl⟩ (fun _ => rfl) (t_177 hN ) (fun _ => ?_)
  refine i_bl (pc' := 17) [(.aload_n 0, 1)] [some (.ref a0), some (.int x1), some (.int x2), some (.int x3), some (.int x4), some (.int x5), none] [.ref a0] (by decide +kernel) rfl ?_
  refine i_cv (ci := 10) (t := 180) (na := 1) (ml := 1) (idx := 301) (pc' := 20) (st' := []) (en := [some (.ref a0)]) (av := []) (vo := fun _ => none) (mo := fun _ => m) (s2 := fun _ => []) (by decide +kernel) (by decide +kernel) h0 ⟨rfl, rfl, rfl, rfl, rfl, rfl⟩ (fun _ => rfl) (t_180 hN (h0 := h0)) (fun _ => ?_)
  refine i_bl (pc' := 21) [(.aload_n 0, 1)] [some (.ref a0), some (.int x1), some (.int x2), some (.int x3), some (.int x4), some (.int x5), none] [.ref a0] (by decide +kernel) rfl ?_
  refine i_gr (idx := 23) (ci := 10) (k := 2) (t := 2) (p := 12130) (pc' := 24) (by decide +kernel) h0 ?_
  refine i_bl (pc' := 25) [(.aload_n 0, 1)] [some (.ref a0), some (.int x1), some (.int x2), some (.int x3), some (.int x4), some (.int x5), none] [.ref a0, .ref (sh_r a0 2)] (by decide +kernel) rfl ?_
  refine i_gr (idx := 19) (ci := 10) (k := 1) (t := 2) (p := 12129) (pc' := 28) (by decide +kernel) h0 ?_
  refine i_cv (ci := 3) (t := 49) (na := 2) (ml := 2) (idx := 100) (pc' := 31) (st' := []) (en := [some (.ref (sh_r a0 2)), some (.ref (sh_r a0 1))]) (av := [.ref (sh_r a0 1)]) (vo := fun _ => none) (mo := fun m => m) (s2 := fun _ => []) (by decide +kernel) (by decide +kernel) (o_10_2 hN h0) ⟨rfl, rfl, rfl, rfl, rfl, rfl⟩ (fun _ => rfl) (t_49 hN (h0 := (o_10_2 hN h0)) (h1 := (o_10_1 hN h0))) (fun m1 => ?_)
  refine i_bl (pc' := 32) [(.aload_n 0, 1)] [some (.ref a0), some (.int x1), some (.int x2), some (.int x3), some (.int x4), some (.int x5), none] [.ref a0] (by decide +kernel) rfl ?_
  refine i_gr (idx := 23) (ci := 10) (k := 2) (t := 2) (p := 12130) (pc' := 35) (by decide +kernel) h0 ?_
  refine i_bl (pc' := 36) [(.aload_n 0, 1)] [some (.ref a0), some (.int x1), some (.int x2), some (.int x3), some (.int x4), some (.int x5), none] [.ref a0, .ref (sh_r a0 2)] (by decide +kernel) rfl ?_
  refine i_gr (idx := 43) (ci := 10) (k := 6) (t := 2) (p := 12134) (pc' := 39) (by decide +kernel) h0 ?_
  refine i_bl (pc' := 41) [(.iload_n 1, 1), (.iload_n 2, 1)] [some (.ref a0), some (.int x1), some (.int x2), some (.int x3), some (.int x4), some (.int x5), none] [.int x2, .int x1, .ref (sh_r a0 6), .ref (sh_r a0 2)] (by decide +kernel) rfl ?_
  refine i_cs (t := 12) (na := 2) (ml := 2) (idx := 73) (pc' := 44) (st' := [.ref (sh_r a0 6), .ref (sh_r a0 2)]) (en := [some (.int x1), some (.int x2)]) (av := [.int x1, .int x2]) (vo := fun v => some (.int v)) (mo := fun _ => m1) (s2 := fun v => .int v :: [.ref (sh_r a0 6), .ref (sh_r a0 2)]) (by decide +kernel) ⟨rfl, rfl, rfl, rfl, rfl, rfl⟩ (fun _ => rfl) (t_12 hN ) (fun v2 => ?_)
  refine i_bl (pc' := 47) [(.iload_n 3, 1), (.iload 4, 2)] [some (.ref a0), some (.int x1), some (.int x2), some (.int x3), some (.int x4), some (.int x5), none] [.int x4, .int x3, .int v2, .ref (sh_r a0 6), .ref (sh_r a0 2)] (by decide +kernel) rfl ?_
  refine i_cs (t := 12) (na := 2) (ml := 2) (idx := 73) (pc' := 50) (st' := [.int v2, .ref (sh_r a0 6), .ref (sh_r a0 2)]) (en := [some (.int x3), some (.int x4)]) (av := [.int x3, .int x4]) (vo := fun v => some (.int v)) (mo := fun _ => m1) (s2 := fun v => .int v :: [.int v2, .ref (sh_r a0 6), .ref (sh_r a0 2)]) (by decide +kernel) ⟨rfl, rfl, rfl, rfl, rfl, rfl⟩ (fun _ => rfl) (t_12 hN ) (fun v3 => ?_)
  refine i_cv (ci := 3) (t := 60) (na := 4) (ml := 7) (idx := 304) (pc' := 53) (st' := []) (en := [some (.ref (sh_r a0 2)), some (.ref (sh_r a0 6)), some (.int v2), some (.int v3), none, none, none]) (av := [.ref (sh_r a0 6), .int v2, .int v3]) (vo := fun v => some (.int v.1)) (mo := fun v => v.2) (s2 := fun v => .int v.1 :: []) (by decide +kernel) (by decide +kernel) (o_10_2 hN h0) ⟨rfl, rfl, rfl, rfl, rfl, rfl⟩ (fun _ => rfl) (t_60 hN (h0 := (o_10_2 hN h0)) (h1 := (o_10_6 hN h0))) (fun r4 => ?_)
  refine i_bl (pc' := 57) [(.istore 6, 2), (.iload 5, 2)] [some (.ref a0), some (.int x1), some (.int x2), some (.int x3), some (.int x4), some (.int x5), some (.int r4.1)] [.int x5] (by decide +kernel) rfl ?_
  refine i_sw (n := 27) (dd := (54)) (lo0 := (0)) (hi0 := (2)) (offs := #[(27), (30), (46)]) (d := 111) (ts := [84, 87, 103]) (cs := [(0, 84), (1, 87), (2, 103)]) (by decide +kernel) ?_
  refine i_sc (c := 0) (by decide +kernel) ?_ ?_
  · refine i_bl (pc' := 86) [(.iload 6, 2)] [some (.ref a0), some (.int x1), some (.int x2), some (.int x3), some (.int x4), some (.int x5), some (.int r4.1)] [.int r4.1] (by decide +kernel) rfl ?_
    exact i_ri (by decide +kernel) rfl
  refine i_sc (c := 1) (by decide +kernel) ?_ ?_
  · refine i_bl (pc' := 88) [(.aload_n 0, 1)] [some (.ref a0), some (.int x1), some (.int x2), some (.int x3), some (.int x4), some (.int x5), some (.int r4.1)] [.ref a0] (by decide +kernel) rfl ?_
    refine i_gr (idx := 23) (ci := 10) (k := 2) (t := 2) (p := 12130) (pc' := 91) (by decide +kernel) h0 ?_
    refine i_gf (idx := 128) (ci := 3) (k := 5) (t := 0) (p := 11188) (pc' := 94) (by decide +kernel) (o_10_2 hN h0) ?_
    refine i_bl (pc' := 95) [(.aload_n 0, 1)] [some (.ref a0), some (.int x1), some (.int x2), some (.int x3), some (.int x4), some (.int x5), some (.int r4.1)] [.ref a0, .int (r4.2 (sh_r a0 2) 5)] (by decide +kernel) rfl ?_
    refine i_gr (idx := 19) (ci := 10) (k := 1) (t := 2) (p := 12129) (pc' := 98) (by decide +kernel) h0 ?_
    refine i_gf (idx := 128) (ci := 3) (k := 5) (t := 0) (p := 11188) (pc' := 101) (by decide +kernel) (o_10_1 hN h0) ?_
    refine i_bl (pc' := 102) [(.isub, 1)] [some (.ref a0), some (.int x1), some (.int x2), some (.int x3), some (.int x4), some (.int x5), some (.int r4.1)] [.int ((r4.2 (sh_r a0 2) 5) - (r4.2 (sh_r a0 1) 5))] (by decide +kernel) rfl ?_
    exact i_ri (by decide +kernel) rfl
  refine i_sc (c := 2) (by decide +kernel) ?_ ?_
  · refine i_bl (pc' := 104) [(.aload_n 0, 1)] [some (.ref a0), some (.int x1), some (.int x2), some (.int x3), some (.int x4), some (.int x5), some (.int r4.1)] [.ref a0] (by decide +kernel) rfl ?_
    refine i_gr (idx := 23) (ci := 10) (k := 2) (t := 2) (p := 12130) (pc' := 107) (by decide +kernel) h0 ?_
    refine i_cv (ci := 3) (t := 54) (na := 1) (ml := 1) (idx := 259) (pc' := 110) (st' := []) (en := [some (.ref (sh_r a0 2))]) (av := []) (vo := fun v => some (.int v)) (mo := fun _ => r4.2) (s2 := fun v => .int v :: []) (by decide +kernel) (by decide +kernel) (o_10_2 hN h0) ⟨rfl, rfl, rfl, rfl, rfl, rfl⟩ (fun _ => rfl) (t_54 hN (h0 := (o_10_2 hN h0))) (fun v5 => ?_)
    exact i_ri (by decide +kernel) rfl
  refine i_s0 ?_
  refine i_bl (pc' := 112) [(.aload_n 0, 1)] [some (.ref a0), some (.int x1), some (.int x2), some (.int x3), some (.int x4), some (.int x5), some (.int r4.1)] [.ref a0] (by decide +kernel) rfl ?_
  refine i_gr (idx := 23) (ci := 10) (k := 2) (t := 2) (p := 12130) (pc' := 115) (by decide +kernel) h0 ?_
  refine i_gf (idx := 134) (ci := 3) (k := 7) (t := 0) (p := 11192) (pc' := 118) (by decide +kernel) (o_10_2 hN h0) ?_
  refine i_if (c := .ne) (off := 7) (t := 125) (pc' := 121) (p := ¬ (r4.2 (sh_r a0 2) 7) = 0) (by decide +kernel) rfl ?_ ?_
  · refine i_bl (pc' := 126) [(.iconst 1, 1)] [some (.ref a0), some (.int x1), some (.int x2), some (.int x3), some (.int x4), some (.int x5), some (.int r4.1)] [.int 1] (by decide +kernel) rfl ?_
    exact i_ri (by decide +kernel) rfl
  · refine i_bl (pc' := 122) [(.iconst 0, 1)] [some (.ref a0), some (.int x1), some (.int x2), some (.int x3), some (.int x4), some (.int x5), some (.int r4.1)] [.int 0] (by decide +kernel) rfl ?_
    refine i_go (t := 126) (off := 4) (by decide +kernel) ?_
    exact i_ri (by decide +kernel) rfl

/-! 149 LanternChess.delay(IIIII)I -/
noncomputable def E_149_57 (L nx b z : Nat) (a0 : Nat) (x5 : Int32) (x6 : Int32) (x7 : Int32) (d : Option Value × Option Value × Option Value × Option Value × Option Value) (s : (Int32 × Mm)) : ev_Q := ev_dn b z 149 57 [some (.ref a0), d.1, d.2.1, d.2.2.1, d.2.2.2.1, some (.int x5), some (.int x6), some (.int x7), some (.int s.1), d.2.2.2.2] [] (nx, mem L nx s.2)
noncomputable def s_149_57 (a0 : Nat) (x5 : Int32) (x6 : Int32) (x7 : Int32) (x8 : Int32) (m : Mm) : Option ((Int32 × Mm) ⊕ (Int32 × Mm)) := if x5 < x8 then (some (.inr ((-1), m))) else ((d_59 (sh_r a0 1) (sh_r a0 6) x6 x7 ((m (sh_r a0 1) 5) + x8) m).bind fun m4 => (d_52 (sh_r a0 1) (m4 (sh_r a0 1) 6) m4).bind fun v5 => wb (v5 - x8) fun y6 => zb (m4 (sh_r a0 6) 6) fun B7 => if B7 = true then (if y6 ≤ (m4 (sh_r a0 6) 7) then (wb (x8 + 1) fun y9 => some (.inl (y9, m4))) else (some (.inr (x8, m4)))) else (wb (x8 + 1) fun y8 => some (.inl (y8, m4))))
noncomputable def d_149_57 (a0 : Nat) (x5 : Int32) (x6 : Int32) (x7 : Int32) (x8 : Int32) (m : Mm) : Option (Int32 × Mm) := it (fun s => s_149_57 a0 x5 x6 x7 s.1 s.2) (x8, m)
theorem e_149_57 (a0 : Nat) (x5 : Int32) (x6 : Int32) (x7 : Int32) (x8 : Int32) (m : Mm) : d_149_57 a0 x5 x6 x7 x8 m = oi (s_149_57 a0 x5 x6 x7 x8 m) (fun s => d_149_57 a0 x5 x6 x7 s.1 s.2) := it_eq _
theorem u_149_57 {L nx : Nat} (hN : okn nx) {b z : Nat} {m : Mm} {a0 : Nat} (h0 : ok nx a0 10) {x5 : Int32} {x6 : Int32} {x7 : Int32} {x8 : Int32} {o1 : Option Value} {o2 : Option Value} {o3 : Option Value} {o4 : Option Value} {o9 : Option Value} : Im (s_149_57 a0 x5 x6 x7 x8 m) (kL (wI L nx) (E_149_57 L nx b z a0 x5 x6 x7)) (ev_dn b z 149 57 [some (.ref a0), o1, o2, o3, o4, some (.int x5), some (.int x6), some (.int x7), some (.int x8), o9] [] (nx, mem L nx m)) := by
  unfold s_149_57
  refine i_bl (pc' := 61) [(.iload 8, 2), (.iload 5, 2)] [some (.ref a0), o1, o2, o3, o4, some (.int x5), some (.int x6), some (.int x7), some (.int x8), o9] [.int x5, .int x8] (by decide +kernel) rfl ?_
  refine i_ic (c := .gt) (off := 78) (t := 139) (pc' := 64) (p := x5 < x8) (by decide +kernel) rfl ?_ ?_
  · refine i_bl (pc' := 140) [(.iconst (-1), 1)] [some (.ref a0), o1, o2, o3, o4, some (.int x5), some (.int x6), some (.int x7), some (.int x8), o9] [.int (-1)] (by decide +kernel) rfl ?_
    exact i_ir (i_ri (by decide +kernel) rfl)
  · refine i_bl (pc' := 65) [(.aload_n 0, 1)] [some (.ref a0), o1, o2, o3, o4, some (.int x5), some (.int x6), some (.int x7), some (.int x8), o9] [.ref a0] (by decide +kernel) rfl ?_
    refine i_gr (idx := 19) (ci := 10) (k := 1) (t := 2) (p := 12129) (pc' := 68) (by decide +kernel) h0 ?_
    refine i_bl (pc' := 69) [(.aload_n 0, 1)] [some (.ref a0), o1, o2, o3, o4, some (.int x5), some (.int x6), some (.int x7), some (.int x8), o9] [.ref a0, .ref (sh_r a0 1)] (by decide +kernel) rfl ?_
    refine i_gr (idx := 43) (ci := 10) (k := 6) (t := 2) (p := 12134) (pc' := 72) (by decide +kernel) h0 ?_
    refine i_bl (pc' := 77) [(.iload 6, 2), (.iload 7, 2), (.aload_n 0, 1)] [some (.ref a0), o1, o2, o3, o4, some (.int x5), some (.int x6), some (.int x7), some (.int x8), o9] [.ref a0, .int x7, .int x6, .ref (sh_r a0 6), .ref (sh_r a0 1)] (by decide +kernel) rfl ?_
    refine i_gr (idx := 19) (ci := 10) (k := 1) (t := 2) (p := 12129) (pc' := 80) (by decide +kernel) h0 ?_
    refine i_gf (idx := 128) (ci := 3) (k := 5) (t := 0) (p := 11188) (pc' := 83) (by decide +kernel) (o_10_1 hN h0) ?_
    refine i_bl (pc' := 86) [(.iload 8, 2), (.iadd, 1)] [some (.ref a0), o1, o2, o3, o4, some (.int x5), some (.int x6), some (.int x7), some (.int x8), o9] [.int ((m (sh_r a0 1) 5) + x8), .int x7, .int x6, .ref (sh_r a0 6), .ref (sh_r a0 1)] (by decide +kernel) rfl ?_
    refine i_cv (ci := 3) (t := 59) (na := 5) (ml := 8) (idx := 297) (pc' := 89) (st' := []) (en := [some (.ref (sh_r a0 1)), some (.ref (sh_r a0 6)), some (.int x6), some (.int x7), some (.int ((m (sh_r a0 1) 5) + x8)), none, none, none]) (av := [.ref (sh_r a0 6), .int x6, .int x7, .int ((m (sh_r a0 1) 5) + x8)]) (vo := fun _ => none) (mo := fun m => m) (s2 := fun _ => []) (by decide +kernel) (by decide +kernel) (o_10_1 hN h0) ⟨rfl, rfl, rfl, rfl, rfl, rfl⟩ (fun _ => rfl) (t_59 hN (h0 := (o_10_1 hN h0)) (h1 := (o_10_6 hN h0))) (fun m4 => ?_)
    refine i_bl (pc' := 90) [(.aload_n 0, 1)] [some (.ref a0), o1, o2, o3, o4, some (.int x5), some (.int x6), some (.int x7), some (.int x8), o9] [.ref a0] (by decide +kernel) rfl ?_
    refine i_gr (idx := 19) (ci := 10) (k := 1) (t := 2) (p := 12129) (pc' := 93) (by decide +kernel) h0 ?_
    refine i_bl (pc' := 94) [(.aload_n 0, 1)] [some (.ref a0), o1, o2, o3, o4, some (.int x5), some (.int x6), some (.int x7), some (.int x8), o9] [.ref a0, .ref (sh_r a0 1)] (by decide +kernel) rfl ?_
    refine i_gr (idx := 19) (ci := 10) (k := 1) (t := 2) (p := 12129) (pc' := 97) (by decide +kernel) h0 ?_
    refine i_gf (idx := 131) (ci := 3) (k := 6) (t := 0) (p := 11190) (pc' := 100) (by decide +kernel) (o_10_1 hN h0) ?_
    refine i_cv (ci := 3) (t := 52) (na := 2) (ml := 2) (idx := 187) (pc' := 103) (st' := []) (en := [some (.ref (sh_r a0 1)), some (.int (m4 (sh_r a0 1) 6))]) (av := [.int (m4 (sh_r a0 1) 6)]) (vo := fun v => some (.int v)) (mo := fun _ => m4) (s2 := fun v => .int v :: []) (by decide +kernel) (by decide +kernel) (o_10_1 hN h0) ⟨rfl, rfl, rfl, rfl, rfl, rfl⟩ (fun _ => rfl) (t_52 hN (h0 := (o_10_1 hN h0))) (fun v5 => ?_)
    refine i_bl (pc' := 108) [(.iload 8, 2), (.isub, 1), (.istore 9, 2)] [some (.ref a0), o1, o2, o3, o4, some (.int x5), some (.int x6), some (.int x7), some (.int x8), some (.int (v5 - x8))] [] (by decide +kernel) rfl ?_
    refine i_wb (fun y6 => ev_dn b z 149 108 [some (.ref a0), o1, o2, o3, o4, some (.int x5), some (.int x6), some (.int x7), some (.int x8), some (.int y6)] [] (nx, mem L nx m4)) (fun y6 => ?_)
    refine i_bl (pc' := 109) [(.aload_n 0, 1)] [some (.ref a0), o1, o2, o3, o4, some (.int x5), some (.int x6), some (.int x7), some (.int x8), some (.int y6)] [.ref a0] (by decide +kernel) rfl ?_
    refine i_gr (idx := 43) (ci := 10) (k := 6) (t := 2) (p := 12134) (pc' := 112) (by decide +kernel) h0 ?_
    refine i_gz (idx := 312) (ci := 7) (k := 6) (t := 1) (p := 12031) (pc' := 115) (by decide +kernel) (o_10_6 hN h0) (fun B7 => ?_)
    refine i_bz (off := 18) (t := 133) (pc' := 118) (by decide +kernel) ?_ ?_
    · refine i_bl (pc' := 121) [(.iload 9, 2), (.aload_n 0, 1)] [some (.ref a0), o1, o2, o3, o4, some (.int x5), some (.int x6), some (.int x7), some (.int x8), some (.int y6)] [.ref a0, .int y6] (by decide +kernel) rfl ?_
      refine i_gr (idx := 43) (ci := 10) (k := 6) (t := 2) (p := 12134) (pc' := 124) (by decide +kernel) h0 ?_
      refine i_gf (idx := 315) (ci := 7) (k := 7) (t := 0) (p := 12034) (pc' := 127) (by decide +kernel) (o_10_6 hN h0) ?_
      refine i_ic (c := .le) (off := 6) (t := 133) (pc' := 130) (p := y6 ≤ (m4 (sh_r a0 6) 7)) (by decide +kernel) rfl ?_ ?_
      · refine i_bl (pc' := 136) [(.iinc 8 (1), 3)] [some (.ref a0), o1, o2, o3, o4, some (.int x5), some (.int x6), some (.int x7), some (.int (x8 + 1)), some (.int y6)] [] (by decide +kernel) rfl ?_
        refine i_wb (fun y9 => ev_dn b z 149 136 [some (.ref a0), o1, o2, o3, o4, some (.int x5), some (.int x6), some (.int x7), some (.int y9), some (.int y6)] [] (nx, mem L nx m4)) (fun y9 => ?_)
        refine i_go (t := 57) (off := -79) (by decide +kernel) ?_
        exact i_co (o1, o2, o3, o4, some (.int y6)) rfl
      · refine i_bl (pc' := 132) [(.iload 8, 2)] [some (.ref a0), o1, o2, o3, o4, some (.int x5), some (.int x6), some (.int x7), some (.int x8), some (.int y6)] [.int x8] (by decide +kernel) rfl ?_
        exact i_ir (i_ri (by decide +kernel) rfl)
    · refine i_bl (pc' := 136) [(.iinc 8 (1), 3)] [some (.ref a0), o1, o2, o3, o4, some (.int x5), some (.int x6), some (.int x7), some (.int (x8 + 1)), some (.int y6)] [] (by decide +kernel) rfl ?_
      refine i_wb (fun y8 => ev_dn b z 149 136 [some (.ref a0), o1, o2, o3, o4, some (.int x5), some (.int x6), some (.int x7), some (.int y8), some (.int y6)] [] (nx, mem L nx m4)) (fun y8 => ?_)
      refine i_go (t := 57) (off := -79) (by decide +kernel) ?_
      exact i_co (o1, o2, o3, o4, some (.int y6)) rfl

theorem t_149_57 {L nx : Nat} (hN : okn nx) {b z : Nat} {m : Mm} {a0 : Nat} (h0 : ok nx a0 10) {x5 : Int32} {x6 : Int32} {x7 : Int32} {x8 : Int32} {o1 : Option Value} {o2 : Option Value} {o3 : Option Value} {o4 : Option Value} {o9 : Option Value} : Im (d_149_57 a0 x5 x6 x7 x8 m) (wI L nx) (ev_dn b z 149 57 [some (.ref a0), o1, o2, o3, o4, some (.int x5), some (.int x6), some (.int x7), some (.int x8), o9] [] (nx, mem L nx m)) := by
  exact i_it (f := fun s => s_149_57 a0 x5 x6 x7 s.1 s.2) (E := E_149_57 L nx b z a0 x5 x6 x7) (K := (wI L nx)) (fun d s => u_149_57 hN (h0 := h0)) (o1, o2, o3, o4, o9) (x8, m)
noncomputable def d_149 (a0 : Nat) (x1 : Int32) (x2 : Int32) (x3 : Int32) (x4 : Int32) (x5 : Int32) (m : Mm) : Option (Int32 × Mm) := (d_179 a0 x1 x2 x3 x4 m).bind fun _ => (d_177 x5 0 200).bind fun _ => (d_180 a0 m).bind fun _ => (d_12 x1 x2).bind fun v1 => (d_12 x3 x4).bind fun v2 => (d_56 (sh_r a0 1) v1 v2 m).bind fun v3 => if v3 = true then (d_149_57 a0 x5 v1 v2 0 m) else (some ((-2), m))
theorem t_149 {L nx : Nat} (hN : okn nx) {b z : Nat} {m : Mm} {a0 : Nat} (h0 : ok nx a0 10) {x1 : Int32} {x2 : Int32} {x3 : Int32} {x4 : Int32} {x5 : Int32}  : Im (d_149 a0 x1 x2 x3 x4 x5 m) (wI L nx) (ev_dn b z 149 0 [some (.ref a0), some (.int x1), some (.int x2), some (.int x3), some (.int x4), some (.int x5), none, none, none, none] [] (nx, mem L nx m)) := by
  unfold d_149
  refine i_bl (pc' := 6) [(.aload_n 0, 1), (.iload_n 1, 1), (.iload_n 2, 1), (.iload_n 3, 1), (.iload 4, 2)] [some (.ref a0), some (.int x1), some (.int x2), some (.int x3), some (.int x4), some (.int x5), none, none, none, none] [.int x4, .int x3, .int x2, .int x1, .ref a0] (by decide +kernel) rfl ?_
  refine i_cv (ci := 10) (t := 179) (na := 5) (ml := 5) (idx := 201) (pc' := 9) (st' := []) (en := [some (.ref a0), some (.int x1), some (.int x2), some (.int x3), some (.int x4)]) (av := [.int x1, .int x2, .int x3, .int x4]) (vo := fun _ => none) (mo := fun _ => m) (s2 := fun _ => []) (by decide +kernel) (by decide +kernel) h0 ⟨rfl, rfl, rfl, rfl, rfl, rfl⟩ (fun _ => rfl) (t_179 hN (h0 := h0)) (fun _ => ?_)
  refine i_bl (pc' := 15) [(.iload 5, 2), (.iconst 0, 1), (.sipush (200), 3)] [some (.ref a0), some (.int x1), some (.int x2), some (.int x3), some (.int x4), some (.int x5), none, none, none, none] [.int 200, .int 0, .int x5] (by decide +kernel) rfl ?_
  refine i_cs (t := 177) (na := 3) (ml := 3) (idx := 217) (pc' := 18) (st' := []) (en := [some (.int x5), some (.int 0), some (.int 200)]) (av := [.int x5, .int 0, .int 200]) (vo := fun _ => none) (mo := fun _ => m) (s2 := fun _ => []) (by decide +kernel) ⟨rfl, rfl, rfl, rfl, rfl, rfl⟩ (fun _ => rfl) (t_177 hN ) (fun _ => ?_)
  refine i_bl (pc' := 19) [(.aload_n 0, 1)] [some (.ref a0), some (.int x1), some (.int x2), some (.int x3), some (.int x4), some (.int x5), none, none, none, none] [.ref a0] (by decide +kernel) rfl ?_
  refine i_cv (ci := 10) (t := 180) (na := 1) (ml := 1) (idx := 301) (pc' := 22) (st' := []) (en := [some (.ref a0)]) (av := []) (vo := fun _ => none) (mo := fun _ => m) (s2 := fun _ => []) (by decide +kernel) (by decide +kernel) h0 ⟨rfl, rfl, rfl, rfl, rfl, rfl⟩ (fun _ => rfl) (t_180 hN (h0 := h0)) (fun _ => ?_)
  refine i_bl (pc' := 24) [(.iload_n 1, 1), (.iload_n 2, 1)] [some (.ref a0), some (.int x1), some (.int x2), some (.int x3), some (.int x4), some (.int x5), none, none, none, none] [.int x2, .int x1] (by decide +kernel) rfl ?_
  refine i_cs (t := 12) (na := 2) (ml := 2) (idx := 73) (pc' := 27) (st' := []) (en := [some (.int x1), some (.int x2)]) (av := [.int x1, .int x2]) (vo := fun v => some (.int v)) (mo := fun _ => m) (s2 := fun v => .int v :: []) (by decide +kernel) ⟨rfl, rfl, rfl, rfl, rfl, rfl⟩ (fun _ => rfl) (t_12 hN ) (fun v1 => ?_)
  refine i_bl (pc' := 32) [(.istore 6, 2), (.iload_n 3, 1), (.iload 4, 2)] [some (.ref a0), some (.int x1), some (.int x2), some (.int x3), some (.int x4), some (.int x5), some (.int v1), none, none, none] [.int x4, .int x3] (by decide +kernel) rfl ?_
  refine i_cs (t := 12) (na := 2) (ml := 2) (idx := 73) (pc' := 35) (st' := []) (en := [some (.int x3), some (.int x4)]) (av := [.int x3, .int x4]) (vo := fun v => some (.int v)) (mo := fun _ => m) (s2 := fun v => .int v :: []) (by decide +kernel) ⟨rfl, rfl, rfl, rfl, rfl, rfl⟩ (fun _ => rfl) (t_12 hN ) (fun v2 => ?_)
  refine i_bl (pc' := 38) [(.istore 7, 2), (.aload_n 0, 1)] [some (.ref a0), some (.int x1), some (.int x2), some (.int x3), some (.int x4), some (.int x5), some (.int v1), some (.int v2), none, none] [.ref a0] (by decide +kernel) rfl ?_
  refine i_gr (idx := 19) (ci := 10) (k := 1) (t := 2) (p := 12129) (pc' := 41) (by decide +kernel) h0 ?_
  refine i_bl (pc' := 45) [(.iload 6, 2), (.iload 7, 2)] [some (.ref a0), some (.int x1), some (.int x2), some (.int x3), some (.int x4), some (.int x5), some (.int v1), some (.int v2), none, none] [.int v2, .int v1, .ref (sh_r a0 1)] (by decide +kernel) rfl ?_
  refine i_cv (ci := 3) (t := 56) (na := 3) (ml := 3) (idx := 308) (pc' := 48) (st' := []) (en := [some (.ref (sh_r a0 1)), some (.int v1), some (.int v2)]) (av := [.int v1, .int v2]) (vo := fun v => some (.int (bi v))) (mo := fun _ => m) (s2 := fun v => .int (bi v) :: []) (by decide +kernel) (by decide +kernel) (o_10_1 hN h0) ⟨rfl, rfl, rfl, rfl, rfl, rfl⟩ (fun _ => rfl) (t_56 hN (h0 := (o_10_1 hN h0))) (fun v3 => ?_)
  refine i_bn (off := 6) (t := 54) (pc' := 51) (by decide +kernel) ?_ ?_
  · refine i_bl (pc' := 57) [(.iconst 0, 1), (.istore 8, 2)] [some (.ref a0), some (.int x1), some (.int x2), some (.int x3), some (.int x4), some (.int x5), some (.int v1), some (.int v2), some (.int 0), none] [] (by decide +kernel) rfl ?_
    exact t_149_57 hN (h0 := h0)
  · refine i_bl (pc' := 53) [(.bipush (-2), 2)] [some (.ref a0), some (.int x1), some (.int x2), some (.int x3), some (.int x4), some (.int x5), some (.int v1), some (.int v2), none, none] [.int (-2)] (by decide +kernel) rfl ?_
    exact i_ri (by decide +kernel) rfl

/-! 150 LanternChess.sent(II)I -/
noncomputable def d_150 (a0 : Nat) (x1 : Int32) (x2 : Int32) (m : Mm) : Option Int32 := (d_176 x1 (m (sh_r (sh_r a0 1) 3) 1)).bind fun _ => (d_177 x2 0 7).bind fun _ => (d_72 (sh_r (sh_r a0 1) 3) x1 x2 m).bind fun v1 => some v1
theorem t_150 {L nx : Nat} (hN : okn nx) {b z : Nat} {m : Mm} {a0 : Nat} (h0 : ok nx a0 10) {x1 : Int32} {x2 : Int32}  : Im (d_150 a0 x1 x2 m) (kI L nx m) (ev_dn b z 150 0 [some (.ref a0), some (.int x1), some (.int x2)] [] (nx, mem L nx m)) := by
  unfold d_150
  refine i_bl (pc' := 2) [(.iload_n 1, 1), (.aload_n 0, 1)] [some (.ref a0), some (.int x1), some (.int x2)] [.ref a0, .int x1] (by decide +kernel) rfl ?_
  refine i_gr (idx := 19) (ci := 10) (k := 1) (t := 2) (p := 12129) (pc' := 5) (by decide +kernel) h0 ?_
  refine i_gr (idx := 170) (ci := 3) (k := 3) (t := 2) (p := 11184) (pc' := 8) (by decide +kernel) (o_10_1 hN h0) ?_
  refine i_gf (idx := 173) (ci := 5) (k := 1) (t := 0) (p := 11165) (pc' := 11) (by decide +kernel) (o_3_3 hN (o_10_1 hN h0)) ?_
  refine i_cs (t := 176) (na := 2) (ml := 2) (idx := 214) (pc' := 14) (st' := []) (en := [some (.int x1), some (.int (m (sh_r (sh_r a0 1) 3) 1))]) (av := [.int x1, .int (m (sh_r (sh_r a0 1) 3) 1)]) (vo := fun _ => none) (mo := fun _ => m) (s2 := fun _ => []) (by decide +kernel) ⟨rfl, rfl, rfl, rfl, rfl, rfl⟩ (fun _ => rfl) (t_176 hN ) (fun _ => ?_)
  refine i_bl (pc' := 18) [(.iload_n 2, 1), (.iconst 0, 1), (.bipush (7), 2)] [some (.ref a0), some (.int x1), some (.int x2)] [.int 7, .int 0, .int x2] (by decide +kernel) rfl ?_
  refine i_cs (t := 177) (na := 3) (ml := 3) (idx := 217) (pc' := 21) (st' := []) (en := [some (.int x2), some (.int 0), some (.int 7)]) (av := [.int x2, .int 0, .int 7]) (vo := fun _ => none) (mo := fun _ => m) (s2 := fun _ => []) (by decide +kernel) ⟨rfl, rfl, rfl, rfl, rfl, rfl⟩ (fun _ => rfl) (t_177 hN ) (fun _ => ?_)
  refine i_bl (pc' := 22) [(.aload_n 0, 1)] [some (.ref a0), some (.int x1), some (.int x2)] [.ref a0] (by decide +kernel) rfl ?_
  refine i_gr (idx := 19) (ci := 10) (k := 1) (t := 2) (p := 12129) (pc' := 25) (by decide +kernel) h0 ?_
  refine i_gr (idx := 170) (ci := 3) (k := 3) (t := 2) (p := 11184) (pc' := 28) (by decide +kernel) (o_10_1 hN h0) ?_
  refine i_bl (pc' := 30) [(.iload_n 1, 1), (.iload_n 2, 1)] [some (.ref a0), some (.int x1), some (.int x2)] [.int x2, .int x1, .ref (sh_r (sh_r a0 1) 3)] (by decide +kernel) rfl ?_
  refine i_cv (ci := 5) (t := 72) (na := 3) (ml := 4) (idx := 318) (pc' := 33) (st' := []) (en := [some (.ref (sh_r (sh_r a0 1) 3)), some (.int x1), some (.int x2), none]) (av := [.int x1, .int x2]) (vo := fun v => some (.int v)) (mo := fun _ => m) (s2 := fun v => .int v :: []) (by decide +kernel) (by decide +kernel) (o_3_3 hN (o_10_1 hN h0)) ⟨rfl, rfl, rfl, rfl, rfl, rfl⟩ (fun _ => rfl) (t_72 hN (h0 := (o_3_3 hN (o_10_1 hN h0)))) (fun v1 => ?_)
  exact i_ri (by decide +kernel) rfl

/-! 151 LanternChess.made(II)I -/
noncomputable def d_151_43 (a0 : Nat) (x3 : Int32) (m : Mm) : Option Int32 := (d_16 (sh_r (sh_r (sh_r a0 1) 0) 0) x3 m).bind fun v2 => some v2
theorem t_151_43 {L nx : Nat} (hN : okn nx) {b z : Nat} {m : Mm} {a0 : Nat} (h0 : ok nx a0 10) {x3 : Int32} {o1 : Option Value} {o2 : Option Value} : Im (d_151_43 a0 x3 m) (kI L nx m) (ev_dn b z 151 43 [some (.ref a0), o1, o2, some (.int x3)] [] (nx, mem L nx m)) := by
  unfold d_151_43
  refine i_bl (pc' := 44) [(.aload_n 0, 1)] [some (.ref a0), o1, o2, some (.int x3)] [.ref a0] (by decide +kernel) rfl ?_
  refine i_gr (idx := 19) (ci := 10) (k := 1) (t := 2) (p := 12129) (pc' := 47) (by decide +kernel) h0 ?_
  refine i_gr (idx := 112) (ci := 3) (k := 0) (t := 2) (p := 11177) (pc' := 50) (by decide +kernel) (o_10_1 hN h0) ?_
  refine i_gr (idx := 116) (ci := 0) (k := 0) (t := 2) (p := 11116) (pc' := 53) (by decide +kernel) (o_3_0 hN (o_10_1 hN h0)) ?_
  refine i_bl (pc' := 54) [(.iload_n 3, 1)] [some (.ref a0), o1, o2, some (.int x3)] [.int x3, .ref (sh_r (sh_r (sh_r a0 1) 0) 0)] (by decide +kernel) rfl ?_
  refine i_cv (ci := 1) (t := 16) (na := 2) (ml := 2) (idx := 237) (pc' := 57) (st' := []) (en := [some (.ref (sh_r (sh_r (sh_r a0 1) 0) 0)), some (.int x3)]) (av := [.int x3]) (vo := fun v => some (.int v)) (mo := fun _ => m) (s2 := fun v => .int v :: []) (by decide +kernel) (by decide +kernel) (o_0_0 hN (o_3_0 hN (o_10_1 hN h0))) ⟨rfl, rfl, rfl, rfl, rfl, rfl⟩ (fun _ => rfl) (t_16 hN (h0 := (o_0_0 hN (o_3_0 hN (o_10_1 hN h0))))) (fun v2 => ?_)
  refine i_go (t := 61) (off := 4) (by decide +kernel) ?_
  exact i_ri (by decide +kernel) rfl

noncomputable def d_151 (a0 : Nat) (x1 : Int32) (x2 : Int32) (m : Mm) : Option Int32 := (d_176 x1 (m (sh_r (sh_r a0 1) 4) 1)).bind fun _ => (d_177 x2 0 5).bind fun _ => (d_72 (sh_r (sh_r a0 1) 4) x1 x2 m).bind fun v1 => if x2 = 1 then (d_151_43 a0 v1 m) else (if ¬ x2 = 2 then (some v1) else (d_151_43 a0 v1 m))
theorem t_151 {L nx : Nat} (hN : okn nx) {b z : Nat} {m : Mm} {a0 : Nat} (h0 : ok nx a0 10) {x1 : Int32} {x2 : Int32}  : Im (d_151 a0 x1 x2 m) (kI L nx m) (ev_dn b z 151 0 [some (.ref a0), some (.int x1), some (.int x2), none] [] (nx, mem L nx m)) := by
  unfold d_151
  refine i_bl (pc' := 2) [(.iload_n 1, 1), (.aload_n 0, 1)] [some (.ref a0), some (.int x1), some (.int x2), none] [.ref a0, .int x1] (by decide +kernel) rfl ?_
  refine i_gr (idx := 19) (ci := 10) (k := 1) (t := 2) (p := 12129) (pc' := 5) (by decide +kernel) h0 ?_
  refine i_gr (idx := 161) (ci := 3) (k := 4) (t := 2) (p := 11186) (pc' := 8) (by decide +kernel) (o_10_1 hN h0) ?_
  refine i_gf (idx := 173) (ci := 5) (k := 1) (t := 0) (p := 11165) (pc' := 11) (by decide +kernel) (o_3_4 hN (o_10_1 hN h0)) ?_
  refine i_cs (t := 176) (na := 2) (ml := 2) (idx := 214) (pc' := 14) (st' := []) (en := [some (.int x1), some (.int (m (sh_r (sh_r a0 1) 4) 1))]) (av := [.int x1, .int (m (sh_r (sh_r a0 1) 4) 1)]) (vo := fun _ => none) (mo := fun _ => m) (s2 := fun _ => []) (by decide +kernel) ⟨rfl, rfl, rfl, rfl, rfl, rfl⟩ (fun _ => rfl) (t_176 hN ) (fun _ => ?_)
  refine i_bl (pc' := 17) [(.iload_n 2, 1), (.iconst 0, 1), (.iconst 5, 1)] [some (.ref a0), some (.int x1), some (.int x2), none] [.int 5, .int 0, .int x2] (by decide +kernel) rfl ?_
  refine i_cs (t := 177) (na := 3) (ml := 3) (idx := 217) (pc' := 20) (st' := []) (en := [some (.int x2), some (.int 0), some (.int 5)]) (av := [.int x2, .int 0, .int 5]) (vo := fun _ => none) (mo := fun _ => m) (s2 := fun _ => []) (by decide +kernel) ⟨rfl, rfl, rfl, rfl, rfl, rfl⟩ (fun _ => rfl) (t_177 hN ) (fun _ => ?_)
  refine i_bl (pc' := 21) [(.aload_n 0, 1)] [some (.ref a0), some (.int x1), some (.int x2), none] [.ref a0] (by decide +kernel) rfl ?_
  refine i_gr (idx := 19) (ci := 10) (k := 1) (t := 2) (p := 12129) (pc' := 24) (by decide +kernel) h0 ?_
  refine i_gr (idx := 161) (ci := 3) (k := 4) (t := 2) (p := 11186) (pc' := 27) (by decide +kernel) (o_10_1 hN h0) ?_
  refine i_bl (pc' := 29) [(.iload_n 1, 1), (.iload_n 2, 1)] [some (.ref a0), some (.int x1), some (.int x2), none] [.int x2, .int x1, .ref (sh_r (sh_r a0 1) 4)] (by decide +kernel) rfl ?_
  refine i_cv (ci := 5) (t := 72) (na := 3) (ml := 4) (idx := 318) (pc' := 32) (st' := []) (en := [some (.ref (sh_r (sh_r a0 1) 4)), some (.int x1), some (.int x2), none]) (av := [.int x1, .int x2]) (vo := fun v => some (.int v)) (mo := fun _ => m) (s2 := fun v => .int v :: []) (by decide +kernel) (by decide +kernel) (o_3_4 hN (o_10_1 hN h0)) ⟨rfl, rfl, rfl, rfl, rfl, rfl⟩ (fun _ => rfl) (t_72 hN (h0 := (o_3_4 hN (o_10_1 hN h0)))) (fun v1 => ?_)
  refine i_bl (pc' := 35) [(.istore_n 3, 1), (.iload_n 2, 1), (.iconst 1, 1)] [some (.ref a0), some (.int x1), some (.int x2), some (.int v1)] [.int 1, .int x2] (by decide +kernel) rfl ?_
  refine i_ic (c := .eq) (off := 8) (t := 43) (pc' := 38) (p := x2 = 1) (by decide +kernel) rfl ?_ ?_
  · exact t_151_43 hN (h0 := h0)
  · refine i_bl (pc' := 40) [(.iload_n 2, 1), (.iconst 2, 1)] [some (.ref a0), some (.int x1), some (.int x2), some (.int v1)] [.int 2, .int x2] (by decide +kernel) rfl ?_
    refine i_ic (c := .ne) (off := 20) (t := 60) (pc' := 43) (p := ¬ x2 = 2) (by decide +kernel) rfl ?_ ?_
    · refine i_bl (pc' := 61) [(.iload_n 3, 1)] [some (.ref a0), some (.int x1), some (.int x2), some (.int v1)] [.int v1] (by decide +kernel) rfl ?_
      exact i_ri (by decide +kernel) rfl
    · exact t_151_43 hN (h0 := h0)

/-! 152 LanternChess.meanTries()D -/
noncomputable def d_152 (a0 : Nat) (m : Mm) : Option UInt64 := wb (m (sh_r (sh_r a0 1) 4) 1) fun y1 => if ¬ y1 = 0 then ((d_73 (sh_r (sh_r a0 1) 4) 4 m).bind fun v2 => if (FP.ddiv (FP.i2d v2) (FP.i2d y1)) &&& 0x7fffffffffffffff ≤ 0x7ff0000000000000 then (some (FP.ddiv (FP.i2d v2) (FP.i2d y1))) else none) else (some FP.dconst0)
theorem t_152 {L nx : Nat} (hN : okn nx) {b z : Nat} {m : Mm} {a0 : Nat} (h0 : ok nx a0 10)   : Im (d_152 a0 m) (kD L nx m) (ev_dn b z 152 0 [some (.ref a0), none] [] (nx, mem L nx m)) := by
  unfold d_152
  refine i_bl (pc' := 1) [(.aload_n 0, 1)] [some (.ref a0), none] [.ref a0] (by decide +kernel) rfl ?_
  refine i_gr (idx := 19) (ci := 10) (k := 1) (t := 2) (p := 12129) (pc' := 4) (by decide +kernel) h0 ?_
  refine i_gr (idx := 161) (ci := 3) (k := 4) (t := 2) (p := 11186) (pc' := 7) (by decide +kernel) (o_10_1 hN h0) ?_
  refine i_gf (idx := 173) (ci := 5) (k := 1) (t := 0) (p := 11165) (pc' := 10) (by decide +kernel) (o_3_4 hN (o_10_1 hN h0)) ?_
  refine i_bl (pc' := 11) [(.istore_n 1, 1)] [some (.ref a0), some (.int (m (sh_r (sh_r a0 1) 4) 1))] [] (by decide +kernel) rfl ?_
  refine i_wb (fun y1 => ev_dn b z 152 11 [some (.ref a0), some (.int y1)] [] (nx, mem L nx m)) (fun y1 => ?_)
  refine i_bl (pc' := 12) [(.iload_n 1, 1)] [some (.ref a0), some (.int y1)] [.int y1] (by decide +kernel) rfl ?_
  refine i_if (c := .ne) (off := 5) (t := 17) (pc' := 15) (p := ¬ y1 = 0) (by decide +kernel) rfl ?_ ?_
  · refine i_bl (pc' := 18) [(.aload_n 0, 1)] [some (.ref a0), some (.int y1)] [.ref a0] (by decide +kernel) rfl ?_
    refine i_gr (idx := 19) (ci := 10) (k := 1) (t := 2) (p := 12129) (pc' := 21) (by decide +kernel) h0 ?_
    refine i_gr (idx := 161) (ci := 3) (k := 4) (t := 2) (p := 11186) (pc' := 24) (by decide +kernel) (o_10_1 hN h0) ?_
    refine i_bl (pc' := 25) [(.iconst 4, 1)] [some (.ref a0), some (.int y1)] [.int 4, .ref (sh_r (sh_r a0 1) 4)] (by decide +kernel) rfl ?_
    refine i_cv (ci := 5) (t := 73) (na := 2) (ml := 4) (idx := 319) (pc' := 28) (st' := []) (en := [some (.ref (sh_r (sh_r a0 1) 4)), some (.int 4), none, none]) (av := [.int 4]) (vo := fun v => some (.int v)) (mo := fun _ => m) (s2 := fun v => .int v :: []) (by decide +kernel) (by decide +kernel) (o_3_4 hN (o_10_1 hN h0)) ⟨rfl, rfl, rfl, rfl, rfl, rfl⟩ (fun _ => rfl) (t_73 hN (h0 := (o_3_4 hN (o_10_1 hN h0)))) (fun v2 => ?_)
    refine i_bl (pc' := 31) [(.i2d, 1), (.iload_n 1, 1), (.i2d, 1)] [some (.ref a0), some (.int y1)] [.double (FP.i2d y1), .double (FP.i2d v2)] (by decide +kernel) rfl ?_
    refine i_dd (pc' := 32) (by decide +kernel) ?_
    exact i_rd (by decide +kernel) rfl
  · refine i_bl (pc' := 16) [(.dconst 0, 1)] [some (.ref a0), some (.int y1)] [.double FP.dconst0] (by decide +kernel) rfl ?_
    exact i_rd (by decide +kernel) rfl

/-! 153 LanternChess.hiddenShare()F -/
noncomputable def d_153 (a0 : Nat) (m : Mm) : Option UInt32 := (d_73 (sh_r (sh_r a0 1) 3) 2 m).bind fun v1 => (d_73 (sh_r (sh_r a0 1) 3) 5 m).bind fun v2 => wb (v1 + v2) fun y3 => if ¬ y3 = 0 then ((d_73 (sh_r (sh_r a0 1) 3) 3 m).bind fun v4 => (d_73 (sh_r (sh_r a0 1) 3) 6 m).bind fun v5 => wb ((y3 - v4) - v5) fun y6 => if (FP.fdiv (FP.i2f y6) (FP.i2f y3)) &&& 0x7fffffff ≤ 0x7f800000 then (some (FP.fdiv (FP.i2f y6) (FP.i2f y3))) else none) else (some FP.fconst0)
theorem t_153 {L nx : Nat} (hN : okn nx) {b z : Nat} {m : Mm} {a0 : Nat} (h0 : ok nx a0 10)   : Im (d_153 a0 m) (kF L nx m) (ev_dn b z 153 0 [some (.ref a0), none, none, none] [] (nx, mem L nx m)) := by
  unfold d_153
  refine i_bl (pc' := 1) [(.aload_n 0, 1)] [some (.ref a0), none, none, none] [.ref a0] (by decide +kernel) rfl ?_
  refine i_gr (idx := 19) (ci := 10) (k := 1) (t := 2) (p := 12129) (pc' := 4) (by decide +kernel) h0 ?_
  refine i_gr (idx := 170) (ci := 3) (k := 3) (t := 2) (p := 11184) (pc' := 7) (by decide +kernel) (o_10_1 hN h0) ?_
  refine i_bl (pc' := 10) [(.astore_n 1, 1), (.aload_n 1, 1), (.iconst 2, 1)] [some (.ref a0), some (.ref (sh_r (sh_r a0 1) 3)), none, none] [.int 2, .ref (sh_r (sh_r a0 1) 3)] (by decide +kernel) rfl ?_
  refine i_cv (ci := 5) (t := 73) (na := 2) (ml := 4) (idx := 319) (pc' := 13) (st' := []) (en := [some (.ref (sh_r (sh_r a0 1) 3)), some (.int 2), none, none]) (av := [.int 2]) (vo := fun v => some (.int v)) (mo := fun _ => m) (s2 := fun v => .int v :: []) (by decide +kernel) (by decide +kernel) (o_3_3 hN (o_10_1 hN h0)) ⟨rfl, rfl, rfl, rfl, rfl, rfl⟩ (fun _ => rfl) (t_73 hN (h0 := (o_3_3 hN (o_10_1 hN h0)))) (fun v1 => ?_)
  refine i_bl (pc' := 15) [(.aload_n 1, 1), (.iconst 5, 1)] [some (.ref a0), some (.ref (sh_r (sh_r a0 1) 3)), none, none] [.int 5, .ref (sh_r (sh_r a0 1) 3), .int v1] (by decide +kernel) rfl ?_
  refine i_cv (ci := 5) (t := 73) (na := 2) (ml := 4) (idx := 319) (pc' := 18) (st' := [.int v1]) (en := [some (.ref (sh_r (sh_r a0 1) 3)), some (.int 5), none, none]) (av := [.int 5]) (vo := fun v => some (.int v)) (mo := fun _ => m) (s2 := fun v => .int v :: [.int v1]) (by decide +kernel) (by decide +kernel) (o_3_3 hN (o_10_1 hN h0)) ⟨rfl, rfl, rfl, rfl, rfl, rfl⟩ (fun _ => rfl) (t_73 hN (h0 := (o_3_3 hN (o_10_1 hN h0)))) (fun v2 => ?_)
  refine i_bl (pc' := 20) [(.iadd, 1), (.istore_n 2, 1)] [some (.ref a0), some (.ref (sh_r (sh_r a0 1) 3)), some (.int (v1 + v2)), none] [] (by decide +kernel) rfl ?_
  refine i_wb (fun y3 => ev_dn b z 153 20 [some (.ref a0), some (.ref (sh_r (sh_r a0 1) 3)), some (.int y3), none] [] (nx, mem L nx m)) (fun y3 => ?_)
  refine i_bl (pc' := 21) [(.iload_n 2, 1)] [some (.ref a0), some (.ref (sh_r (sh_r a0 1) 3)), some (.int y3), none] [.int y3] (by decide +kernel) rfl ?_
  refine i_if (c := .ne) (off := 5) (t := 26) (pc' := 24) (p := ¬ y3 = 0) (by decide +kernel) rfl ?_ ?_
  · refine i_bl (pc' := 29) [(.iload_n 2, 1), (.aload_n 1, 1), (.iconst 3, 1)] [some (.ref a0), some (.ref (sh_r (sh_r a0 1) 3)), some (.int y3), none] [.int 3, .ref (sh_r (sh_r a0 1) 3), .int y3] (by decide +kernel) rfl ?_
    refine i_cv (ci := 5) (t := 73) (na := 2) (ml := 4) (idx := 319) (pc' := 32) (st' := [.int y3]) (en := [some (.ref (sh_r (sh_r a0 1) 3)), some (.int 3), none, none]) (av := [.int 3]) (vo := fun v => some (.int v)) (mo := fun _ => m) (s2 := fun v => .int v :: [.int y3]) (by decide +kernel) (by decide +kernel) (o_3_3 hN (o_10_1 hN h0)) ⟨rfl, rfl, rfl, rfl, rfl, rfl⟩ (fun _ => rfl) (t_73 hN (h0 := (o_3_3 hN (o_10_1 hN h0)))) (fun v4 => ?_)
    refine i_bl (pc' := 36) [(.isub, 1), (.aload_n 1, 1), (.bipush (6), 2)] [some (.ref a0), some (.ref (sh_r (sh_r a0 1) 3)), some (.int y3), none] [.int 6, .ref (sh_r (sh_r a0 1) 3), .int (y3 - v4)] (by decide +kernel) rfl ?_
    refine i_cv (ci := 5) (t := 73) (na := 2) (ml := 4) (idx := 319) (pc' := 39) (st' := [.int (y3 - v4)]) (en := [some (.ref (sh_r (sh_r a0 1) 3)), some (.int 6), none, none]) (av := [.int 6]) (vo := fun v => some (.int v)) (mo := fun _ => m) (s2 := fun v => .int v :: [.int (y3 - v4)]) (by decide +kernel) (by decide +kernel) (o_3_3 hN (o_10_1 hN h0)) ⟨rfl, rfl, rfl, rfl, rfl, rfl⟩ (fun _ => rfl) (t_73 hN (h0 := (o_3_3 hN (o_10_1 hN h0)))) (fun v5 => ?_)
    refine i_bl (pc' := 41) [(.isub, 1), (.istore_n 3, 1)] [some (.ref a0), some (.ref (sh_r (sh_r a0 1) 3)), some (.int y3), some (.int ((y3 - v4) - v5))] [] (by decide +kernel) rfl ?_
    refine i_wb (fun y6 => ev_dn b z 153 41 [some (.ref a0), some (.ref (sh_r (sh_r a0 1) 3)), some (.int y3), some (.int y6)] [] (nx, mem L nx m)) (fun y6 => ?_)
    refine i_bl (pc' := 45) [(.iload_n 3, 1), (.i2f, 1), (.iload_n 2, 1), (.i2f, 1)] [some (.ref a0), some (.ref (sh_r (sh_r a0 1) 3)), some (.int y3), some (.int y6)] [.float (FP.i2f y3), .float (FP.i2f y6)] (by decide +kernel) rfl ?_
    refine i_fd (pc' := 46) (by decide +kernel) ?_
    exact i_rf (by decide +kernel) rfl
  · refine i_bl (pc' := 25) [(.fconst 0, 1)] [some (.ref a0), some (.ref (sh_r (sh_r a0 1) 3)), some (.int y3), none] [.float FP.fconst0] (by decide +kernel) rfl ?_
    exact i_rf (by decide +kernel) rfl

/-! 154 LanternChess.play(IIII)I -/
noncomputable def d_154 (a0 : Nat) (x1 : Int32) (x2 : Int32) (x3 : Int32) (x4 : Int32) (m : Mm) : Option (Int32 × Mm) := (d_179 a0 x1 x2 x3 x4 m).bind fun _ => (d_180 a0 m).bind fun _ => (d_12 x1 x2).bind fun v1 => (d_12 x3 x4).bind fun v2 => (d_56 (sh_r a0 1) v1 v2 m).bind fun v3 => if v3 = true then ((d_65 (sh_r a0 5) (sh_r a0 1) m).bind fun m4 => (d_60 (sh_r a0 1) (sh_r a0 6) v1 v2 m4).bind fun r5 => some (r5.1, r5.2)) else (some ((-2), m))
theorem t_154 {L nx : Nat} (hN : okn nx) {b z : Nat} {m : Mm} {a0 : Nat} (h0 : ok nx a0 10) {x1 : Int32} {x2 : Int32} {x3 : Int32} {x4 : Int32}  : Im (d_154 a0 x1 x2 x3 x4 m) (wI L nx) (ev_dn b z 154 0 [some (.ref a0), some (.int x1), some (.int x2), some (.int x3), some (.int x4), none, none] [] (nx, mem L nx m)) := by
  unfold d_154
  refine i_bl (pc' := 6) [(.aload_n 0, 1), (.iload_n 1, 1), (.iload_n 2, 1), (.iload_n 3, 1), (.iload 4, 2)] [some (.ref a0), some (.int x1), some (.int x2), some (.int x3), some (.int x4), none, none] [.int x4, .int x3, .int x2, .int x1, .ref a0] (by decide +kernel) rfl ?_
  refine i_cv (ci := 10) (t := 179) (na := 5) (ml := 5) (idx := 201) (pc' := 9) (st' := []) (en := [some (.ref a0), some (.int x1), some (.int x2), some (.int x3), some (.int x4)]) (av := [.int x1, .int x2, .int x3, .int x4]) (vo := fun _ => none) (mo := fun _ => m) (s2 := fun _ => []) (by decide +kernel) (by decide +kernel) h0 ⟨rfl, rfl, rfl, rfl, rfl, rfl⟩ (fun _ => rfl) (t_179 hN (h0 := h0)) (fun _ => ?_)
  refine i_bl (pc' := 10) [(.aload_n 0, 1)] [some (.ref a0), some (.int x1), some (.int x2), some (.int x3), some (.int x4), none, none] [.ref a0] (by decide +kernel) rfl ?_
  refine i_cv (ci := 10) (t := 180) (na := 1) (ml := 1) (idx := 301) (pc' := 13) (st' := []) (en := [some (.ref a0)]) (av := []) (vo := fun _ => none) (mo := fun _ => m) (s2 := fun _ => []) (by decide +kernel) (by decide +kernel) h0 ⟨rfl, rfl, rfl, rfl, rfl, rfl⟩ (fun _ => rfl) (t_180 hN (h0 := h0)) (fun _ => ?_)
  refine i_bl (pc' := 15) [(.iload_n 1, 1), (.iload_n 2, 1)] [some (.ref a0), some (.int x1), some (.int x2), some (.int x3), some (.int x4), none, none] [.int x2, .int x1] (by decide +kernel) rfl ?_
  refine i_cs (t := 12) (na := 2) (ml := 2) (idx := 73) (pc' := 18) (st' := []) (en := [some (.int x1), some (.int x2)]) (av := [.int x1, .int x2]) (vo := fun v => some (.int v)) (mo := fun _ => m) (s2 := fun v => .int v :: []) (by decide +kernel) ⟨rfl, rfl, rfl, rfl, rfl, rfl⟩ (fun _ => rfl) (t_12 hN ) (fun v1 => ?_)
  refine i_bl (pc' := 23) [(.istore 5, 2), (.iload_n 3, 1), (.iload 4, 2)] [some (.ref a0), some (.int x1), some (.int x2), some (.int x3), some (.int x4), some (.int v1), none] [.int x4, .int x3] (by decide +kernel) rfl ?_
  refine i_cs (t := 12) (na := 2) (ml := 2) (idx := 73) (pc' := 26) (st' := []) (en := [some (.int x3), some (.int x4)]) (av := [.int x3, .int x4]) (vo := fun v => some (.int v)) (mo := fun _ => m) (s2 := fun v => .int v :: []) (by decide +kernel) ⟨rfl, rfl, rfl, rfl, rfl, rfl⟩ (fun _ => rfl) (t_12 hN ) (fun v2 => ?_)
  refine i_bl (pc' := 29) [(.istore 6, 2), (.aload_n 0, 1)] [some (.ref a0), some (.int x1), some (.int x2), some (.int x3), some (.int x4), some (.int v1), some (.int v2)] [.ref a0] (by decide +kernel) rfl ?_
  refine i_gr (idx := 19) (ci := 10) (k := 1) (t := 2) (p := 12129) (pc' := 32) (by decide +kernel) h0 ?_
  refine i_bl (pc' := 36) [(.iload 5, 2), (.iload 6, 2)] [some (.ref a0), some (.int x1), some (.int x2), some (.int x3), some (.int x4), some (.int v1), some (.int v2)] [.int v2, .int v1, .ref (sh_r a0 1)] (by decide +kernel) rfl ?_
  refine i_cv (ci := 3) (t := 56) (na := 3) (ml := 3) (idx := 308) (pc' := 39) (st' := []) (en := [some (.ref (sh_r a0 1)), some (.int v1), some (.int v2)]) (av := [.int v1, .int v2]) (vo := fun v => some (.int (bi v))) (mo := fun _ => m) (s2 := fun v => .int (bi v) :: []) (by decide +kernel) (by decide +kernel) (o_10_1 hN h0) ⟨rfl, rfl, rfl, rfl, rfl, rfl⟩ (fun _ => rfl) (t_56 hN (h0 := (o_10_1 hN h0))) (fun v3 => ?_)
  refine i_bn (off := 6) (t := 45) (pc' := 42) (by decide +kernel) ?_ ?_
  · refine i_bl (pc' := 46) [(.aload_n 0, 1)] [some (.ref a0), some (.int x1), some (.int x2), some (.int x3), some (.int x4), some (.int v1), some (.int v2)] [.ref a0] (by decide +kernel) rfl ?_
    refine i_gr (idx := 36) (ci := 10) (k := 5) (t := 2) (p := 12133) (pc' := 49) (by decide +kernel) h0 ?_
    refine i_bl (pc' := 50) [(.aload_n 0, 1)] [some (.ref a0), some (.int x1), some (.int x2), some (.int x3), some (.int x4), some (.int v1), some (.int v2)] [.ref a0, .ref (sh_r a0 5)] (by decide +kernel) rfl ?_
    refine i_gr (idx := 19) (ci := 10) (k := 1) (t := 2) (p := 12129) (pc' := 53) (by decide +kernel) h0 ?_
    refine i_cv (ci := 4) (t := 65) (na := 2) (ml := 3) (idx := 322) (pc' := 56) (st' := []) (en := [some (.ref (sh_r a0 5)), some (.ref (sh_r a0 1)), none]) (av := [.ref (sh_r a0 1)]) (vo := fun _ => none) (mo := fun m => m) (s2 := fun _ => []) (by decide +kernel) (by decide +kernel) (o_10_5 hN h0) ⟨rfl, rfl, rfl, rfl, rfl, rfl⟩ (fun _ => rfl) (t_65 hN (h0 := (o_10_5 hN h0)) (h1 := (o_10_1 hN h0))) (fun m4 => ?_)
    refine i_bl (pc' := 57) [(.aload_n 0, 1)] [some (.ref a0), some (.int x1), some (.int x2), some (.int x3), some (.int x4), some (.int v1), some (.int v2)] [.ref a0] (by decide +kernel) rfl ?_
    refine i_gr (idx := 19) (ci := 10) (k := 1) (t := 2) (p := 12129) (pc' := 60) (by decide +kernel) h0 ?_
    refine i_bl (pc' := 61) [(.aload_n 0, 1)] [some (.ref a0), some (.int x1), some (.int x2), some (.int x3), some (.int x4), some (.int v1), some (.int v2)] [.ref a0, .ref (sh_r a0 1)] (by decide +kernel) rfl ?_
    refine i_gr (idx := 43) (ci := 10) (k := 6) (t := 2) (p := 12134) (pc' := 64) (by decide +kernel) h0 ?_
    refine i_bl (pc' := 68) [(.iload 5, 2), (.iload 6, 2)] [some (.ref a0), some (.int x1), some (.int x2), some (.int x3), some (.int x4), some (.int v1), some (.int v2)] [.int v2, .int v1, .ref (sh_r a0 6), .ref (sh_r a0 1)] (by decide +kernel) rfl ?_
    refine i_cv (ci := 3) (t := 60) (na := 4) (ml := 7) (idx := 304) (pc' := 71) (st' := []) (en := [some (.ref (sh_r a0 1)), some (.ref (sh_r a0 6)), some (.int v1), some (.int v2), none, none, none]) (av := [.ref (sh_r a0 6), .int v1, .int v2]) (vo := fun v => some (.int v.1)) (mo := fun v => v.2) (s2 := fun v => .int v.1 :: []) (by decide +kernel) (by decide +kernel) (o_10_1 hN h0) ⟨rfl, rfl, rfl, rfl, rfl, rfl⟩ (fun _ => rfl) (t_60 hN (h0 := (o_10_1 hN h0)) (h1 := (o_10_6 hN h0))) (fun r5 => ?_)
    exact i_ri (by decide +kernel) rfl
  · refine i_bl (pc' := 44) [(.bipush (-2), 2)] [some (.ref a0), some (.int x1), some (.int x2), some (.int x3), some (.int x4), some (.int v1), some (.int v2)] [.int (-2)] (by decide +kernel) rfl ?_
    exact i_ri (by decide +kernel) rfl

/-! 156 LanternChess.resign()I -/
noncomputable def d_156 (a0 : Nat) (m : Mm) : Option (Int32 × Mm) := (d_180 a0 m).bind fun _ => (d_65 (sh_r a0 5) (sh_r a0 1) m).bind fun m1 => wb (1 - (m1 (sh_r a0 1) 6)) fun y2 => (d_57 (sh_r a0 1) y2 m1).bind fun m3 => some (y2, m3)
theorem t_156 {L nx : Nat} (hN : okn nx) {b z : Nat} {m : Mm} {a0 : Nat} (h0 : ok nx a0 10)   : Im (d_156 a0 m) (wI L nx) (ev_dn b z 156 0 [some (.ref a0), none] [] (nx, mem L nx m)) := by
  unfold d_156
  refine i_bl (pc' := 1) [(.aload_n 0, 1)] [some (.ref a0), none] [.ref a0] (by decide +kernel) rfl ?_
  refine i_cv (ci := 10) (t := 180) (na := 1) (ml := 1) (idx := 301) (pc' := 4) (st' := []) (en := [some (.ref a0)]) (av := []) (vo := fun _ => none) (mo := fun _ => m) (s2 := fun _ => []) (by decide +kernel) (by decide +kernel) h0 ⟨rfl, rfl, rfl, rfl, rfl, rfl⟩ (fun _ => rfl) (t_180 hN (h0 := h0)) (fun _ => ?_)
  refine i_bl (pc' := 5) [(.aload_n 0, 1)] [some (.ref a0), none] [.ref a0] (by decide +kernel) rfl ?_
  refine i_gr (idx := 36) (ci := 10) (k := 5) (t := 2) (p := 12133) (pc' := 8) (by decide +kernel) h0 ?_
  refine i_bl (pc' := 9) [(.aload_n 0, 1)] [some (.ref a0), none] [.ref a0, .ref (sh_r a0 5)] (by decide +kernel) rfl ?_
  refine i_gr (idx := 19) (ci := 10) (k := 1) (t := 2) (p := 12129) (pc' := 12) (by decide +kernel) h0 ?_
  refine i_cv (ci := 4) (t := 65) (na := 2) (ml := 3) (idx := 322) (pc' := 15) (st' := []) (en := [some (.ref (sh_r a0 5)), some (.ref (sh_r a0 1)), none]) (av := [.ref (sh_r a0 1)]) (vo := fun _ => none) (mo := fun m => m) (s2 := fun _ => []) (by decide +kernel) (by decide +kernel) (o_10_5 hN h0) ⟨rfl, rfl, rfl, rfl, rfl, rfl⟩ (fun _ => rfl) (t_65 hN (h0 := (o_10_5 hN h0)) (h1 := (o_10_1 hN h0))) (fun m1 => ?_)
  refine i_bl (pc' := 17) [(.iconst 1, 1), (.aload_n 0, 1)] [some (.ref a0), none] [.ref a0, .int 1] (by decide +kernel) rfl ?_
  refine i_gr (idx := 19) (ci := 10) (k := 1) (t := 2) (p := 12129) (pc' := 20) (by decide +kernel) h0 ?_
  refine i_gf (idx := 131) (ci := 3) (k := 6) (t := 0) (p := 11190) (pc' := 23) (by decide +kernel) (o_10_1 hN h0) ?_
  refine i_bl (pc' := 25) [(.isub, 1), (.istore_n 1, 1)] [some (.ref a0), some (.int (1 - (m1 (sh_r a0 1) 6)))] [] (by decide +kernel) rfl ?_
  refine i_wb (fun y2 => ev_dn b z 156 25 [some (.ref a0), some (.int y2)] [] (nx, mem L nx m1)) (fun y2 => ?_)
  refine i_bl (pc' := 26) [(.aload_n 0, 1)] [some (.ref a0), some (.int y2)] [.ref a0] (by decide +kernel) rfl ?_
  refine i_gr (idx := 19) (ci := 10) (k := 1) (t := 2) (p := 12129) (pc' := 29) (by decide +kernel) h0 ?_
  refine i_bl (pc' := 30) [(.iload_n 1, 1)] [some (.ref a0), some (.int y2)] [.int y2, .ref (sh_r a0 1)] (by decide +kernel) rfl ?_
  refine i_cv (ci := 3) (t := 57) (na := 2) (ml := 2) (idx := 328) (pc' := 33) (st' := []) (en := [some (.ref (sh_r a0 1)), some (.int y2)]) (av := [.int y2]) (vo := fun _ => none) (mo := fun m => m) (s2 := fun _ => []) (by decide +kernel) (by decide +kernel) (o_10_1 hN h0) ⟨rfl, rfl, rfl, rfl, rfl, rfl⟩ (fun _ => rfl) (t_57 hN (h0 := (o_10_1 hN h0))) (fun m3 => ?_)
  refine i_bl (pc' := 34) [(.iload_n 1, 1)] [some (.ref a0), some (.int y2)] [.int y2] (by decide +kernel) rfl ?_
  exact i_ri (by decide +kernel) rfl

/-! 157 LanternChess.settle(I)I -/
noncomputable def d_157 (a0 : Nat) (x1 : Int32) (m : Mm) : Option (Int32 × Mm) := (d_175 x1).bind fun _ => (d_65 (sh_r a0 5) (sh_r a0 1) m).bind fun m1 => (d_54 (sh_r a0 1) m1).bind fun v2 => (d_51 (sh_r a0 1) (1 - x1)).bind fun v3 => (d_51 (sh_r a0 1) x1).bind fun v5 => (d_2 v3 v5 m1).bind fun m7 => some (v2, m7)
theorem t_157 {L nx : Nat} (hN : okn nx) {b z : Nat} {m : Mm} {a0 : Nat} (h0 : ok nx a0 10) {x1 : Int32}  : Im (d_157 a0 x1 m) (wI L nx) (ev_dn b z 157 0 [some (.ref a0), some (.int x1), none] [] (nx, mem L nx m)) := by
  unfold d_157
  refine i_bl (pc' := 1) [(.iload_n 1, 1)] [some (.ref a0), some (.int x1), none] [.int x1] (by decide +kernel) rfl ?_
  refine i_cs (t := 175) (na := 1) (ml := 1) (idx := 184) (pc' := 4) (st' := []) (en := [some (.int x1)]) (av := [.int x1]) (vo := fun _ => none) (mo := fun _ => m) (s2 := fun _ => []) (by decide +kernel) ⟨rfl, rfl, rfl, rfl, rfl, rfl⟩ (fun _ => rfl) (t_175 hN ) (fun _ => ?_)
  refine i_bl (pc' := 5) [(.aload_n 0, 1)] [some (.ref a0), some (.int x1), none] [.ref a0] (by decide +kernel) rfl ?_
  refine i_gr (idx := 36) (ci := 10) (k := 5) (t := 2) (p := 12133) (pc' := 8) (by decide +kernel) h0 ?_
  refine i_bl (pc' := 9) [(.aload_n 0, 1)] [some (.ref a0), some (.int x1), none] [.ref a0, .ref (sh_r a0 5)] (by decide +kernel) rfl ?_
  refine i_gr (idx := 19) (ci := 10) (k := 1) (t := 2) (p := 12129) (pc' := 12) (by decide +kernel) h0 ?_
  refine i_cv (ci := 4) (t := 65) (na := 2) (ml := 3) (idx := 322) (pc' := 15) (st' := []) (en := [some (.ref (sh_r a0 5)), some (.ref (sh_r a0 1)), none]) (av := [.ref (sh_r a0 1)]) (vo := fun _ => none) (mo := fun m => m) (s2 := fun _ => []) (by decide +kernel) (by decide +kernel) (o_10_5 hN h0) ⟨rfl, rfl, rfl, rfl, rfl, rfl⟩ (fun _ => rfl) (t_65 hN (h0 := (o_10_5 hN h0)) (h1 := (o_10_1 hN h0))) (fun m1 => ?_)
  refine i_bl (pc' := 16) [(.aload_n 0, 1)] [some (.ref a0), some (.int x1), none] [.ref a0] (by decide +kernel) rfl ?_
  refine i_gr (idx := 19) (ci := 10) (k := 1) (t := 2) (p := 12129) (pc' := 19) (by decide +kernel) h0 ?_
  refine i_cv (ci := 3) (t := 54) (na := 1) (ml := 1) (idx := 259) (pc' := 22) (st' := []) (en := [some (.ref (sh_r a0 1))]) (av := []) (vo := fun v => some (.int v)) (mo := fun _ => m1) (s2 := fun v => .int v :: []) (by decide +kernel) (by decide +kernel) (o_10_1 hN h0) ⟨rfl, rfl, rfl, rfl, rfl, rfl⟩ (fun _ => rfl) (t_54 hN (h0 := (o_10_1 hN h0))) (fun v2 => ?_)
  refine i_bl (pc' := 24) [(.istore_n 2, 1), (.aload_n 0, 1)] [some (.ref a0), some (.int x1), some (.int v2)] [.ref a0] (by decide +kernel) rfl ?_
  refine i_gr (idx := 19) (ci := 10) (k := 1) (t := 2) (p := 12129) (pc' := 27) (by decide +kernel) h0 ?_
  refine i_bl (pc' := 30) [(.iconst 1, 1), (.iload_n 1, 1), (.isub, 1)] [some (.ref a0), some (.int x1), some (.int v2)] [.int (1 - x1), .ref (sh_r a0 1)] (by decide +kernel) rfl ?_
  refine i_cA (cr := 0) (ci := 3) (t := 51) (na := 2) (ml := 2) (idx := 194) (pc' := 33) (st' := []) (en := [some (.ref (sh_r a0 1)), some (.int (1 - x1))]) (av := [.int (1 - x1)]) (s2 := fun v => .ref v :: []) (by decide +kernel) (by decide +kernel) (o_10_1 hN h0) ⟨rfl, rfl, rfl, rfl, rfl, rfl⟩ (fun _ => rfl) (t_51 hN (h0 := (o_10_1 hN h0))) (fun v3 hr4 => ?_)
  refine i_bl (pc' := 34) [(.aload_n 0, 1)] [some (.ref a0), some (.int x1), some (.int v2)] [.ref a0, .ref v3] (by decide +kernel) rfl ?_
  refine i_gr (idx := 19) (ci := 10) (k := 1) (t := 2) (p := 12129) (pc' := 37) (by decide +kernel) h0 ?_
  refine i_bl (pc' := 38) [(.iload_n 1, 1)] [some (.ref a0), some (.int x1), some (.int v2)] [.int x1, .ref (sh_r a0 1), .ref v3] (by decide +kernel) rfl ?_
  refine i_cA (cr := 0) (ci := 3) (t := 51) (na := 2) (ml := 2) (idx := 194) (pc' := 41) (st' := [.ref v3]) (en := [some (.ref (sh_r a0 1)), some (.int x1)]) (av := [.int x1]) (s2 := fun v => .ref v :: [.ref v3]) (by decide +kernel) (by decide +kernel) (o_10_1 hN h0) ⟨rfl, rfl, rfl, rfl, rfl, rfl⟩ (fun _ => rfl) (t_51 hN (h0 := (o_10_1 hN h0))) (fun v5 hr6 => ?_)
  refine i_cv (ci := 0) (t := 2) (na := 2) (ml := 2) (idx := 331) (pc' := 44) (st' := []) (en := [some (.ref v3), some (.ref v5)]) (av := [.ref v5]) (vo := fun _ => none) (mo := fun m => m) (s2 := fun _ => []) (by decide +kernel) (by decide +kernel) hr4 ⟨rfl, rfl, rfl, rfl, rfl, rfl⟩ (fun _ => rfl) (t_2 hN (h0 := hr4) (h1 := hr6)) (fun m7 => ?_)
  refine i_bl (pc' := 45) [(.iload_n 2, 1)] [some (.ref a0), some (.int x1), some (.int v2)] [.int v2] (by decide +kernel) rfl ?_
  exact i_ri (by decide +kernel) rfl

/-! 158 LanternChess.wind(II)I -/
noncomputable def d_158 (a0 : Nat) (x1 : Int32) (x2 : Int32) (m : Mm) : Option (Int32 × Mm) := (d_175 x1).bind fun _ => (d_177 x2 1 999).bind fun _ => (d_52 (sh_r a0 1) x1 m).bind fun v1 => wb (v1 + x2) fun y2 => if y2 ≤ 9999 then ((d_65 (sh_r a0 5) (sh_r a0 1) m).bind fun m3 => (d_53 (sh_r a0 1) x1 y2 m3).bind fun m4 => some (y2, m4)) else (none)
theorem t_158 {L nx : Nat} (hN : okn nx) {b z : Nat} {m : Mm} {a0 : Nat} (h0 : ok nx a0 10) {x1 : Int32} {x2 : Int32}  : Im (d_158 a0 x1 x2 m) (wI L nx) (ev_dn b z 158 0 [some (.ref a0), some (.int x1), some (.int x2), none] [] (nx, mem L nx m)) := by
  unfold d_158
  refine i_bl (pc' := 1) [(.iload_n 1, 1)] [some (.ref a0), some (.int x1), some (.int x2), none] [.int x1] (by decide +kernel) rfl ?_
  refine i_cs (t := 175) (na := 1) (ml := 1) (idx := 184) (pc' := 4) (st' := []) (en := [some (.int x1)]) (av := [.int x1]) (vo := fun _ => none) (mo := fun _ => m) (s2 := fun _ => []) (by decide +kernel) ⟨rfl, rfl, rfl, rfl, rfl, rfl⟩ (fun _ => rfl) (t_175 hN ) (fun _ => ?_)
  refine i_bl (pc' := 9) [(.iload_n 2, 1), (.iconst 1, 1), (.sipush (999), 3)] [some (.ref a0), some (.int x1), some (.int x2), none] [.int 999, .int 1, .int x2] (by decide +kernel) rfl ?_
  refine i_cs (t := 177) (na := 3) (ml := 3) (idx := 217) (pc' := 12) (st' := []) (en := [some (.int x2), some (.int 1), some (.int 999)]) (av := [.int x2, .int 1, .int 999]) (vo := fun _ => none) (mo := fun _ => m) (s2 := fun _ => []) (by decide +kernel) ⟨rfl, rfl, rfl, rfl, rfl, rfl⟩ (fun _ => rfl) (t_177 hN ) (fun _ => ?_)
  refine i_bl (pc' := 13) [(.aload_n 0, 1)] [some (.ref a0), some (.int x1), some (.int x2), none] [.ref a0] (by decide +kernel) rfl ?_
  refine i_gr (idx := 19) (ci := 10) (k := 1) (t := 2) (p := 12129) (pc' := 16) (by decide +kernel) h0 ?_
  refine i_bl (pc' := 17) [(.iload_n 1, 1)] [some (.ref a0), some (.int x1), some (.int x2), none] [.int x1, .ref (sh_r a0 1)] (by decide +kernel) rfl ?_
  refine i_cv (ci := 3) (t := 52) (na := 2) (ml := 2) (idx := 187) (pc' := 20) (st' := []) (en := [some (.ref (sh_r a0 1)), some (.int x1)]) (av := [.int x1]) (vo := fun v => some (.int v)) (mo := fun _ => m) (s2 := fun v => .int v :: []) (by decide +kernel) (by decide +kernel) (o_10_1 hN h0) ⟨rfl, rfl, rfl, rfl, rfl, rfl⟩ (fun _ => rfl) (t_52 hN (h0 := (o_10_1 hN h0))) (fun v1 => ?_)
  refine i_bl (pc' := 23) [(.iload_n 2, 1), (.iadd, 1), (.istore_n 3, 1)] [some (.ref a0), some (.int x1), some (.int x2), some (.int (v1 + x2))] [] (by decide +kernel) rfl ?_
  refine i_wb (fun y2 => ev_dn b z 158 23 [some (.ref a0), some (.int x1), some (.int x2), some (.int y2)] [] (nx, mem L nx m)) (fun y2 => ?_)
  refine i_bl (pc' := 27) [(.iload_n 3, 1), (.sipush (9999), 3)] [some (.ref a0), some (.int x1), some (.int x2), some (.int y2)] [.int 9999, .int y2] (by decide +kernel) rfl ?_
  refine i_ic (c := .le) (off := 14) (t := 41) (pc' := 30) (p := y2 ≤ 9999) (by decide +kernel) rfl ?_ ?_
  · refine i_bl (pc' := 42) [(.aload_n 0, 1)] [some (.ref a0), some (.int x1), some (.int x2), some (.int y2)] [.ref a0] (by decide +kernel) rfl ?_
    refine i_gr (idx := 36) (ci := 10) (k := 5) (t := 2) (p := 12133) (pc' := 45) (by decide +kernel) h0 ?_
    refine i_bl (pc' := 46) [(.aload_n 0, 1)] [some (.ref a0), some (.int x1), some (.int x2), some (.int y2)] [.ref a0, .ref (sh_r a0 5)] (by decide +kernel) rfl ?_
    refine i_gr (idx := 19) (ci := 10) (k := 1) (t := 2) (p := 12129) (pc' := 49) (by decide +kernel) h0 ?_
    refine i_cv (ci := 4) (t := 65) (na := 2) (ml := 3) (idx := 322) (pc' := 52) (st' := []) (en := [some (.ref (sh_r a0 5)), some (.ref (sh_r a0 1)), none]) (av := [.ref (sh_r a0 1)]) (vo := fun _ => none) (mo := fun m => m) (s2 := fun _ => []) (by decide +kernel) (by decide +kernel) (o_10_5 hN h0) ⟨rfl, rfl, rfl, rfl, rfl, rfl⟩ (fun _ => rfl) (t_65 hN (h0 := (o_10_5 hN h0)) (h1 := (o_10_1 hN h0))) (fun m3 => ?_)
    refine i_bl (pc' := 53) [(.aload_n 0, 1)] [some (.ref a0), some (.int x1), some (.int x2), some (.int y2)] [.ref a0] (by decide +kernel) rfl ?_
    refine i_gr (idx := 19) (ci := 10) (k := 1) (t := 2) (p := 12129) (pc' := 56) (by decide +kernel) h0 ?_
    refine i_bl (pc' := 58) [(.iload_n 1, 1), (.iload_n 3, 1)] [some (.ref a0), some (.int x1), some (.int x2), some (.int y2)] [.int y2, .int x1, .ref (sh_r a0 1)] (by decide +kernel) rfl ?_
    refine i_cv (ci := 3) (t := 53) (na := 3) (ml := 3) (idx := 339) (pc' := 61) (st' := []) (en := [some (.ref (sh_r a0 1)), some (.int x1), some (.int y2)]) (av := [.int x1, .int y2]) (vo := fun _ => none) (mo := fun m => m) (s2 := fun _ => []) (by decide +kernel) (by decide +kernel) (o_10_1 hN h0) ⟨rfl, rfl, rfl, rfl, rfl, rfl⟩ (fun _ => rfl) (t_53 hN (h0 := (o_10_1 hN h0))) (fun m4 => ?_)
    refine i_bl (pc' := 62) [(.iload_n 3, 1)] [some (.ref a0), some (.int x1), some (.int x2), some (.int y2)] [.int y2] (by decide +kernel) rfl ?_
    exact i_ri (by decide +kernel) rfl
  · exact i_no

/-! 165 LanternChess.undo()I -/
noncomputable def d_165 (a0 : Nat) (m : Mm) : Option (Int32 × Mm) := if ¬ (m (sh_r a0 5) 2) = 0 then ((d_66 (sh_r a0 5) (sh_r a0 1) m).bind fun m1 => some (m1 (sh_r a0 5) 2, m1)) else (none)
theorem t_165 {L nx : Nat} (hN : okn nx) {b z : Nat} {m : Mm} {a0 : Nat} (h0 : ok nx a0 10)   : Im (d_165 a0 m) (wI L nx) (ev_dn b z 165 0 [some (.ref a0)] [] (nx, mem L nx m)) := by
  unfold d_165
  refine i_bl (pc' := 1) [(.aload_n 0, 1)] [some (.ref a0)] [.ref a0] (by decide +kernel) rfl ?_
  refine i_gr (idx := 36) (ci := 10) (k := 5) (t := 2) (p := 12133) (pc' := 4) (by decide +kernel) h0 ?_
  refine i_gf (idx := 176) (ci := 4) (k := 2) (t := 0) (p := 12003) (pc' := 7) (by decide +kernel) (o_10_5 hN h0) ?_
  refine i_if (c := .ne) (off := 14) (t := 21) (pc' := 10) (p := ¬ (m (sh_r a0 5) 2) = 0) (by decide +kernel) rfl ?_ ?_
  · refine i_bl (pc' := 22) [(.aload_n 0, 1)] [some (.ref a0)] [.ref a0] (by decide +kernel) rfl ?_
    refine i_gr (idx := 36) (ci := 10) (k := 5) (t := 2) (p := 12133) (pc' := 25) (by decide +kernel) h0 ?_
    refine i_bl (pc' := 26) [(.aload_n 0, 1)] [some (.ref a0)] [.ref a0, .ref (sh_r a0 5)] (by decide +kernel) rfl ?_
    refine i_gr (idx := 19) (ci := 10) (k := 1) (t := 2) (p := 12129) (pc' := 29) (by decide +kernel) h0 ?_
    refine i_cv (ci := 4) (t := 66) (na := 2) (ml := 3) (idx := 371) (pc' := 32) (st' := []) (en := [some (.ref (sh_r a0 5)), some (.ref (sh_r a0 1)), none]) (av := [.ref (sh_r a0 1)]) (vo := fun _ => none) (mo := fun m => m) (s2 := fun _ => []) (by decide +kernel) (by decide +kernel) (o_10_5 hN h0) ⟨rfl, rfl, rfl, rfl, rfl, rfl⟩ (fun _ => rfl) (t_66 hN (h0 := (o_10_5 hN h0)) (h1 := (o_10_1 hN h0))) (fun m1 => ?_)
    refine i_bl (pc' := 33) [(.aload_n 0, 1)] [some (.ref a0)] [.ref a0] (by decide +kernel) rfl ?_
    refine i_gr (idx := 36) (ci := 10) (k := 5) (t := 2) (p := 12133) (pc' := 36) (by decide +kernel) h0 ?_
    refine i_gf (idx := 176) (ci := 4) (k := 2) (t := 0) (p := 12003) (pc' := 39) (by decide +kernel) (o_10_5 hN h0) ?_
    exact i_ri (by decide +kernel) rfl
  · exact i_no

/-! 173 LanternChess.saveState()I -/
noncomputable def d_173 (a0 : Nat) (m : Mm) : Option (Int32 × Mm) := (d_49 (sh_r a0 3) (sh_r a0 1) m).bind fun m1 => wb (wr m1 a0 4 (bi true)) fun m2 => some (m2 (sh_r a0 1) 5, m2)
theorem t_173 {L nx : Nat} (hN : okn nx) {b z : Nat} {m : Mm} {a0 : Nat} (h0 : ok nx a0 10)   : Im (d_173 a0 m) (wI L nx) (ev_dn b z 173 0 [some (.ref a0)] [] (nx, mem L nx m)) := by
  unfold d_173
  refine i_bl (pc' := 1) [(.aload_n 0, 1)] [some (.ref a0)] [.ref a0] (by decide +kernel) rfl ?_
  refine i_gr (idx := 26) (ci := 10) (k := 3) (t := 2) (p := 12131) (pc' := 4) (by decide +kernel) h0 ?_
  refine i_bl (pc' := 5) [(.aload_n 0, 1)] [some (.ref a0)] [.ref a0, .ref (sh_r a0 3)] (by decide +kernel) rfl ?_
  refine i_gr (idx := 19) (ci := 10) (k := 1) (t := 2) (p := 12129) (pc' := 8) (by decide +kernel) h0 ?_
  refine i_cv (ci := 3) (t := 49) (na := 2) (ml := 2) (idx := 100) (pc' := 11) (st' := []) (en := [some (.ref (sh_r a0 3)), some (.ref (sh_r a0 1))]) (av := [.ref (sh_r a0 1)]) (vo := fun _ => none) (mo := fun m => m) (s2 := fun _ => []) (by decide +kernel) (by decide +kernel) (o_10_3 hN h0) ⟨rfl, rfl, rfl, rfl, rfl, rfl⟩ (fun _ => rfl) (t_49 hN (h0 := (o_10_3 hN h0)) (h1 := (o_10_1 hN h0))) (fun m1 => ?_)
  refine i_bl (pc' := 13) [(.aload_n 0, 1), (.iconst 1, 1)] [some (.ref a0)] [.int 1, .ref a0] (by decide +kernel) rfl ?_
  refine i_pz (B := true) (idx := 29) (ci := 10) (k := 4) (p := 12132) (pc' := 16) (by decide +kernel) h0 (fun m2 => ?_)
  refine i_bl (pc' := 17) [(.aload_n 0, 1)] [some (.ref a0)] [.ref a0] (by decide +kernel) rfl ?_
  refine i_gr (idx := 19) (ci := 10) (k := 1) (t := 2) (p := 12129) (pc' := 20) (by decide +kernel) h0 ?_
  refine i_gf (idx := 128) (ci := 3) (k := 5) (t := 0) (p := 11188) (pc' := 23) (by decide +kernel) (o_10_1 hN h0) ?_
  exact i_ri (by decide +kernel) rfl

/-! 174 LanternChess.restoreState()I -/
noncomputable def d_174 (a0 : Nat) (m : Mm) : Option (Int32 × Mm) := zb (m a0 4) fun B1 => if B1 = true then ((d_49 (sh_r a0 1) (sh_r a0 3) m).bind fun m2 => (d_64 (sh_r a0 5) m2).bind fun m3 => some (m3 (sh_r a0 1) 5, m3)) else (none)
theorem t_174 {L nx : Nat} (hN : okn nx) {b z : Nat} {m : Mm} {a0 : Nat} (h0 : ok nx a0 10)   : Im (d_174 a0 m) (wI L nx) (ev_dn b z 174 0 [some (.ref a0)] [] (nx, mem L nx m)) := by
  unfold d_174
  refine i_bl (pc' := 1) [(.aload_n 0, 1)] [some (.ref a0)] [.ref a0] (by decide +kernel) rfl ?_
  refine i_gz (idx := 29) (ci := 10) (k := 4) (t := 1) (p := 12132) (pc' := 4) (by decide +kernel) h0 (fun B1 => ?_)
  refine i_bn (off := 14) (t := 18) (pc' := 7) (by decide +kernel) ?_ ?_
  · refine i_bl (pc' := 19) [(.aload_n 0, 1)] [some (.ref a0)] [.ref a0] (by decide +kernel) rfl ?_
    refine i_gr (idx := 19) (ci := 10) (k := 1) (t := 2) (p := 12129) (pc' := 22) (by decide +kernel) h0 ?_
    refine i_bl (pc' := 23) [(.aload_n 0, 1)] [some (.ref a0)] [.ref a0, .ref (sh_r a0 1)] (by decide +kernel) rfl ?_
    refine i_gr (idx := 26) (ci := 10) (k := 3) (t := 2) (p := 12131) (pc' := 26) (by decide +kernel) h0 ?_
    refine i_cv (ci := 3) (t := 49) (na := 2) (ml := 2) (idx := 100) (pc' := 29) (st' := []) (en := [some (.ref (sh_r a0 1)), some (.ref (sh_r a0 3))]) (av := [.ref (sh_r a0 3)]) (vo := fun _ => none) (mo := fun m => m) (s2 := fun _ => []) (by decide +kernel) (by decide +kernel) (o_10_1 hN h0) ⟨rfl, rfl, rfl, rfl, rfl, rfl⟩ (fun _ => rfl) (t_49 hN (h0 := (o_10_1 hN h0)) (h1 := (o_10_3 hN h0))) (fun m2 => ?_)
    refine i_bl (pc' := 30) [(.aload_n 0, 1)] [some (.ref a0)] [.ref a0] (by decide +kernel) rfl ?_
    refine i_gr (idx := 36) (ci := 10) (k := 5) (t := 2) (p := 12133) (pc' := 33) (by decide +kernel) h0 ?_
    refine i_cv (ci := 4) (t := 64) (na := 1) (ml := 1) (idx := 103) (pc' := 36) (st' := []) (en := [some (.ref (sh_r a0 5))]) (av := []) (vo := fun _ => none) (mo := fun m => m) (s2 := fun _ => []) (by decide +kernel) (by decide +kernel) (o_10_5 hN h0) ⟨rfl, rfl, rfl, rfl, rfl, rfl⟩ (fun _ => rfl) (t_64 hN (h0 := (o_10_5 hN h0))) (fun m3 => ?_)
    refine i_bl (pc' := 37) [(.aload_n 0, 1)] [some (.ref a0)] [.ref a0] (by decide +kernel) rfl ?_
    refine i_gr (idx := 19) (ci := 10) (k := 1) (t := 2) (p := 12129) (pc' := 40) (by decide +kernel) h0 ?_
    refine i_gf (idx := 128) (ci := 3) (k := 5) (t := 0) (p := 11188) (pc' := 43) (by decide +kernel) (o_10_1 hN h0) ?_
    exact i_ri (by decide +kernel) rfl
  · exact i_no

/-! 181 LanternChessLaw.cell([II)I -/
noncomputable def d_181 (L : Nat) (x1 : Int32) (m : Mm) : Option Int32 := if (Int32.ofNat L) ≤ x1 then (some ((8191 * x1) + 131071)) else (if ev_in x1 L = true then (some (m 2 (ix x1))) else none)
theorem t_181 {L nx : Nat} (hN : okn nx) {b z : Nat} {m : Mm} (h0 : ok nx 2 99) {x1 : Int32}  : Im (d_181 L x1 m) (kI L nx m) (ev_dn b z 181 0 [some (.ref 2), some (.int x1)] [] (nx, mem L nx m)) := by
  unfold d_181
  refine i_bl (pc' := 2) [(.iload_n 1, 1), (.aload_n 0, 1)] [some (.ref 2), some (.int x1)] [.ref 2, .int x1] (by decide +kernel) rfl ?_
  refine i_lS (pc' := 3) L (by decide +kernel) rfl h0 ?_
  refine i_ic (c := .ge) (off := 9) (t := 12) (pc' := 6) (p := (Int32.ofNat L) ≤ x1) (by decide +kernel) rfl ?_ ?_
  · refine i_bl (pc' := 17) [(.sipush (8191), 3), (.iload_n 1, 1), (.imul, 1)] [some (.ref 2), some (.int x1)] [.int (8191 * x1)] (by decide +kernel) rfl ?_
    refine i_lc (idx := 7) (p := 13199) (x := 131071) (pc' := 19) (by decide +kernel) ?_
    refine i_bl (pc' := 20) [(.iadd, 1)] [some (.ref 2), some (.int x1)] [.int ((8191 * x1) + 131071)] (by decide +kernel) rfl ?_
    exact i_ri (by decide +kernel) rfl
  · refine i_bl (pc' := 8) [(.aload_n 0, 1), (.iload_n 1, 1)] [some (.ref 2), some (.int x1)] [.int x1, .ref 2] (by decide +kernel) rfl ?_
    refine i_aS (pc' := 9) L (by decide +kernel) rfl h0 ?_
    refine i_go (t := 20) (off := 11) (by decide +kernel) ?_
    exact i_ri (by decide +kernel) rfl

/-! 182 LanternChessLaw.draw([IIII)I -/
noncomputable def d_182 (L : Nat) (x1 : Int32) (x2 : Int32) (x3 : Int32) (m : Mm) : Option Int32 := (d_181 L x1 m).bind fun v1 => if ((x3 - x2) + 1) = 0 then none else (some (x2 + ((v1 &&& (2147483647 : Int32)) - (v1 &&& (2147483647 : Int32)) / ((x3 - x2) + 1) * ((x3 - x2) + 1))))
theorem t_182 {L nx : Nat} (hN : okn nx) {b z : Nat} {m : Mm} (h0 : ok nx 2 99) {x1 : Int32} {x2 : Int32} {x3 : Int32}  : Im (d_182 L x1 x2 x3 m) (kI L nx m) (ev_dn b z 182 0 [some (.ref 2), some (.int x1), some (.int x2), some (.int x3)] [] (nx, mem L nx m)) := by
  unfold d_182
  refine i_bl (pc' := 3) [(.iload_n 2, 1), (.aload_n 0, 1), (.iload_n 1, 1)] [some (.ref 2), some (.int x1), some (.int x2), some (.int x3)] [.int x1, .ref 2, .int x2] (by decide +kernel) rfl ?_
  refine i_cs (t := 181) (na := 2) (ml := 2) (idx := 8) (pc' := 6) (st' := [.int x2]) (en := [some (.ref 2), some (.int x1)]) (av := [.ref 2, .int x1]) (vo := fun v => some (.int v)) (mo := fun _ => m) (s2 := fun v => .int v :: [.int x2]) (by decide +kernel) ⟨rfl, rfl, rfl, rfl, rfl, rfl⟩ (fun _ => rfl) (t_181 hN (h0 := h0)) (fun v1 => ?_)
  refine i_lc (idx := 14) (p := 13200) (x := 2147483647) (pc' := 8) (by decide +kernel) ?_
  refine i_bl (pc' := 14) [(.iand, 1), (.iload_n 3, 1), (.iload_n 2, 1), (.isub, 1), (.iconst 1, 1), (.iadd, 1)] [some (.ref 2), some (.int x1), some (.int x2), some (.int x3)] [.int ((x3 - x2) + 1), .int (v1 &&& (2147483647 : Int32)), .int x2] (by decide +kernel) rfl ?_
  refine i_rem (pc' := 15) (by decide +kernel) ?_
  refine i_bl (pc' := 16) [(.iadd, 1)] [some (.ref 2), some (.int x1), some (.int x2), some (.int x3)] [.int (x2 + ((v1 &&& (2147483647 : Int32)) - (v1 &&& (2147483647 : Int32)) / ((x3 - x2) + 1) * ((x3 - x2) + 1)))] (by decide +kernel) rfl ?_
  exact i_ri (by decide +kernel) rfl

