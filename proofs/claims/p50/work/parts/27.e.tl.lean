/-! The end of the class's constructor, as a program in numbers. -/
section NE
/-! 119 LanternChess.<init>()V -/
noncomputable def d_119 (a0 : Nat) (m : Mm) : Option Mm := (d_48 (sh_r a0 1) 5 5 m).bind fun m1 => (d_12 2 0).bind fun v2 => (d_50 (sh_r a0 1) v2 0 m1).bind fun m3 => (d_12 0 0).bind fun v4 => (d_50 (sh_r a0 1) v4 2 m3).bind fun m5 => (d_12 2 4).bind fun v6 => (d_50 (sh_r a0 1) v6 6 m5).bind fun m7 => (d_12 4 4).bind fun v8 => (d_50 (sh_r a0 1) v8 8 m7).bind fun m9 => some m9
theorem t_119 {L nx : Nat} (hN : okn nx) {b z : Nat} {m : Mm} {a0 : Nat} (h0 : ok nx a0 10)   : Im (d_119 a0 m) (wV L nx) (ev_dn b z 119 111 [some (.ref a0)] [] (nx, mem L nx m)) := by
  unfold d_119
  refine i_bl (pc' := 112) [(.aload_n 0, 1)] [some (.ref a0)] [.ref a0] (by decide +kernel) rfl ?_
  refine i_gr (idx := 19) (ci := 10) (k := 1) (t := 2) (p := 12129) (pc' := 115) (by decide +kernel) h0 ?_
  refine i_bl (pc' := 117) [(.iconst 5, 1), (.iconst 5, 1)] [some (.ref a0)] [.int 5, .int 5, .ref (sh_r a0 1)] (by decide +kernel) rfl ?_
  refine i_cv (ci := 3) (t := 48) (na := 3) (ml := 3) (idx := 69) (pc' := 120) (st' := []) (en := [some (.ref (sh_r a0 1)), some (.int 5), some (.int 5)]) (av := [.int 5, .int 5]) (vo := fun _ => none) (mo := fun m => m) (s2 := fun _ => []) (by decide +kernel) (by decide +kernel) (o_10_1 hN h0) ⟨rfl, rfl, rfl, rfl, rfl, rfl⟩ (fun _ => rfl) (t_48 hN (h0 := (o_10_1 hN h0))) (fun m1 => ?_)
  refine i_bl (pc' := 121) [(.aload_n 0, 1)] [some (.ref a0)] [.ref a0] (by decide +kernel) rfl ?_
  refine i_gr (idx := 19) (ci := 10) (k := 1) (t := 2) (p := 12129) (pc' := 124) (by decide +kernel) h0 ?_
  refine i_bl (pc' := 126) [(.iconst 2, 1), (.iconst 0, 1)] [some (.ref a0)] [.int 0, .int 2, .ref (sh_r a0 1)] (by decide +kernel) rfl ?_
  refine i_cs (t := 12) (na := 2) (ml := 2) (idx := 73) (pc' := 129) (st' := [.ref (sh_r a0 1)]) (en := [some (.int 2), some (.int 0)]) (av := [.int 2, .int 0]) (vo := fun v => some (.int v)) (mo := fun _ => m1) (s2 := fun v => .int v :: [.ref (sh_r a0 1)]) (by decide +kernel) ⟨rfl, rfl, rfl, rfl, rfl, rfl⟩ (fun _ => rfl) (t_12 hN ) (fun v2 => ?_)
  refine i_bl (pc' := 130) [(.iconst 0, 1)] [some (.ref a0)] [.int 0, .int v2, .ref (sh_r a0 1)] (by decide +kernel) rfl ?_
  refine i_cv (ci := 3) (t := 50) (na := 3) (ml := 3) (idx := 79) (pc' := 133) (st' := []) (en := [some (.ref (sh_r a0 1)), some (.int v2), some (.int 0)]) (av := [.int v2, .int 0]) (vo := fun _ => none) (mo := fun m => m) (s2 := fun _ => []) (by decide +kernel) (by decide +kernel) (o_10_1 hN h0) ⟨rfl, rfl, rfl, rfl, rfl, rfl⟩ (fun _ => rfl) (t_50 hN (h0 := (o_10_1 hN h0))) (fun m3 => ?_)
  refine i_bl (pc' := 134) [(.aload_n 0, 1)] [some (.ref a0)] [.ref a0] (by decide +kernel) rfl ?_
  refine i_gr (idx := 19) (ci := 10) (k := 1) (t := 2) (p := 12129) (pc' := 137) (by decide +kernel) h0 ?_
  refine i_bl (pc' := 139) [(.iconst 0, 1), (.iconst 0, 1)] [some (.ref a0)] [.int 0, .int 0, .ref (sh_r a0 1)] (by decide +kernel) rfl ?_
  refine i_cs (t := 12) (na := 2) (ml := 2) (idx := 73) (pc' := 142) (st' := [.ref (sh_r a0 1)]) (en := [some (.int 0), some (.int 0)]) (av := [.int 0, .int 0]) (vo := fun v => some (.int v)) (mo := fun _ => m3) (s2 := fun v => .int v :: [.ref (sh_r a0 1)]) (by decide +kernel) ⟨rfl, rfl, rfl, rfl, rfl, rfl⟩ (fun _ => rfl) (t_12 hN ) (fun v4 => ?_)
  refine i_bl (pc' := 143) [(.iconst 2, 1)] [some (.ref a0)] [.int 2, .int v4, .ref (sh_r a0 1)] (by decide +kernel) rfl ?_
  refine i_cv (ci := 3) (t := 50) (na := 3) (ml := 3) (idx := 79) (pc' := 146) (st' := []) (en := [some (.ref (sh_r a0 1)), some (.int v4), some (.int 2)]) (av := [.int v4, .int 2]) (vo := fun _ => none) (mo := fun m => m) (s2 := fun _ => []) (by decide +kernel) (by decide +kernel) (o_10_1 hN h0) ⟨rfl, rfl, rfl, rfl, rfl, rfl⟩ (fun _ => rfl) (t_50 hN (h0 := (o_10_1 hN h0))) (fun m5 => ?_)
  refine i_bl (pc' := 147) [(.aload_n 0, 1)] [some (.ref a0)] [.ref a0] (by decide +kernel) rfl ?_
  refine i_gr (idx := 19) (ci := 10) (k := 1) (t := 2) (p := 12129) (pc' := 150) (by decide +kernel) h0 ?_
  refine i_bl (pc' := 152) [(.iconst 2, 1), (.iconst 4, 1)] [some (.ref a0)] [.int 4, .int 2, .ref (sh_r a0 1)] (by decide +kernel) rfl ?_
  refine i_cs (t := 12) (na := 2) (ml := 2) (idx := 73) (pc' := 155) (st' := [.ref (sh_r a0 1)]) (en := [some (.int 2), some (.int 4)]) (av := [.int 2, .int 4]) (vo := fun v => some (.int v)) (mo := fun _ => m5) (s2 := fun v => .int v :: [.ref (sh_r a0 1)]) (by decide +kernel) ⟨rfl, rfl, rfl, rfl, rfl, rfl⟩ (fun _ => rfl) (t_12 hN ) (fun v6 => ?_)
  refine i_bl (pc' := 157) [(.bipush (6), 2)] [some (.ref a0)] [.int 6, .int v6, .ref (sh_r a0 1)] (by decide +kernel) rfl ?_
  refine i_cv (ci := 3) (t := 50) (na := 3) (ml := 3) (idx := 79) (pc' := 160) (st' := []) (en := [some (.ref (sh_r a0 1)), some (.int v6), some (.int 6)]) (av := [.int v6, .int 6]) (vo := fun _ => none) (mo := fun m => m) (s2 := fun _ => []) (by decide +kernel) (by decide +kernel) (o_10_1 hN h0) ⟨rfl, rfl, rfl, rfl, rfl, rfl⟩ (fun _ => rfl) (t_50 hN (h0 := (o_10_1 hN h0))) (fun m7 => ?_)
  refine i_bl (pc' := 161) [(.aload_n 0, 1)] [some (.ref a0)] [.ref a0] (by decide +kernel) rfl ?_
  refine i_gr (idx := 19) (ci := 10) (k := 1) (t := 2) (p := 12129) (pc' := 164) (by decide +kernel) h0 ?_
  refine i_bl (pc' := 166) [(.iconst 4, 1), (.iconst 4, 1)] [some (.ref a0)] [.int 4, .int 4, .ref (sh_r a0 1)] (by decide +kernel) rfl ?_
  refine i_cs (t := 12) (na := 2) (ml := 2) (idx := 73) (pc' := 169) (st' := [.ref (sh_r a0 1)]) (en := [some (.int 4), some (.int 4)]) (av := [.int 4, .int 4]) (vo := fun v => some (.int v)) (mo := fun _ => m7) (s2 := fun v => .int v :: [.ref (sh_r a0 1)]) (by decide +kernel) ⟨rfl, rfl, rfl, rfl, rfl, rfl⟩ (fun _ => rfl) (t_12 hN ) (fun v8 => ?_)
  refine i_bl (pc' := 171) [(.bipush (8), 2)] [some (.ref a0)] [.int 8, .int v8, .ref (sh_r a0 1)] (by decide +kernel) rfl ?_
  refine i_cv (ci := 3) (t := 50) (na := 3) (ml := 3) (idx := 79) (pc' := 174) (st' := []) (en := [some (.ref (sh_r a0 1)), some (.int v8), some (.int 8)]) (av := [.int v8, .int 8]) (vo := fun _ => none) (mo := fun m => m) (s2 := fun _ => []) (by decide +kernel) (by decide +kernel) (o_10_1 hN h0) ⟨rfl, rfl, rfl, rfl, rfl, rfl⟩ (fun _ => rfl) (t_50 hN (h0 := (o_10_1 hN h0))) (fun m9 => ?_)
  exact i_rv (by decide +kernel) rfl

end NE
