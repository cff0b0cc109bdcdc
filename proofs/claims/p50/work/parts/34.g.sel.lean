/-! The builder's private methods are selected on her, out of the tables' words. -/
theorem eb_selp {s : State} {args : Array Value} {C : String} {n : Nat} {y : MethodName} (hy : y.cls ≠ "java/lang/invoke/MethodHandle" ∧ y.cls ≠ "java/lang/invoke/VarHandle")
    (hins : (Cond.instantiable C n).before args s = true) (hsm : (Cond.sameMethod y.cls y.cls y.name y.desc).before args s = true) (hpriv : (Cond.privateMethod y).before args s = true) (hinst : (Cond.instanceMethod y).before args s = true) : (Cond.selects C y y).before args s = true := by
  obtain ⟨c, k, hc, hk, -, -, -, -⟩ := Cond.instantiable_spec hins
  obtain ⟨mk, methM, hnamed, hmethM, -, -⟩ := Cond.instanceMethod_spec hinst
  have hfound : s.methodFound? y.cls y.name y.desc = some mk := State.methodFound?_of_named hnamed hy
  obtain ⟨-, k2, hk2, hni⟩ := Cond.sameMethod_spec (findClass_of_methodNamed hnamed) hfound hsm
  have hsel : selectMethod {} s.vm c mk = .method mk := selectMethod_private hmethM (Cond.privateMethod_at hpriv mk methM hnamed hmethM)
  simp only [Cond.before, Cond.holds, Cond.value, hc, hfound, hnamed, hsel, hk2]
  simp
  exact hni
theorem eb_pv_ok {s : State} {args : Array Value} (hts : ∀ w ∈ lw_tbl, w.before args s = true) : ∀ w ∈ eb_gw, w.before args s = true := by
  intro w hw
  rcases List.mem_append.mp hw with h | h
  · unfold eb_pv at h
    simp only [List.mem_cons, List.not_mem_nil, or_false] at h
    rcases h with rfl | rfl | rfl | rfl
    · exact eb_selp (n := 4) ⟨by decide +kernel, by decide +kernel⟩ (hts _ (ev_mem (p := 14141) (by decide +kernel))) (hts _ (ev_mem (p := 17022) (by decide +kernel))) (hts _ (ev_mem (p := 14179) (by decide +kernel))) (hts _ (ev_mem (p := 14180) (by decide +kernel)))
    · exact eb_selp (n := 4) ⟨by decide +kernel, by decide +kernel⟩ (hts _ (ev_mem (p := 14141) (by decide +kernel))) (hts _ (ev_mem (p := 17023) (by decide +kernel))) (hts _ (ev_mem (p := 14183) (by decide +kernel))) (hts _ (ev_mem (p := 14184) (by decide +kernel)))
    · exact eb_selp (n := 4) ⟨by decide +kernel, by decide +kernel⟩ (hts _ (ev_mem (p := 14141) (by decide +kernel))) (hts _ (ev_mem (p := 17024) (by decide +kernel))) (hts _ (ev_mem (p := 14230) (by decide +kernel))) (hts _ (ev_mem (p := 14231) (by decide +kernel)))
    · exact eb_selp (n := 4) ⟨by decide +kernel, by decide +kernel⟩ (hts _ (ev_mem (p := 14141) (by decide +kernel))) (hts _ (ev_mem (p := 17025) (by decide +kernel))) (hts _ (ev_mem (p := 14234) (by decide +kernel))) (hts _ (ev_mem (p := 14235) (by decide +kernel)))
  · exact hts w (List.mem_filter.mp h).1
