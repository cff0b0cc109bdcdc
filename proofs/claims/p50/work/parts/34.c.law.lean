abbrev eb_V (bo : Nat) (cZ : ClassId) (g : Nat → Int32) (b v : Nat) (cB : ClassId) (M : Nat) (f : Nat → Int32) (lx : List Nat) : va_W := [(bo, .inl (cZ, 64, .inl g)), (b, .inr (0, [.ref v, .int 0, .int 0, .int (nI lx.length)])), (v, .inl (cB, M, .inl f))]
theorem eb_sf {args : Array Value} {s : State} (hts : ∀ w ∈ eb_gw, w.before args s = true) {n d : String} (hw : Cond.laysFinal "java/lang/String" "java/lang/String" n d ∈ eb_gw) : ∀ cf kf fi fd, s.fieldFound? "java/lang/String" n d = some (cf, kf, fi, fd) → fd.isStatic = false := by
  intro cf kf fi fd h
  obtain ⟨c1, k1, c1', k1', i1, fv, hc1, hk1, hf1, hs1, -⟩ := Cond.laysFinal_spec (hts _ hw)
  rw [hf1] at h
  cases h
  exact hs1
/-- a text in the world is a text -/
theorem eb_ofW {D : va_G} {s : State} {H : Heap} {q v n : Nat} {c2 : ClassId} {f f2 : Nat → Int32} (hK : va_K D eb_cl [(c2, .byte)] s) (hP : va_P D eb_cl [(q, .inr (1, [.ref v, .int 0, .int 0, .int 0])), (v, .inl (c2, n, .inl f))] H)
    (h1 : ∀ cf kf fi fd, s.fieldFound? "java/lang/String" "coder" "B" = some (cf, kf, fi, fd) → fd.isStatic = false) (h2 : ∀ cf kf fi fd, s.fieldFound? "java/lang/String" "value" "[B" = some (cf, kf, fi, fd) → fd.isStatic = false) (hf : ∀ j, j < n → f j = f2 j) :
    va_O "java/lang/String" q (fun _ => False) s H ∧ va_OF "java/lang/String" "coder" "B" (.int 0) q (fun _ => False) s H ∧ va_OF "java/lang/String" "value" "[B" (.ref v) q (fun _ => False) s H ∧ va_T .byte v n (fun j => .int (f2 j)) (fun _ => False) s H := by
  obtain ⟨r, hr, cell, g1, g2, g3, g4⟩ := hP 0 _ rfl
  cases hr
  obtain ⟨hs, hca⟩ := hK.1 1 _ rfl
  obtain ⟨cf1, kf1, fi1, fd1, e1, e2⟩ := hs 1 (by decide)
  obtain ⟨cf0, kf0, fi0, fd0, e3, e4⟩ := hs 0 (by decide)
  refine ⟨⟨cell, g1, (by rw [g3]; rfl), (by rw [g2]; exact hca.1), fun z => z⟩, ⟨cf1, kf1, fi1, fd1, cell, e1, h1 _ _ _ _ e1, g1, (by rw [g3]; exact (fun z => by cases z)), (by rw [e2]; exact g4 1 (by decide)), fun z => z⟩, ⟨cf0, kf0, fi0, fd0, cell, e3, h2 _ _ _ _ e3, g1, (by rw [g3]; exact (fun z => by cases z)), (by rw [e4]; exact g4 0 (by decide)), fun z => z⟩, ?_⟩
  refine ⟨vp_cell c2 (n, .inl f), hP 1 _ rfl, (hK.2 0 _ rfl).1 n (fun j => .int (f j)), (fun z => by cases z), ?_, ?_, fun j hj => ?_, fun z => z⟩
  · exact Nat.le_of_eq (arrV_size _ _ _).symm
  · show (arrV c2 n (fun j => Value.int (f j))).slots.size.toInt32 = _
    rw [arrV_size]
  · show (arrV c2 n (fun j => Value.int (f j))).slots[j]? = _
    rw [arrV_read _ _ hj, hf j hj]
