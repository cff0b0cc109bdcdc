/-! More rules: void readers, the law's answer, a call behind which there is one array more. -/
abbrev kV (L nx : Nat) (m : Mm) : Unit → ev_Q → Prop := fun _ e => e = some (.inl none, (nx, mem L nx m))
/-- the law's answer, whatever the memory -/
abbrev kX : Bool → ev_Q → Prop := fun r e => ∃ μ', e = some (.inl (some (.int (bi r))), μ')
section MORE
variable {α : Type} {K : α → ev_Q → Prop} {L nx b z M pc : Nat} {lo : ev_L} {st st' : List Value} {m : Mm}
theorem mem_new (h : sh_c nx = 100 ∧ sh_n nx = 2) : ev_up (mem L nx m) nx (ev_ia 0 2 (fun _ => 0)) = mem L (nx + 1) (wa m nx (fun _ => 0)) := by
  funext a
  unfold ev_up mem wa
  by_cases e : a = nx
  · subst e
    rw [if_pos rfl, if_pos rfl, cel_ia ⟨h.1, Nat.lt_succ_self _⟩, h.2]
  · rw [if_neg e, if_neg e]
    unfold cel
    by_cases q : a < nx
    · rw [if_pos q, if_pos (Nat.lt_succ_of_lt q)]
    · rw [if_neg q, if_neg (by omega)]
theorem i_cB {β : Type} {qc : Option β} {f : β → Option α} {vo : β → Option Value} {mo : β → Mm} {s2 : β → List Value} {t na ml idx pc' k1 k2 : Nat} {av : List Value} {en : ev_L} (hd : cd_ M pc t 0 na ml k1 k2 pc' (.invokestatic idx)) (ho : co_ na ml st av st' en) (hz : k1 ≤ b ∧ k2 ≤ z) (hs : ∀ r, (vo r).toList ++ st' = s2 r) (hc : Im qc (fun r e => e = some (.inl (vo r), (nx + 1, mem L (nx + 1) (mo r)))) (ev_dn k1 k2 t 0 en [] (nx, mem L nx m))) (h : ∀ r, Im (f r) K (ev_dn (b - k1) (z - k2) M pc' lo (s2 r) (nx + 1, mem L (nx + 1) (mo r)))) : Im (qc.bind f) K (ev_dn b z M pc lo st (nx, mem L nx m)) := by
  refine i_st (i_c0 hd ho rfl rfl rfl rfl rfl rfl hz) ?_
  have hp := hd.2.2.2.2.2.2.2.2.2.2
  intro r hr
  cases hq : qc with
  | none => rw [hq] at hr; cases hr
  | some w =>
    rw [hq] at hr
    rw [hc w hq]
    unfold ev_bh
    dsimp only
    rw [hs, hp]
    exact h w r hr
end MORE
