/-! What is so of the memory between two calls. -/
def MA (m : Mm) (a o : Nat) (r : Nat → Int) : Prop := ∀ k, k < 584 → m a (o + k) = zI (r k)
/-- the texts -/
def TX (m : Mm) : Prop := ∀ k, k < 17 → ∀ i, i < (ev_tb k).length → m (3 + k) i = (ev_tb k).getD i 0
def iBuf (m : Mm) : Prop := ∃ l : Nat, l ≤ 600 ∧ m 21 1 = zI (l : Nat) ∧ m 249 18 = zI (l : Nat) ∧ ∀ i, i < l → ∃ v : Int, -128 ≤ v ∧ v ≤ 127 ∧ m 22 i = zI v ∧ m 264 i = zI v
theorem RG.mono {n n' : Int} {r : Nat → Int} {W H : Nat} (h : RG n r W H) (hn : n ≤ n') : RG n' r W H := by
  obtain ⟨h1, h2, h3, h4, h5, h6, h7, h8, h9, h10, h11, h12⟩ := h
  refine ⟨h1, ⟨h2.1, by omega⟩, h3, h4, h5, h6, h7, h8, h9, fun s hs => ?_, h11, h12⟩
  obtain ⟨a, b⟩ := h10 s hs
  exact ⟨⟨a.1, by omega⟩, b⟩
theorem MA.mm {m m' : Mm} {a o : Nat} {r : Nat → Int} (h : MA m a o r) (e : m' a = m a) : MA m' a o r := fun k hk => by rw [e]; exact h k hk
theorem ilg_s (x : Int32) : ilg x x = 0 := by
  unfold ilg
  rw [if_neg (fun h => Int32.lt_irrefl h), if_pos rfl]
