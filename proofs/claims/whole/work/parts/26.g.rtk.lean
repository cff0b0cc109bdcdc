/-! A setup text: its tokens, as the reference takes them. -/
section TG
variable {m M : Mm} {L : Nat} {B : Nat → Int}
/-- the bytes of the text, in the reference -/
def BM (m : Mm) (B : Nat → Int) (L : Nat) : Prop := L ≤ 600 ∧ m 249 19 = zI (L : Nat) ∧ ∀ i, i < L → (-128 ≤ B i ∧ B i ≤ 127) ∧ m 264 i = zI (B i)
def ub (b : Int) : Int := if b < 0 then b + 256 else b
theorem ub_a : ∀ k : Nat, k < 256 → zI ((k : Int) - 128) &&& (255 : Int32) = zI (ub ((k : Int) - 128)) := by decide +kernel
theorem ub_n {b : Int} (h1 : -128 ≤ b) (h2 : b ≤ 127) : zI b &&& (255 : Int32) = zI (ub b) := by
  have := ub_a (b + 128).toNat (by omega)
  rw [show (((b + 128).toNat : Nat) : Int) - 128 = b by omega] at this
  exact this
theorem ub_r {b : Int} (h1 : -128 ≤ b) (h2 : b ≤ 127) : 0 ≤ ub b ∧ ub b ≤ 255 ∧ (ub b ≤ 127 → ub b = b) ∧ (0 ≤ b → ub b = b) := by
  unfold ub
  split <;> omega
theorem m284 (h : BM m B L) {i : Nat} (hi : i ≤ 1000) : d_284 249 (zI (i : Nat)) m = some (zI (if i < L then ub (B i) else -1)) := by
  obtain ⟨h0, h1, h2⟩ := h
  unfold d_284
  rw [h1]
  by_cases q : i < L
  · rw [if_neg (by rw [zI_le (by omega) (by omega) (by omega) (by omega)]; omega), m_r17, n_264, if_pos (in_k (by omega) (by decide)), z_ix (by omega), (h2 i q).2, if_pos q, ub_n (h2 i q).1.1 (h2 i q).1.2]
  · rw [if_pos (by rw [zI_le (by omega) (by omega) (by omega) (by omega)]; omega), if_neg q, show (-1 : Int32) = zI (-1) from by decide]
theorem m185b (h : BM m B L) {i : Nat} {lo hi : Int} (l0 : 0 ≤ lo) (l1 : lo ≤ 127) (h1 : 0 ≤ hi) (h0 : hi ≤ 127) : d_185 (zI (if i < L then ub (B i) else -1)) (zI lo) (zI hi) = some (decide (i < L ∧ lo ≤ B i ∧ B i ≤ hi)) := by
  by_cases q : i < L
  · have b := h.2.2 i q
    have u := ub_r b.1.1 b.1.2
    rw [if_pos q, m185 (by omega) (by omega) (by omega) (by omega) (by omega) (by omega)]
    refine congrArg some ?_
    by_cases z : lo ≤ ub (B i) ∧ ub (B i) ≤ hi
    · have := u.2.2.1 (by omega)
      rw [decide_eq_true z, decide_eq_true ⟨q, by omega, by omega⟩]
    · rw [decide_eq_false z, decide_eq_false (fun w => z (by have := u.2.2.2 (by omega); omega))]
  · rw [if_neg q, m185 (by omega) (by omega) (by omega) (by omega) (by omega) (by omega), decide_eq_false (by omega), decide_eq_false (fun w => q w.1)]
/-- the words, in the reference's order -/
def kk (w : Nat) : Nat := [0, 1, 2, 3, 4, 5, 12, 13, 6, 7, 8, 9, 10, 11].getD w 0
def ps (w : Nat) : Nat := [0, 5, 11, 17, 22, 28, 34, 40, 44, 49, 55, 60, 67, 74, 79].getD w 0
def wm (B : Nat → Int) (s e k : Nat) : Bool := decide ((e : Int) - (s : Nat) = ((ev_tb k).length : Nat) ∧ ff (fun i => !(decide (zI (B (s + i)) = (ev_tb k).getD i 0))) (ev_tb k).length = (ev_tb k).length)
def wdn (B : Nat → Int) (s e : Nat) : Nat := ff (fun w => wm B s e (kk w)) 14
def wdx (B : Nat → Int) (s e : Nat) : Int := if wdn B s e < 14 then (wdn B s e : Nat) else -1
theorem kk_t : ∀ w, w < 14 → kk w < 17 ∧ ps w + (ev_tb (kk w)).length < (ev_tb 15).length ∧ ps (w + 1) = ps w + (ev_tb (kk w)).length + 1 ∧ (ev_tb 15).getD (ps w + (ev_tb (kk w)).length) 0 = 32 ∧ ∀ i, i < (ev_tb (kk w)).length → (ev_tb 15).getD (ps w + i) 0 = (ev_tb (kk w)).getD i 0 ∧ (ev_tb (kk w)).getD i 0 ≠ 32 := by decide +kernel
theorem kk_u : ∀ w, w < 14 → ∀ v, v < 14 → w ≠ v → (ev_tb (kk w)).length ≠ (ev_tb (kk v)).length ∨ ¬ ∀ i, i < (ev_tb (kk w)).length → (ev_tb (kk w)).getD i 0 = (ev_tb (kk v)).getD i 0 := by decide +kernel
theorem n_18 : sh_n 18 = (ev_tb 15).length ∧ (ev_tb 15).length = 79 := by decide +kernel
theorem wm_t {s e k : Nat} (h : wm B s e k = true) : e = s + (ev_tb k).length ∧ ∀ i, i < (ev_tb k).length → zI (B (s + i)) = (ev_tb k).getD i 0 := by
  obtain ⟨a, b⟩ := of_decide_eq_true h
  refine ⟨by omega, fun i hi => ?_⟩
  have := ff_lt (p := fun i => !(decide (zI (B (s + i)) = (ev_tb k).getD i 0))) (n := (ev_tb k).length) (k := i) (by omega)
  simpa using this
theorem wdn_u {s e w : Nat} (hw : w < 14) (h : wm B s e (kk w) = true) : wdn B s e = w := by
  have hn : wdn B s e < 14 := by
    unfold wdn
    have le := ff_le (fun w => wm B s e (kk w)) 14
    by_cases q : ff (fun w => wm B s e (kk w)) 14 < 14
    · exact q
    · have := ff_lt (p := fun w => wm B s e (kk w)) (n := 14) (k := w) (by omega)
      rw [h] at this
      cases this
  have ha : wm B s e (kk (wdn B s e)) = true := ff_at (p := fun w => wm B s e (kk w)) (n := 14) hn
  by_cases q : wdn B s e = w
  · exact q
  · exfalso
    obtain ⟨a1, a2⟩ := wm_t ha
    obtain ⟨b1, b2⟩ := wm_t h
    rcases kk_u _ hn w hw q with z | z
    · exact z (by omega)
    · exact z (fun i hi => (a2 i hi).symm.trans (b2 i (by omega)))
theorem wm_f {s e k : Nat} (h1 : e = s + (ev_tb k).length) (h2 : ∀ i, i < (ev_tb k).length → zI (B (s + i)) = (ev_tb k).getD i 0) : wm B s e k = true := by
  refine decide_eq_true ⟨by omega, ?_⟩
  have le := ff_le (fun i => !(decide (zI (B (s + i)) = (ev_tb k).getD i 0))) (ev_tb k).length
  by_cases q : ff (fun i => !(decide (zI (B (s + i)) = (ev_tb k).getD i 0))) (ev_tb k).length < (ev_tb k).length
  · have := ff_at (p := fun i => !(decide (zI (B (s + i)) = (ev_tb k).getD i 0))) (n := (ev_tb k).length) q
    have := h2 _ q
    simp_all
  · omega
theorem m287 (h : BM m B L) (hX : TX m) {s e : Nat} (hs : s ≤ e) (he : e ≤ L) (e1 : m 249 21 = zI (s : Nat)) (e2 : m 249 20 = zI (e : Nat)) : d_287 249 m = some (zI (wdx B s e)) := by
  have h600 := h.1
  have tx : ∀ i, i < 79 → m 18 i = (ev_tb 15).getD i 0 := fun i hi => hX 15 (by decide) i (by rw [n_18.2]; exact hi)
  have sk_ : ∀ w, w < 14 → d_287_102 249 (zI (w : Nat)) m (zI (ps w : Nat)) = some (.inl (zI ((w + 1 : Nat) : Int), zI (ps (w + 1) : Nat))) := fun w hw => by
    obtain ⟨k1, k2, k3, k4, k5⟩ := kk_t w hw
    have n2 := n_18.2
    unfold d_287_102
    have key := it_row (f := fun s => s_287_102 249 (zI (w : Nat)) m s) (fun i => zI ((ps w + i : Nat) : Int)) (Sum.inl (zI ((w + 1 : Nat) : Int), zI (ps (w + 1) : Nat)) : (Int32 × Int32) ⊕ Int32) (ev_tb (kk w)).length (fun i hi => ?_) ?_
    · exact key
    · unfold s_287_102
      rw [n_18.1, if_pos (in_k (by omega) (by omega)), z_ix (by omega), tx _ (by omega), (k5 i hi).1, if_neg (k5 i hi).2, wbs, zl_1, zI_add]
      rfl
    · unfold s_287_102 d_287_121
      rw [n_18.1, if_pos (in_k (by omega) (by omega)), z_ix (by omega), tx _ (by omega), k4, if_pos rfl, wbs, wbs, zl_1, zI_add, zI_add, k3]
      rfl
  have st : ∀ w, w < 14 → s_287_4 249 m (zI (w : Nat)) (zI (ps w : Nat)) = some (if wm B s e (kk w) = true then .inr (zI (w : Nat)) else .inl (zI ((w + 1 : Nat) : Int), zI (ps (w + 1) : Nat))) := fun w hw => by
    obtain ⟨k1, k2, k3, k4, k5⟩ := kk_t w hw
    have n2 := n_18.2
    unfold s_287_4 d_287_16
    rw [n_18.1, zI_on, if_neg (by rw [zI_le (by omega) (by omega) (by omega) (by omega)]; omega)]
    have key := it_ff (F := fun u => s_287_16 249 (zI (w : Nat)) (zI (ps w : Nat)) m u) (fun i => zI (i : Nat)) (fun i => decide (¬ (i < e - s ∧ zI (B (s + i)) = (ev_tb (kk w)).getD i 0))) (fun _ => (Sum.inl (zI ((w + 1 : Nat) : Int), zI (ps (w + 1) : Nat)) : (Int32 × Int32) ⊕ Int32)) (if e = s + (ev_tb (kk w)).length then .inr (zI (w : Nat)) else .inl (zI ((w + 1 : Nat) : Int), zI (ps (w + 1) : Nat))) (ev_tb (kk w)).length (fun i hi hp => ?_) (fun i hi hp => ?_) ?_
    · refine key.trans (congrArg some ?_)
      have le := ff_le (fun i => decide (¬ (i < e - s ∧ zI (B (s + i)) = (ev_tb (kk w)).getD i 0))) (ev_tb (kk w)).length
      by_cases q : ff (fun i => decide (¬ (i < e - s ∧ zI (B (s + i)) = (ev_tb (kk w)).getD i 0))) (ev_tb (kk w)).length < (ev_tb (kk w)).length
      · have at_ := of_decide_eq_true (ff_at (p := fun i => decide (¬ (i < e - s ∧ zI (B (s + i)) = (ev_tb (kk w)).getD i 0))) (n := (ev_tb (kk w)).length) q)
        rw [if_pos q, if_neg (fun z => ?_)]
        obtain ⟨z1, z2⟩ := wm_t z
        exact at_ ⟨by omega, z2 _ q⟩
      · rw [if_neg q]
        have al : ∀ i, i < (ev_tb (kk w)).length → i < e - s ∧ zI (B (s + i)) = (ev_tb (kk w)).getD i 0 := fun i hi => by
          have := ff_lt (p := fun i => decide (¬ (i < e - s ∧ zI (B (s + i)) = (ev_tb (kk w)).getD i 0))) (n := (ev_tb (kk w)).length) (k := i) (by omega)
          have := of_decide_eq_false this
          exact Decidable.not_not.mp this
        by_cases qe : e = s + (ev_tb (kk w)).length
        · rw [if_pos qe, if_pos (wm_f qe (fun i hi => (al i hi).2))]
        · rw [if_neg qe, if_neg (fun z => qe (wm_t z).1)]
    · have hp := Decidable.not_not.mp (of_decide_eq_false hp)
      unfold s_287_16
      rw [n_18.1, zI_add, show ((ps w : Nat) : Int) + (i : Nat) = ((ps w + i : Nat) : Int) by omega, if_pos (in_k (by omega) (by omega)), z_ix (by omega), tx _ (by omega), (k5 i hi).1, if_neg (k5 i hi).2, e1, e2, zI_add, show ((s : Nat) : Int) + (i : Nat) = ((s + i : Nat) : Int) by omega, if_neg (by rw [zI_le (by omega) (by omega) (by omega) (by omega)]; omega), m_r17, n_264, if_pos (in_k (by omega) (by decide)), if_pos (in_k (by omega) (by omega)), z_ix (by omega), (h.2.2 (s + i) (by omega)).2, if_neg (fun z => z hp.2), wbs, zl_1, zI_add]
      rfl
    · have hp := of_decide_eq_true hp
      have out : d_287_73 249 (zI (w : Nat)) (zI (ps w : Nat)) (zI (i : Nat)) m = some (.inl (zI ((w + 1 : Nat) : Int), zI (ps (w + 1) : Nat))) := by
        unfold d_287_73
        rw [n_18.1, zI_add, show ((ps w : Nat) : Int) + (i : Nat) = ((ps w + i : Nat) : Int) by omega, if_pos (in_k (by omega) (by omega)), z_ix (by omega), tx _ (by omega), (k5 i hi).1, if_pos (k5 i hi).2, sk_ w hw]
      unfold s_287_16
      rw [n_18.1, zI_add, show ((ps w : Nat) : Int) + (i : Nat) = ((ps w + i : Nat) : Int) by omega, if_pos (in_k (by omega) (by omega)), z_ix (by omega), tx _ (by omega), (k5 i hi).1, if_neg (k5 i hi).2, e1, e2, zI_add, show ((s : Nat) : Int) + (i : Nat) = ((s + i : Nat) : Int) by omega, out]
      by_cases q : e ≤ s + i
      · rw [if_pos (by rw [zI_le (by omega) (by omega) (by omega) (by omega)]; omega)]
        rfl
      · rw [if_neg (by rw [zI_le (by omega) (by omega) (by omega) (by omega)]; omega), m_r17, n_264, if_pos (in_k (by omega) (by decide)), if_pos (in_k (by omega) (by omega)), z_ix (by omega), (h.2.2 (s + i) (by omega)).2, if_pos (fun z => hp ⟨by omega, z⟩)]
        rfl
    · unfold s_287_16 d_287_73
      rw [n_18.1, zI_add, show ((ps w : Nat) : Int) + ((ev_tb (kk w)).length : Nat) = ((ps w + (ev_tb (kk w)).length : Nat) : Int) by omega, if_pos (in_k (by omega) (by omega)), z_ix (by omega), tx _ (by omega), k4, if_pos rfl, if_pos (in_k (by omega) (by omega)), if_neg (fun z => z rfl), e1, e2, zI_add, sk_ w hw]
      by_cases qe : e = s + (ev_tb (kk w)).length
      · rw [if_neg (fun z => z (congrArg zI (by omega))), if_pos qe]
        rfl
      · rw [if_pos (by rw [zI_inj (by omega) (by omega) (by omega) (by omega)]; omega), if_neg qe]
        rfl
  unfold d_287 d_287_4
  have key := it_ff (F := fun u : Int32 × Int32 => s_287_4 249 m u.1 u.2) (fun w => (zI (w : Nat), zI (ps w : Nat))) (fun w => wm B s e (kk w)) (fun w => zI (w : Nat)) (zI (-1)) 14 (fun w hw hp => ?_) (fun w hw hp => ?_) ?_
  · refine key.trans (congrArg some ?_)
    unfold wdx wdn
    split <;> rfl
  · dsimp only
    rw [st w hw, if_neg (by rw [hp]; decide)]
  · dsimp only
    rw [st w hw, if_pos hp]
  · dsimp only
    unfold s_287_4
    rw [if_pos (by rw [n_18.1]; decide +kernel), show (-1 : Int32) = zI (-1) from by decide]
end TG
