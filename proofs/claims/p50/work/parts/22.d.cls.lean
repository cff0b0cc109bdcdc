/-! What the class notes of a sending, and of a move. -/
section CV
variable {m : Mm} {W H g : Nat} {r r0 : Nat → Int}
theorem zbb {α : Type} {B : Bool} {f : Bool → Option α} : zb (bi B) f = f B := by
  cases B
  · exact if_pos rfl
  · exact (if_neg (by decide)).trans (if_pos rfl)
theorem z0n : (0 : Int32) = zI ((0 : Nat) : Int) := (Eq.refl (0 : Int32)).trans rfl
theorem z7n : (7 : Int32) = zI ((7 : Nat) : Int) := (Eq.refl (7 : Int32)).trans rfl
theorem bi_z {B : Bool} : bi B = zI (if B = true then 1 else 0) := by cases B <;> rfl
/-- a row of the latest ones, and the row that it comes to -/
theorem LV.ls {m1 M : Mm} {vs : Nat → Int} {q N : Nat} (h13 : 0 ≤ r 13 ∧ r 13 ≤ 20) (hN : (if r 13 = 20 then 19 else (r 13).toNat) = N) (k1 : m1 q 1 = zI (if r 13 = 20 then 20 else r 13 + 1)) (k2 : m1 q 2 = zI (r 12 + 1)) (k3 : ∀ k j : Nat, (k : Int) + 1 < (if r 13 = 20 then 20 else r 13 + 1) → j < 8 → m1 (q + 1) (8 * k + j) = zI (if r 13 = 20 then r (304 + 8 * (k + 1) + j) else r (304 + 8 * k + j))) (M0 : M q = m1 q) (M1 : ∀ j, j < 8 → M (q + 1) (8 * N + j) = zI (vs j)) (M2 : ∀ k, k < 8 * N → M (q + 1) k = m1 (q + 1) k) :
    LV M q (rls r vs 13) (rls r vs 12) 8 (fun k j => rls r vs (304 + 8 * k + j)) := by
  have e13 : rls r vs 13 = (if r 13 = 20 then 20 else r 13 + 1) := by unfold rls; rw [if_pos rfl]
  have e12 : rls r vs 12 = r 12 + 1 := by unfold rls; rw [if_neg (by decide), if_pos rfl]
  rw [e13, e12]
  have hk : (if r 13 = 20 then 20 else r 13 + 1) = ((N + 1 : Nat) : Int) := by
    split at hN <;> split <;> omega
  refine ⟨by rw [M0]; exact k1, by rw [M0]; exact k2, fun k j hkn hj => ?_⟩
  dsimp only
  rw [hk] at hkn
  have N20 : N < 20 := by split at hN <;> omega
  rw [rls_at h13.2 (by omega) hj, hN]
  by_cases e : k = N
  · rw [if_pos e, e]; exact M1 j hj
  · rw [if_neg e, M2 _ (by omega)]
    exact k3 k j (by rw [hk]; omega) hj
theorem c61 (hg : gA g) (hg2 : g + 18 < 234) (h : GR m g r0 W H) (hw : WH W H) (hk : rok r0) (h13 : 0 ≤ r0 13) {s q x y X Y : Nat} {t : Int} (h3 : r0 3 = s) (hS : SN m W H r s q x y X Y t) :
    An (d_61 g 234 (zI t) m) (fun m' => GR m' g (rls r0 (svs W H r s q x y X Y t)) W H ∧ ∀ a, a ≠ g + 15 → a ≠ g + 16 → m' a = m a) := by
  have F := gA_F hg
  have hl := F.2.2.2.2.2.2.2.2.1
  obtain ⟨S2, S3, S4, S5, S6, S7, S8, S9⟩ := hS
  unfold d_61
  rw [F.2.2.2.1]
  refine (c70 hl h.2.2.2.1 h13 hk.2.1 (by decide)).bd (fun m1 k1 => ?_)
  obtain ⟨k1, k2, k3, k4⟩ := k1
  generalize hN : (if r0 13 = 20 then 19 else (r0 13).toNat) = N
  have hN2 : N < 20 := by
    have := hk.2.1
    split at hN <;> omega
  have e1 : m1 (g + 15) 1 = zI ((N + 1 : Nat) : Int) := by
    rw [k1]
    congr 1
    have := hk.2.1
    split at hN <;> split <;> omega
  have st : ∀ (M : Mm), M (g + 15) 1 = zI ((N + 1 : Nat) : Int) → ∀ (j : Nat) (v : Int32), j < 8 → d_71 (g + 15) (zI (j : Nat)) v M = some (wr M (g + 15 + 1) (8 * N + j) v) := fun M hM j v hj => c71 hl hM hN2 hj
  have kp : ∀ (M : Mm) (k : Nat) (v : Int32), M (g + 15) 1 = zI ((N + 1 : Nat) : Int) → wr M (g + 15 + 1) k v (g + 15) 1 = zI ((N + 1 : Nat) : Int) := fun M k v hM => by rw [wr_ne (by omega)]; exact hM
  have n1 : g ≠ g + 15 + 1 := by omega
  have n2 : 234 ≠ g + 15 + 1 := by omega
  have n3 : 235 ≠ g + 15 + 1 := by omega
  have n4 : 236 ≠ g + 15 + 1 := by omega
  have o6 : m1 g 6 = zI (s : Nat) := by rw [k4 g (by omega) (by omega), h.2.2.2.2.2.2.1, h3]
  have o234 : m1 234 = m 234 := k4 234 (by omega) (by omega)
  have e92 : ∀ M : Mm, M 235 = m 235 → d_92 234 M = some (zI (fo (fun i v => v + fG r s x y X Y i) 6 0 : Nat)) := fun M hM => by
    unfold d_92
    rw [s_r0, c94s s_n5 (G := fG r s x y X Y) (fun k hk => by rw [hM]; exact S8 k hk)]
    rfl
  have e93 : ∀ M : Mm, M 236 = m 236 → d_93 234 M = some (zI (fo (fun i v => v + fl r s x y X Y t i) 6 0 : Nat)) := fun M hM => by
    unfold d_93
    rw [s_r1, c94s s_n6 (G := fl r s x y X Y t) (fun k hk => by rw [hM]; exact S9 k hk)]
    rfl
  have o235 : m1 235 = m 235 := k4 235 (by omega) (by omega)
  have o236 : m1 236 = m 236 := k4 236 (by omega) (by omega)
  rw [z0n, z1n, z2n, z3n, z4n, z5n, z6n, z7n]
  have q1 := kp m1 (8 * N + 0) (zI t) e1
  have q2 := kp _ (8 * N + 1) (zI (s : Nat)) q1
  have q3 := kp _ (8 * N + 2) (zI (fo (fun i v => v + fG r s x y X Y i) 6 0 : Nat)) q2
  have q4 := kp _ (8 * N + 3) (zI (fo (fun i v => v + fl r s x y X Y t i) 6 0 : Nat)) q3
  have q5 := kp _ (8 * N + 4) (zI (frd W H r s q x y X Y t)) q4
  have q6 := kp _ (8 * N + 5) (zI (fan W H r s q x y X Y t)) q5
  have q7 := kp _ (8 * N + 6) (zI (fsn W H r s q x y X Y t : Nat)) q6
  rw [st m1 e1 0 _ (by decide)]
  simp only [obs]
  rw [wr_ne n1, o6, st _ q1 1 _ (by decide)]
  simp only [obs]
  rw [e92 _ (by rw [wr_ne n3, wr_ne n3, o235])]
  simp only [obs]
  rw [st _ q2 2 _ (by decide)]
  simp only [obs]
  rw [e93 _ (by rw [wr_ne n4, wr_ne n4, wr_ne n4, o236])]
  simp only [obs]
  rw [st _ q3 3 _ (by decide)]
  simp only [obs]
  rw [wr_ne n2, wr_ne n2, wr_ne n2, wr_ne n2, o234, S3, st _ q4 4 _ (by decide)]
  simp only [obs]
  rw [wr_ne n2, wr_ne n2, wr_ne n2, wr_ne n2, wr_ne n2, o234, S4, st _ q5 5 _ (by decide)]
  simp only [obs]
  rw [wr_ne n2, wr_ne n2, wr_ne n2, wr_ne n2, wr_ne n2, wr_ne n2, o234, S5, st _ q6 6 _ (by decide)]
  simp only [obs]
  rw [wr_ne n2, wr_ne n2, wr_ne n2, wr_ne n2, wr_ne n2, wr_ne n2, wr_ne n2, o234, S6, zbb]
  have fin : ∀ B : Bool, B = fia W H r s q x y X Y t → An (d_61_107 (g + 15) (zI ((7 : Nat) : Int)) B (wr (wr (wr (wr (wr (wr (wr m1 (g + 15 + 1) (8 * N + 0) (zI t)) (g + 15 + 1) (8 * N + 1) (zI (s : Nat))) (g + 15 + 1) (8 * N + 2) (zI (fo (fun i v => v + fG r s x y X Y i) 6 0 : Nat))) (g + 15 + 1) (8 * N + 3) (zI (fo (fun i v => v + fl r s x y X Y t i) 6 0 : Nat))) (g + 15 + 1) (8 * N + 4) (zI (frd W H r s q x y X Y t))) (g + 15 + 1) (8 * N + 5) (zI (fan W H r s q x y X Y t))) (g + 15 + 1) (8 * N + 6) (zI (fsn W H r s q x y X Y t : Nat)))) (fun m' => GR m' g (rls r0 (svs W H r s q x y X Y t)) W H ∧ ∀ a, a ≠ g + 15 → a ≠ g + 16 → m' a = m a) := by
    intro B hB
    unfold d_61_107
    rw [st _ q7 7 _ (by decide)]
    simp only [obs]
    obtain ⟨w1, w2, w3⟩ := wr8 (m := m1) (a := g + 15 + 1) (b := 8 * N) (v := svs W H r s q x y X Y t) rfl
    have eq7 : bi B = zI (svs W H r s q x y X Y t 7) := by rw [bi_z, hB]; rfl
    rw [eq7]
    have fr : ∀ a, a ≠ g + 15 → a ≠ g + 16 → wr (wr (wr (wr (wr (wr (wr (wr m1 (g + 15 + 1) (8 * N + 0) (zI (svs W H r s q x y X Y t 0))) (g + 15 + 1) (8 * N + 1) (zI (svs W H r s q x y X Y t 1))) (g + 15 + 1) (8 * N + 2) (zI (svs W H r s q x y X Y t 2))) (g + 15 + 1) (8 * N + 3) (zI (svs W H r s q x y X Y t 3))) (g + 15 + 1) (8 * N + 4) (zI (svs W H r s q x y X Y t 4))) (g + 15 + 1) (8 * N + 5) (zI (svs W H r s q x y X Y t 5))) (g + 15 + 1) (8 * N + 6) (zI (svs W H r s q x y X Y t 6))) (g + 15 + 1) (8 * N + 7) (zI (svs W H r s q x y X Y t 7)) a = m a := fun a a1 a2 => by
      rw [w3 a a2, k4 a a1 a2]
    refine An.so ⟨h.cL hw hk.1 hk.2.2 (fun a a1 a2 a3 => fr a (by omega) (by omega)) (fun j _ hj => rls_n hj) ?_, fr⟩
    exact LV.ls ⟨h13, hk.2.1⟩ hN k1 k2 k3 (w3 _ (by omega)) w1 w2
  by_cases qB : fia W H r s q x y X Y t = true
  · rw [if_pos qB]; exact fin true qB.symm
  · rw [if_neg qB]; exact fin false (by cases hB : fia W H r s q x y X Y t <;> simp_all)
end CV
